section
-- ===== PART A: goes FIRST, ahead of the names: the tables' words, and 'selects' of the private methods out of them =====
/-- a private method of a class that the tables say can be made, by its rows of tables_1 -/
def lw_okq (q : MethodName × Nat) : Prop := (q.1.cls ≠ "java/lang/invoke/MethodHandle" ∧ q.1.cls ≠ "java/lang/invoke/VarHandle") ∧ Cond.instantiable q.1.cls q.2 ∈ tables_1 ∧ Cond.privateMethod q.1 ∈ tables_1 ∧ Cond.instanceMethod q.1 ∈ tables_1
theorem lw_p0 : lw_okq (⟨"MistCanton$Tape", "stepWord", "()V"⟩, 8) := ⟨⟨by decide +kernel, by decide +kernel⟩, List.mem_of_getElem? (i := 33) (by decide +kernel), List.mem_of_getElem? (i := 374) (by decide +kernel), List.mem_of_getElem? (i := 375) (by decide +kernel)⟩
theorem lw_p1 : lw_okq (⟨"MistCanton$Tape", "stepNumber", "()V"⟩, 8) := ⟨⟨by decide +kernel, by decide +kernel⟩, List.mem_of_getElem? (i := 33) (by decide +kernel), List.mem_of_getElem? (i := 378) (by decide +kernel), List.mem_of_getElem? (i := 379) (by decide +kernel)⟩
theorem lw_p2 : lw_okq (⟨"MistCanton$CantonReader", "readLine", "(LMistCanton$Canton;)Z"⟩, 2) := ⟨⟨by decide +kernel, by decide +kernel⟩, List.mem_of_getElem? (i := 76) (by decide +kernel), List.mem_of_getElem? (i := 469) (by decide +kernel), List.mem_of_getElem? (i := 470) (by decide +kernel)⟩
theorem lw_p3 : lw_okq (⟨"MistCanton$CantonReader", "readPerson", "(LMistCanton$Canton;)Z"⟩, 2) := ⟨⟨by decide +kernel, by decide +kernel⟩, List.mem_of_getElem? (i := 76) (by decide +kernel), List.mem_of_getElem? (i := 499) (by decide +kernel), List.mem_of_getElem? (i := 500) (by decide +kernel)⟩
theorem lw_p4 : lw_okq (⟨"MistCanton$CantonReader", "findFreshName", "(LMistCanton$Canton;)Z"⟩, 2) := ⟨⟨by decide +kernel, by decide +kernel⟩, List.mem_of_getElem? (i := 76) (by decide +kernel), List.mem_of_getElem? (i := 508) (by decide +kernel), List.mem_of_getElem? (i := 509) (by decide +kernel)⟩
theorem lw_p5 : lw_okq (⟨"MistCanton$CantonReader", "kindAtHand", "()I"⟩, 2) := ⟨⟨by decide +kernel, by decide +kernel⟩, List.mem_of_getElem? (i := 76) (by decide +kernel), List.mem_of_getElem? (i := 525) (by decide +kernel), List.mem_of_getElem? (i := 526) (by decide +kernel)⟩
theorem lw_p6 : lw_okq (⟨"MistCanton$CantonReader", "readEvent", "(LMistCanton$Canton;)Z"⟩, 2) := ⟨⟨by decide +kernel, by decide +kernel⟩, List.mem_of_getElem? (i := 76) (by decide +kernel), List.mem_of_getElem? (i := 556) (by decide +kernel), List.mem_of_getElem? (i := 557) (by decide +kernel)⟩
theorem lw_p7 : lw_okq (⟨"MistCanton$CantonReader", "readComes", "(LMistCanton$Canton;)Z"⟩, 2) := ⟨⟨by decide +kernel, by decide +kernel⟩, List.mem_of_getElem? (i := 76) (by decide +kernel), List.mem_of_getElem? (i := 563) (by decide +kernel), List.mem_of_getElem? (i := 564) (by decide +kernel)⟩
theorem lw_p8 : lw_okq (⟨"MistCanton$CantonReader", "readSnow", "(LMistCanton$Canton;)Z"⟩, 2) := ⟨⟨by decide +kernel, by decide +kernel⟩, List.mem_of_getElem? (i := 76) (by decide +kernel), List.mem_of_getElem? (i := 571) (by decide +kernel), List.mem_of_getElem? (i := 572) (by decide +kernel)⟩
theorem lw_p9 : lw_okq (⟨"MistCanton$CantonReader", "readSnowDay", "(LMistCanton$Canton;)Z"⟩, 2) := ⟨⟨by decide +kernel, by decide +kernel⟩, List.mem_of_getElem? (i := 76) (by decide +kernel), List.mem_of_getElem? (i := 575) (by decide +kernel), List.mem_of_getElem? (i := 576) (by decide +kernel)⟩
theorem lw_p10 : lw_okq (⟨"MistCanton$LawReader", "readLaw", "(LMistCanton$Law;I)Z"⟩, 1) := ⟨⟨by decide +kernel, by decide +kernel⟩, List.mem_of_getElem? (i := 82) (by decide +kernel), List.mem_of_getElem? (i := 597) (by decide +kernel), List.mem_of_getElem? (i := 598) (by decide +kernel)⟩
theorem lw_p11 : lw_okq (⟨"MistCanton$LawReader", "readTest", "(LMistCanton$Law;I)Z"⟩, 1) := ⟨⟨by decide +kernel, by decide +kernel⟩, List.mem_of_getElem? (i := 82) (by decide +kernel), List.mem_of_getElem? (i := 601) (by decide +kernel), List.mem_of_getElem? (i := 602) (by decide +kernel)⟩
theorem lw_p12 : lw_okq (⟨"MistCanton$LawReader", "readSum", "(LMistCanton$Law;I)Z"⟩, 1) := ⟨⟨by decide +kernel, by decide +kernel⟩, List.mem_of_getElem? (i := 82) (by decide +kernel), List.mem_of_getElem? (i := 605) (by decide +kernel), List.mem_of_getElem? (i := 606) (by decide +kernel)⟩
theorem lw_p13 : lw_okq (⟨"MistCanton$LawReader", "readProduct", "(LMistCanton$Law;I)Z"⟩, 1) := ⟨⟨by decide +kernel, by decide +kernel⟩, List.mem_of_getElem? (i := 82) (by decide +kernel), List.mem_of_getElem? (i := 609) (by decide +kernel), List.mem_of_getElem? (i := 610) (by decide +kernel)⟩
theorem lw_p14 : lw_okq (⟨"MistCanton$LawReader", "readPart", "(LMistCanton$Law;I)Z"⟩, 1) := ⟨⟨by decide +kernel, by decide +kernel⟩, List.mem_of_getElem? (i := 82) (by decide +kernel), List.mem_of_getElem? (i := 613) (by decide +kernel), List.mem_of_getElem? (i := 614) (by decide +kernel)⟩
theorem lw_p15 : lw_okq (⟨"MistCanton$LawReader", "factAtHand", "()I"⟩, 1) := ⟨⟨by decide +kernel, by decide +kernel⟩, List.mem_of_getElem? (i := 82) (by decide +kernel), List.mem_of_getElem? (i := 617) (by decide +kernel), List.mem_of_getElem? (i := 618) (by decide +kernel)⟩
def lw_privs_1 : List (MethodName × Nat) := [(⟨"MistCanton$Tape", "stepWord", "()V"⟩, 8), (⟨"MistCanton$Tape", "stepNumber", "()V"⟩, 8), (⟨"MistCanton$CantonReader", "readLine", "(LMistCanton$Canton;)Z"⟩, 2), (⟨"MistCanton$CantonReader", "readPerson", "(LMistCanton$Canton;)Z"⟩, 2), (⟨"MistCanton$CantonReader", "findFreshName", "(LMistCanton$Canton;)Z"⟩, 2), (⟨"MistCanton$CantonReader", "kindAtHand", "()I"⟩, 2), (⟨"MistCanton$CantonReader", "readEvent", "(LMistCanton$Canton;)Z"⟩, 2), (⟨"MistCanton$CantonReader", "readComes", "(LMistCanton$Canton;)Z"⟩, 2), (⟨"MistCanton$CantonReader", "readSnow", "(LMistCanton$Canton;)Z"⟩, 2), (⟨"MistCanton$CantonReader", "readSnowDay", "(LMistCanton$Canton;)Z"⟩, 2), (⟨"MistCanton$LawReader", "readLaw", "(LMistCanton$Law;I)Z"⟩, 1), (⟨"MistCanton$LawReader", "readTest", "(LMistCanton$Law;I)Z"⟩, 1), (⟨"MistCanton$LawReader", "readSum", "(LMistCanton$Law;I)Z"⟩, 1), (⟨"MistCanton$LawReader", "readProduct", "(LMistCanton$Law;I)Z"⟩, 1), (⟨"MistCanton$LawReader", "readPart", "(LMistCanton$Law;I)Z"⟩, 1), (⟨"MistCanton$LawReader", "factAtHand", "()I"⟩, 1)]
theorem lw_r1 : ∀ q ∈ lw_privs_1, lw_okq q := List.forall_mem_cons.mpr ⟨lw_p0, List.forall_mem_cons.mpr ⟨lw_p1, List.forall_mem_cons.mpr ⟨lw_p2, List.forall_mem_cons.mpr ⟨lw_p3, List.forall_mem_cons.mpr ⟨lw_p4, List.forall_mem_cons.mpr ⟨lw_p5, List.forall_mem_cons.mpr ⟨lw_p6, List.forall_mem_cons.mpr ⟨lw_p7, List.forall_mem_cons.mpr ⟨lw_p8, List.forall_mem_cons.mpr ⟨lw_p9, List.forall_mem_cons.mpr ⟨lw_p10, List.forall_mem_cons.mpr ⟨lw_p11, List.forall_mem_cons.mpr ⟨lw_p12, List.forall_mem_cons.mpr ⟨lw_p13, List.forall_mem_cons.mpr ⟨lw_p14, List.forall_mem_cons.mpr ⟨lw_p15, fun _ h => absurd h List.not_mem_nil⟩⟩⟩⟩⟩⟩⟩⟩⟩⟩⟩⟩⟩⟩⟩⟩
theorem lw_p16 : lw_okq (⟨"MistCanton", "beginAnew", "()V"⟩, 14) := ⟨⟨by decide +kernel, by decide +kernel⟩, List.mem_of_getElem? (i := 25) (by decide +kernel), List.mem_of_getElem? (i := 635) (by decide +kernel), List.mem_of_getElem? (i := 636) (by decide +kernel)⟩
theorem lw_p17 : lw_okq (⟨"MistCanton$WeekReader", "readLine", "(LMistCanton$Week;LMistCanton$Canton;)Z"⟩, 1) := ⟨⟨by decide +kernel, by decide +kernel⟩, List.mem_of_getElem? (i := 99) (by decide +kernel), List.mem_of_getElem? (i := 653) (by decide +kernel), List.mem_of_getElem? (i := 654) (by decide +kernel)⟩
theorem lw_p18 : lw_okq (⟨"MistCanton$WeekReader", "actAtHand", "()I"⟩, 1) := ⟨⟨by decide +kernel, by decide +kernel⟩, List.mem_of_getElem? (i := 99) (by decide +kernel), List.mem_of_getElem? (i := 657) (by decide +kernel), List.mem_of_getElem? (i := 658) (by decide +kernel)⟩
theorem lw_p19 : lw_okq (⟨"MistCanton$WeekReader", "readPerson", "(LMistCanton$Week;LMistCanton$Canton;)Z"⟩, 1) := ⟨⟨by decide +kernel, by decide +kernel⟩, List.mem_of_getElem? (i := 99) (by decide +kernel), List.mem_of_getElem? (i := 667) (by decide +kernel), List.mem_of_getElem? (i := 668) (by decide +kernel)⟩
theorem lw_p20 : lw_okq (⟨"MistCanton$WeekReader", "readLot", "(LMistCanton$Week;)Z"⟩, 1) := ⟨⟨by decide +kernel, by decide +kernel⟩, List.mem_of_getElem? (i := 99) (by decide +kernel), List.mem_of_getElem? (i := 673) (by decide +kernel), List.mem_of_getElem? (i := 674) (by decide +kernel)⟩
theorem lw_p21 : lw_okq (⟨"MistCanton", "isPerson", "(I)Z"⟩, 14) := ⟨⟨by decide +kernel, by decide +kernel⟩, List.mem_of_getElem? (i := 25) (by decide +kernel), List.mem_of_getElem? (i := 683) (by decide +kernel), List.mem_of_getElem? (i := 684) (by decide +kernel)⟩
theorem lw_p22 : lw_okq (⟨"MistCanton", "isEvent", "(I)Z"⟩, 14) := ⟨⟨by decide +kernel, by decide +kernel⟩, List.mem_of_getElem? (i := 25) (by decide +kernel), List.mem_of_getElem? (i := 707) (by decide +kernel), List.mem_of_getElem? (i := 708) (by decide +kernel)⟩
theorem lw_p23 : lw_okq (⟨"MistCanton$Canton", "gather", "(LMistCanton$State;Z)V"⟩, 13) := ⟨⟨by decide +kernel, by decide +kernel⟩, List.mem_of_getElem? (i := 109) (by decide +kernel), List.mem_of_getElem? (i := 741) (by decide +kernel), List.mem_of_getElem? (i := 742) (by decide +kernel)⟩
theorem lw_p24 : lw_okq (⟨"MistCanton$Canton", "drawing", "(II)I"⟩, 13) := ⟨⟨by decide +kernel, by decide +kernel⟩, List.mem_of_getElem? (i := 109) (by decide +kernel), List.mem_of_getElem? (i := 746) (by decide +kernel), List.mem_of_getElem? (i := 747) (by decide +kernel)⟩
theorem lw_p25 : lw_okq (⟨"MistCanton$Canton", "goesOut", "(ILMistCanton$State;Z)Z"⟩, 13) := ⟨⟨by decide +kernel, by decide +kernel⟩, List.mem_of_getElem? (i := 109) (by decide +kernel), List.mem_of_getElem? (i := 753) (by decide +kernel), List.mem_of_getElem? (i := 754) (by decide +kernel)⟩
theorem lw_p26 : lw_okq (⟨"MistCanton", "followLine", "(I)I"⟩, 14) := ⟨⟨by decide +kernel, by decide +kernel⟩, List.mem_of_getElem? (i := 25) (by decide +kernel), List.mem_of_getElem? (i := 808) (by decide +kernel), List.mem_of_getElem? (i := 809) (by decide +kernel)⟩
theorem lw_p27 : lw_okq (⟨"MistCanton", "passAhead", "()I"⟩, 14) := ⟨⟨by decide +kernel, by decide +kernel⟩, List.mem_of_getElem? (i := 25) (by decide +kernel), List.mem_of_getElem? (i := 812) (by decide +kernel), List.mem_of_getElem? (i := 813) (by decide +kernel)⟩
theorem lw_p28 : lw_okq (⟨"MistCanton", "timesHeld", "(II)I"⟩, 14) := ⟨⟨by decide +kernel, by decide +kernel⟩, List.mem_of_getElem? (i := 25) (by decide +kernel), List.mem_of_getElem? (i := 833) (by decide +kernel), List.mem_of_getElem? (i := 834) (by decide +kernel)⟩
theorem lw_p29 : lw_okq (⟨"MistCanton", "isHeldUnder", "(III)Z"⟩, 14) := ⟨⟨by decide +kernel, by decide +kernel⟩, List.mem_of_getElem? (i := 25) (by decide +kernel), List.mem_of_getElem? (i := 882) (by decide +kernel), List.mem_of_getElem? (i := 883) (by decide +kernel)⟩
theorem lw_p30 : lw_okq (⟨"MistCanton", "drawLots", "(J)J"⟩, 14) := ⟨⟨by decide +kernel, by decide +kernel⟩, List.mem_of_getElem? (i := 25) (by decide +kernel), List.mem_of_getElem? (i := 893) (by decide +kernel), List.mem_of_getElem? (i := 894) (by decide +kernel)⟩
theorem lw_p31 : lw_okq (⟨"MistCanton", "personsOf", "(I)I"⟩, 14) := ⟨⟨by decide +kernel, by decide +kernel⟩, List.mem_of_getElem? (i := 25) (by decide +kernel), List.mem_of_getElem? (i := 911) (by decide +kernel), List.mem_of_getElem? (i := 912) (by decide +kernel)⟩
def lw_privs_2 : List (MethodName × Nat) := [(⟨"MistCanton", "beginAnew", "()V"⟩, 14), (⟨"MistCanton$WeekReader", "readLine", "(LMistCanton$Week;LMistCanton$Canton;)Z"⟩, 1), (⟨"MistCanton$WeekReader", "actAtHand", "()I"⟩, 1), (⟨"MistCanton$WeekReader", "readPerson", "(LMistCanton$Week;LMistCanton$Canton;)Z"⟩, 1), (⟨"MistCanton$WeekReader", "readLot", "(LMistCanton$Week;)Z"⟩, 1), (⟨"MistCanton", "isPerson", "(I)Z"⟩, 14), (⟨"MistCanton", "isEvent", "(I)Z"⟩, 14), (⟨"MistCanton$Canton", "gather", "(LMistCanton$State;Z)V"⟩, 13), (⟨"MistCanton$Canton", "drawing", "(II)I"⟩, 13), (⟨"MistCanton$Canton", "goesOut", "(ILMistCanton$State;Z)Z"⟩, 13), (⟨"MistCanton", "followLine", "(I)I"⟩, 14), (⟨"MistCanton", "passAhead", "()I"⟩, 14), (⟨"MistCanton", "timesHeld", "(II)I"⟩, 14), (⟨"MistCanton", "isHeldUnder", "(III)Z"⟩, 14), (⟨"MistCanton", "drawLots", "(J)J"⟩, 14), (⟨"MistCanton", "personsOf", "(I)I"⟩, 14)]
theorem lw_r2 : ∀ q ∈ lw_privs_2, lw_okq q := List.forall_mem_cons.mpr ⟨lw_p16, List.forall_mem_cons.mpr ⟨lw_p17, List.forall_mem_cons.mpr ⟨lw_p18, List.forall_mem_cons.mpr ⟨lw_p19, List.forall_mem_cons.mpr ⟨lw_p20, List.forall_mem_cons.mpr ⟨lw_p21, List.forall_mem_cons.mpr ⟨lw_p22, List.forall_mem_cons.mpr ⟨lw_p23, List.forall_mem_cons.mpr ⟨lw_p24, List.forall_mem_cons.mpr ⟨lw_p25, List.forall_mem_cons.mpr ⟨lw_p26, List.forall_mem_cons.mpr ⟨lw_p27, List.forall_mem_cons.mpr ⟨lw_p28, List.forall_mem_cons.mpr ⟨lw_p29, List.forall_mem_cons.mpr ⟨lw_p30, List.forall_mem_cons.mpr ⟨lw_p31, fun _ h => absurd h List.not_mem_nil⟩⟩⟩⟩⟩⟩⟩⟩⟩⟩⟩⟩⟩⟩⟩⟩
theorem lw_p32 : lw_okq (⟨"MistCanton", "costOf", "(II)I"⟩, 14) := ⟨⟨by decide +kernel, by decide +kernel⟩, List.mem_of_getElem? (i := 25) (by decide +kernel), List.mem_of_getElem? (i := 920) (by decide +kernel), List.mem_of_getElem? (i := 921) (by decide +kernel)⟩
theorem lw_p33 : lw_okq (⟨"MistCanton", "guestsAt", "(III)I"⟩, 14) := ⟨⟨by decide +kernel, by decide +kernel⟩, List.mem_of_getElem? (i := 25) (by decide +kernel), List.mem_of_getElem? (i := 924) (by decide +kernel), List.mem_of_getElem? (i := 925) (by decide +kernel)⟩
theorem lw_p34 : lw_okq (⟨"MistCanton", "personsAt", "(I)I"⟩, 14) := ⟨⟨by decide +kernel, by decide +kernel⟩, List.mem_of_getElem? (i := 25) (by decide +kernel), List.mem_of_getElem? (i := 958) (by decide +kernel), List.mem_of_getElem? (i := 959) (by decide +kernel)⟩
theorem lw_p35 : lw_okq (⟨"MistCanton", "daysRight", "(I)I"⟩, 14) := ⟨⟨by decide +kernel, by decide +kernel⟩, List.mem_of_getElem? (i := 25) (by decide +kernel), List.mem_of_getElem? (i := 984) (by decide +kernel), List.mem_of_getElem? (i := 985) (by decide +kernel)⟩
theorem lw_p36 : lw_okq (⟨"MistCanton", "withTheirs", "(I)I"⟩, 14) := ⟨⟨by decide +kernel, by decide +kernel⟩, List.mem_of_getElem? (i := 25) (by decide +kernel), List.mem_of_getElem? (i := 992) (by decide +kernel), List.mem_of_getElem? (i := 993) (by decide +kernel)⟩
theorem lw_p37 : lw_okq (⟨"MistCanton", "circleOf", "(I)I"⟩, 14) := ⟨⟨by decide +kernel, by decide +kernel⟩, List.mem_of_getElem? (i := 25) (by decide +kernel), List.mem_of_getElem? (i := 1004) (by decide +kernel), List.mem_of_getElem? (i := 1005) (by decide +kernel)⟩
theorem lw_p38 : lw_okq (⟨"java/lang/Throwable", "fillInStackTrace", "(I)Ljava/lang/Throwable;"⟩, 6) := ⟨⟨by decide +kernel, by decide +kernel⟩, List.mem_of_getElem? (i := 1064) (by decide +kernel), List.mem_of_getElem? (i := 1062) (by decide +kernel), List.mem_of_getElem? (i := 1063) (by decide +kernel)⟩
theorem lw_p39 : lw_okq (⟨"MistCantonModel", "lay", "(J)V"⟩, 31) := ⟨⟨by decide +kernel, by decide +kernel⟩, List.mem_of_getElem? (i := 1106) (by decide +kernel), List.mem_of_getElem? (i := 1104) (by decide +kernel), List.mem_of_getElem? (i := 1105) (by decide +kernel)⟩
theorem lw_p40 : lw_okq (⟨"MistCantonModel", "standsAsAlways", "(I)V"⟩, 31) := ⟨⟨by decide +kernel, by decide +kernel⟩, List.mem_of_getElem? (i := 1106) (by decide +kernel), List.mem_of_getElem? (i := 1135) (by decide +kernel), List.mem_of_getElem? (i := 1136) (by decide +kernel)⟩
theorem lw_p41 : lw_okq (⟨"MistCantonModel", "begins", "()V"⟩, 31) := ⟨⟨by decide +kernel, by decide +kernel⟩, List.mem_of_getElem? (i := 1106) (by decide +kernel), List.mem_of_getElem? (i := 1139) (by decide +kernel), List.mem_of_getElem? (i := 1140) (by decide +kernel)⟩
theorem lw_p42 : lw_okq (⟨"MistCantonModel", "onsAsTold", "()V"⟩, 31) := ⟨⟨by decide +kernel, by decide +kernel⟩, List.mem_of_getElem? (i := 1106) (by decide +kernel), List.mem_of_getElem? (i := 1143) (by decide +kernel), List.mem_of_getElem? (i := 1144) (by decide +kernel)⟩
theorem lw_p43 : lw_okq (⟨"MistCantonModel", "events", "()I"⟩, 31) := ⟨⟨by decide +kernel, by decide +kernel⟩, List.mem_of_getElem? (i := 1106) (by decide +kernel), List.mem_of_getElem? (i := 1147) (by decide +kernel), List.mem_of_getElem? (i := 1148) (by decide +kernel)⟩
theorem lw_p44 : lw_okq (⟨"MistCantonModel", "eventOf", "(II)I"⟩, 31) := ⟨⟨by decide +kernel, by decide +kernel⟩, List.mem_of_getElem? (i := 1106) (by decide +kernel), List.mem_of_getElem? (i := 1151) (by decide +kernel), List.mem_of_getElem? (i := 1152) (by decide +kernel)⟩
theorem lw_p45 : lw_okq (⟨"MistCantonModel", "starts", "(I)V"⟩, 31) := ⟨⟨by decide +kernel, by decide +kernel⟩, List.mem_of_getElem? (i := 1106) (by decide +kernel), List.mem_of_getElem? (i := 1155) (by decide +kernel), List.mem_of_getElem? (i := 1156) (by decide +kernel)⟩
theorem lw_p46 : lw_okq (⟨"MistCantonModel", "persons", "()I"⟩, 31) := ⟨⟨by decide +kernel, by decide +kernel⟩, List.mem_of_getElem? (i := 1106) (by decide +kernel), List.mem_of_getElem? (i := 1159) (by decide +kernel), List.mem_of_getElem? (i := 1160) (by decide +kernel)⟩
theorem lw_p47 : lw_okq (⟨"MistCantonModel", "personOf", "(II)I"⟩, 31) := ⟨⟨by decide +kernel, by decide +kernel⟩, List.mem_of_getElem? (i := 1106) (by decide +kernel), List.mem_of_getElem? (i := 1163) (by decide +kernel), List.mem_of_getElem? (i := 1164) (by decide +kernel)⟩
def lw_privs_3 : List (MethodName × Nat) := [(⟨"MistCanton", "costOf", "(II)I"⟩, 14), (⟨"MistCanton", "guestsAt", "(III)I"⟩, 14), (⟨"MistCanton", "personsAt", "(I)I"⟩, 14), (⟨"MistCanton", "daysRight", "(I)I"⟩, 14), (⟨"MistCanton", "withTheirs", "(I)I"⟩, 14), (⟨"MistCanton", "circleOf", "(I)I"⟩, 14), (⟨"java/lang/Throwable", "fillInStackTrace", "(I)Ljava/lang/Throwable;"⟩, 6), (⟨"MistCantonModel", "lay", "(J)V"⟩, 31), (⟨"MistCantonModel", "standsAsAlways", "(I)V"⟩, 31), (⟨"MistCantonModel", "begins", "()V"⟩, 31), (⟨"MistCantonModel", "onsAsTold", "()V"⟩, 31), (⟨"MistCantonModel", "events", "()I"⟩, 31), (⟨"MistCantonModel", "eventOf", "(II)I"⟩, 31), (⟨"MistCantonModel", "starts", "(I)V"⟩, 31), (⟨"MistCantonModel", "persons", "()I"⟩, 31), (⟨"MistCantonModel", "personOf", "(II)I"⟩, 31)]
theorem lw_r3 : ∀ q ∈ lw_privs_3, lw_okq q := List.forall_mem_cons.mpr ⟨lw_p32, List.forall_mem_cons.mpr ⟨lw_p33, List.forall_mem_cons.mpr ⟨lw_p34, List.forall_mem_cons.mpr ⟨lw_p35, List.forall_mem_cons.mpr ⟨lw_p36, List.forall_mem_cons.mpr ⟨lw_p37, List.forall_mem_cons.mpr ⟨lw_p38, List.forall_mem_cons.mpr ⟨lw_p39, List.forall_mem_cons.mpr ⟨lw_p40, List.forall_mem_cons.mpr ⟨lw_p41, List.forall_mem_cons.mpr ⟨lw_p42, List.forall_mem_cons.mpr ⟨lw_p43, List.forall_mem_cons.mpr ⟨lw_p44, List.forall_mem_cons.mpr ⟨lw_p45, List.forall_mem_cons.mpr ⟨lw_p46, List.forall_mem_cons.mpr ⟨lw_p47, fun _ h => absurd h List.not_mem_nil⟩⟩⟩⟩⟩⟩⟩⟩⟩⟩⟩⟩⟩⟩⟩⟩
theorem lw_p48 : lw_okq (⟨"MistCantonModel", "cutAll", "()V"⟩, 31) := ⟨⟨by decide +kernel, by decide +kernel⟩, List.mem_of_getElem? (i := 1106) (by decide +kernel), List.mem_of_getElem? (i := 1266) (by decide +kernel), List.mem_of_getElem? (i := 1267) (by decide +kernel)⟩
theorem lw_p49 : lw_okq (⟨"MistCantonModel", "readLine", "()V"⟩, 31) := ⟨⟨by decide +kernel, by decide +kernel⟩, List.mem_of_getElem? (i := 1106) (by decide +kernel), List.mem_of_getElem? (i := 1285) (by decide +kernel), List.mem_of_getElem? (i := 1286) (by decide +kernel)⟩
theorem lw_p50 : lw_okq (⟨"MistCantonModel", "isWord", "(I)Z"⟩, 31) := ⟨⟨by decide +kernel, by decide +kernel⟩, List.mem_of_getElem? (i := 1106) (by decide +kernel), List.mem_of_getElem? (i := 1289) (by decide +kernel), List.mem_of_getElem? (i := 1290) (by decide +kernel)⟩
theorem lw_p51 : lw_okq (⟨"MistCantonModel", "readName", "(III)V"⟩, 31) := ⟨⟨by decide +kernel, by decide +kernel⟩, List.mem_of_getElem? (i := 1106) (by decide +kernel), List.mem_of_getElem? (i := 1293) (by decide +kernel), List.mem_of_getElem? (i := 1294) (by decide +kernel)⟩
theorem lw_p52 : lw_okq (⟨"MistCantonModel", "wrong", "(I)V"⟩, 31) := ⟨⟨by decide +kernel, by decide +kernel⟩, List.mem_of_getElem? (i := 1106) (by decide +kernel), List.mem_of_getElem? (i := 1297) (by decide +kernel), List.mem_of_getElem? (i := 1298) (by decide +kernel)⟩
theorem lw_p53 : lw_okq (⟨"MistCantonModel", "isName", "()Z"⟩, 31) := ⟨⟨by decide +kernel, by decide +kernel⟩, List.mem_of_getElem? (i := 1106) (by decide +kernel), List.mem_of_getElem? (i := 1301) (by decide +kernel), List.mem_of_getElem? (i := 1302) (by decide +kernel)⟩
theorem lw_p54 : lw_okq (⟨"MistCantonModel", "wordHere", "(II)I"⟩, 31) := ⟨⟨by decide +kernel, by decide +kernel⟩, List.mem_of_getElem? (i := 1106) (by decide +kernel), List.mem_of_getElem? (i := 1305) (by decide +kernel), List.mem_of_getElem? (i := 1306) (by decide +kernel)⟩
theorem lw_p55 : lw_okq (⟨"MistCantonModel", "nameAt", "(Z)I"⟩, 31) := ⟨⟨by decide +kernel, by decide +kernel⟩, List.mem_of_getElem? (i := 1106) (by decide +kernel), List.mem_of_getElem? (i := 1309) (by decide +kernel), List.mem_of_getElem? (i := 1310) (by decide +kernel)⟩
theorem lw_p56 : lw_okq (⟨"MistCantonModel", "takeOne", "(II)I"⟩, 31) := ⟨⟨by decide +kernel, by decide +kernel⟩, List.mem_of_getElem? (i := 1106) (by decide +kernel), List.mem_of_getElem? (i := 1313) (by decide +kernel), List.mem_of_getElem? (i := 1314) (by decide +kernel)⟩
theorem lw_p57 : lw_okq (⟨"MistCantonModel", "takeAfter", "(III)I"⟩, 31) := ⟨⟨by decide +kernel, by decide +kernel⟩, List.mem_of_getElem? (i := 1106) (by decide +kernel), List.mem_of_getElem? (i := 1317) (by decide +kernel), List.mem_of_getElem? (i := 1318) (by decide +kernel)⟩
theorem lw_p58 : lw_okq (⟨"MistCantonModel", "takeWord", "(I)V"⟩, 31) := ⟨⟨by decide +kernel, by decide +kernel⟩, List.mem_of_getElem? (i := 1106) (by decide +kernel), List.mem_of_getElem? (i := 1321) (by decide +kernel), List.mem_of_getElem? (i := 1322) (by decide +kernel)⟩
theorem lw_p59 : lw_okq (⟨"MistCantonModel", "hasWord", "(I)Z"⟩, 31) := ⟨⟨by decide +kernel, by decide +kernel⟩, List.mem_of_getElem? (i := 1106) (by decide +kernel), List.mem_of_getElem? (i := 1325) (by decide +kernel), List.mem_of_getElem? (i := 1326) (by decide +kernel)⟩
theorem lw_p60 : lw_okq (⟨"MistCantonModel", "takeNumber", "(II)I"⟩, 31) := ⟨⟨by decide +kernel, by decide +kernel⟩, List.mem_of_getElem? (i := 1106) (by decide +kernel), List.mem_of_getElem? (i := 1329) (by decide +kernel), List.mem_of_getElem? (i := 1330) (by decide +kernel)⟩
theorem lw_p61 : lw_okq (⟨"MistCantonModel", "takeTold", "(ZII)I"⟩, 31) := ⟨⟨by decide +kernel, by decide +kernel⟩, List.mem_of_getElem? (i := 1106) (by decide +kernel), List.mem_of_getElem? (i := 1333) (by decide +kernel), List.mem_of_getElem? (i := 1334) (by decide +kernel)⟩
theorem lw_p62 : lw_okq (⟨"MistCantonModel", "readOnce", "()V"⟩, 31) := ⟨⟨by decide +kernel, by decide +kernel⟩, List.mem_of_getElem? (i := 1106) (by decide +kernel), List.mem_of_getElem? (i := 1340) (by decide +kernel), List.mem_of_getElem? (i := 1341) (by decide +kernel)⟩
theorem lw_p63 : lw_okq (⟨"MistCantonModel", "readSnow", "()V"⟩, 31) := ⟨⟨by decide +kernel, by decide +kernel⟩, List.mem_of_getElem? (i := 1106) (by decide +kernel), List.mem_of_getElem? (i := 1344) (by decide +kernel), List.mem_of_getElem? (i := 1345) (by decide +kernel)⟩
def lw_privs_4 : List (MethodName × Nat) := [(⟨"MistCantonModel", "cutAll", "()V"⟩, 31), (⟨"MistCantonModel", "readLine", "()V"⟩, 31), (⟨"MistCantonModel", "isWord", "(I)Z"⟩, 31), (⟨"MistCantonModel", "readName", "(III)V"⟩, 31), (⟨"MistCantonModel", "wrong", "(I)V"⟩, 31), (⟨"MistCantonModel", "isName", "()Z"⟩, 31), (⟨"MistCantonModel", "wordHere", "(II)I"⟩, 31), (⟨"MistCantonModel", "nameAt", "(Z)I"⟩, 31), (⟨"MistCantonModel", "takeOne", "(II)I"⟩, 31), (⟨"MistCantonModel", "takeAfter", "(III)I"⟩, 31), (⟨"MistCantonModel", "takeWord", "(I)V"⟩, 31), (⟨"MistCantonModel", "hasWord", "(I)Z"⟩, 31), (⟨"MistCantonModel", "takeNumber", "(II)I"⟩, 31), (⟨"MistCantonModel", "takeTold", "(ZII)I"⟩, 31), (⟨"MistCantonModel", "readOnce", "()V"⟩, 31), (⟨"MistCantonModel", "readSnow", "()V"⟩, 31)]
theorem lw_r4 : ∀ q ∈ lw_privs_4, lw_okq q := List.forall_mem_cons.mpr ⟨lw_p48, List.forall_mem_cons.mpr ⟨lw_p49, List.forall_mem_cons.mpr ⟨lw_p50, List.forall_mem_cons.mpr ⟨lw_p51, List.forall_mem_cons.mpr ⟨lw_p52, List.forall_mem_cons.mpr ⟨lw_p53, List.forall_mem_cons.mpr ⟨lw_p54, List.forall_mem_cons.mpr ⟨lw_p55, List.forall_mem_cons.mpr ⟨lw_p56, List.forall_mem_cons.mpr ⟨lw_p57, List.forall_mem_cons.mpr ⟨lw_p58, List.forall_mem_cons.mpr ⟨lw_p59, List.forall_mem_cons.mpr ⟨lw_p60, List.forall_mem_cons.mpr ⟨lw_p61, List.forall_mem_cons.mpr ⟨lw_p62, List.forall_mem_cons.mpr ⟨lw_p63, fun _ h => absurd h List.not_mem_nil⟩⟩⟩⟩⟩⟩⟩⟩⟩⟩⟩⟩⟩⟩⟩⟩
theorem lw_p64 : lw_okq (⟨"MistCantonModel", "whole", "(I)V"⟩, 31) := ⟨⟨by decide +kernel, by decide +kernel⟩, List.mem_of_getElem? (i := 1106) (by decide +kernel), List.mem_of_getElem? (i := 1348) (by decide +kernel), List.mem_of_getElem? (i := 1349) (by decide +kernel)⟩
theorem lw_p65 : lw_okq (⟨"MistCantonModel", "test", "(I)V"⟩, 31) := ⟨⟨by decide +kernel, by decide +kernel⟩, List.mem_of_getElem? (i := 1106) (by decide +kernel), List.mem_of_getElem? (i := 1352) (by decide +kernel), List.mem_of_getElem? (i := 1353) (by decide +kernel)⟩
theorem lw_p66 : lw_okq (⟨"MistCantonModel", "sums", "(I)V"⟩, 31) := ⟨⟨by decide +kernel, by decide +kernel⟩, List.mem_of_getElem? (i := 1106) (by decide +kernel), List.mem_of_getElem? (i := 1356) (by decide +kernel), List.mem_of_getElem? (i := 1357) (by decide +kernel)⟩
theorem lw_p67 : lw_okq (⟨"MistCantonModel", "products", "(I)V"⟩, 31) := ⟨⟨by decide +kernel, by decide +kernel⟩, List.mem_of_getElem? (i := 1106) (by decide +kernel), List.mem_of_getElem? (i := 1360) (by decide +kernel), List.mem_of_getElem? (i := 1361) (by decide +kernel)⟩
theorem lw_p68 : lw_okq (⟨"MistCantonModel", "takePart", "(I)V"⟩, 31) := ⟨⟨by decide +kernel, by decide +kernel⟩, List.mem_of_getElem? (i := 1106) (by decide +kernel), List.mem_of_getElem? (i := 1364) (by decide +kernel), List.mem_of_getElem? (i := 1365) (by decide +kernel)⟩
theorem lw_p69 : lw_okq (⟨"MistCantonModel", "isSign", "(I)Z"⟩, 31) := ⟨⟨by decide +kernel, by decide +kernel⟩, List.mem_of_getElem? (i := 1106) (by decide +kernel), List.mem_of_getElem? (i := 1368) (by decide +kernel), List.mem_of_getElem? (i := 1369) (by decide +kernel)⟩
theorem lw_p70 : lw_okq (⟨"MistCantonModel", "emit", "(II)V"⟩, 31) := ⟨⟨by decide +kernel, by decide +kernel⟩, List.mem_of_getElem? (i := 1106) (by decide +kernel), List.mem_of_getElem? (i := 1372) (by decide +kernel), List.mem_of_getElem? (i := 1373) (by decide +kernel)⟩
theorem lw_p71 : lw_okq (⟨"MistCantonModel", "hasSign", "(I)Z"⟩, 31) := ⟨⟨by decide +kernel, by decide +kernel⟩, List.mem_of_getElem? (i := 1106) (by decide +kernel), List.mem_of_getElem? (i := 1376) (by decide +kernel), List.mem_of_getElem? (i := 1377) (by decide +kernel)⟩
theorem lw_p72 : lw_okq (⟨"MistCantonModel", "takeSign", "(I)V"⟩, 31) := ⟨⟨by decide +kernel, by decide +kernel⟩, List.mem_of_getElem? (i := 1106) (by decide +kernel), List.mem_of_getElem? (i := 1380) (by decide +kernel), List.mem_of_getElem? (i := 1381) (by decide +kernel)⟩
theorem lw_p73 : lw_okq (⟨"MistCantonModel", "isPerson", "(I)Z"⟩, 31) := ⟨⟨by decide +kernel, by decide +kernel⟩, List.mem_of_getElem? (i := 1106) (by decide +kernel), List.mem_of_getElem? (i := 1392) (by decide +kernel), List.mem_of_getElem? (i := 1393) (by decide +kernel)⟩
theorem lw_p74 : lw_okq (⟨"MistCantonModel", "toOne", "(I)I"⟩, 31) := ⟨⟨by decide +kernel, by decide +kernel⟩, List.mem_of_getElem? (i := 1106) (by decide +kernel), List.mem_of_getElem? (i := 1396) (by decide +kernel), List.mem_of_getElem? (i := 1397) (by decide +kernel)⟩
theorem lw_p75 : lw_okq (⟨"MistCantonModel", "offOf", "(II)I"⟩, 31) := ⟨⟨by decide +kernel, by decide +kernel⟩, List.mem_of_getElem? (i := 1106) (by decide +kernel), List.mem_of_getElem? (i := 1400) (by decide +kernel), List.mem_of_getElem? (i := 1401) (by decide +kernel)⟩
theorem lw_p76 : lw_okq (⟨"MistCantonModel", "snowOn", "(I)I"⟩, 31) := ⟨⟨by decide +kernel, by decide +kernel⟩, List.mem_of_getElem? (i := 1106) (by decide +kernel), List.mem_of_getElem? (i := 1404) (by decide +kernel), List.mem_of_getElem? (i := 1405) (by decide +kernel)⟩
theorem lw_p77 : lw_okq (⟨"MistCantonModel", "isEvent", "(I)Z"⟩, 31) := ⟨⟨by decide +kernel, by decide +kernel⟩, List.mem_of_getElem? (i := 1106) (by decide +kernel), List.mem_of_getElem? (i := 1415) (by decide +kernel), List.mem_of_getElem? (i := 1416) (by decide +kernel)⟩
theorem lw_p78 : lw_okq (⟨"MistCantonModel", "invitedTo", "(I)I"⟩, 31) := ⟨⟨by decide +kernel, by decide +kernel⟩, List.mem_of_getElem? (i := 1106) (by decide +kernel), List.mem_of_getElem? (i := 1419) (by decide +kernel), List.mem_of_getElem? (i := 1420) (by decide +kernel)⟩
theorem lw_p79 : lw_okq (⟨"MistCantonModel", "isToCome", "(II)Z"⟩, 31) := ⟨⟨by decide +kernel, by decide +kernel⟩, List.mem_of_getElem? (i := 1106) (by decide +kernel), List.mem_of_getElem? (i := 1423) (by decide +kernel), List.mem_of_getElem? (i := 1424) (by decide +kernel)⟩
def lw_privs_5 : List (MethodName × Nat) := [(⟨"MistCantonModel", "whole", "(I)V"⟩, 31), (⟨"MistCantonModel", "test", "(I)V"⟩, 31), (⟨"MistCantonModel", "sums", "(I)V"⟩, 31), (⟨"MistCantonModel", "products", "(I)V"⟩, 31), (⟨"MistCantonModel", "takePart", "(I)V"⟩, 31), (⟨"MistCantonModel", "isSign", "(I)Z"⟩, 31), (⟨"MistCantonModel", "emit", "(II)V"⟩, 31), (⟨"MistCantonModel", "hasSign", "(I)Z"⟩, 31), (⟨"MistCantonModel", "takeSign", "(I)V"⟩, 31), (⟨"MistCantonModel", "isPerson", "(I)Z"⟩, 31), (⟨"MistCantonModel", "toOne", "(I)I"⟩, 31), (⟨"MistCantonModel", "offOf", "(II)I"⟩, 31), (⟨"MistCantonModel", "snowOn", "(I)I"⟩, 31), (⟨"MistCantonModel", "isEvent", "(I)Z"⟩, 31), (⟨"MistCantonModel", "invitedTo", "(I)I"⟩, 31), (⟨"MistCantonModel", "isToCome", "(II)Z"⟩, 31)]
theorem lw_r5 : ∀ q ∈ lw_privs_5, lw_okq q := List.forall_mem_cons.mpr ⟨lw_p64, List.forall_mem_cons.mpr ⟨lw_p65, List.forall_mem_cons.mpr ⟨lw_p66, List.forall_mem_cons.mpr ⟨lw_p67, List.forall_mem_cons.mpr ⟨lw_p68, List.forall_mem_cons.mpr ⟨lw_p69, List.forall_mem_cons.mpr ⟨lw_p70, List.forall_mem_cons.mpr ⟨lw_p71, List.forall_mem_cons.mpr ⟨lw_p72, List.forall_mem_cons.mpr ⟨lw_p73, List.forall_mem_cons.mpr ⟨lw_p74, List.forall_mem_cons.mpr ⟨lw_p75, List.forall_mem_cons.mpr ⟨lw_p76, List.forall_mem_cons.mpr ⟨lw_p77, List.forall_mem_cons.mpr ⟨lw_p78, List.forall_mem_cons.mpr ⟨lw_p79, fun _ h => absurd h List.not_mem_nil⟩⟩⟩⟩⟩⟩⟩⟩⟩⟩⟩⟩⟩⟩⟩⟩
theorem lw_p80 : lw_okq (⟨"MistCantonModel", "keeps", "()V"⟩, 31) := ⟨⟨by decide +kernel, by decide +kernel⟩, List.mem_of_getElem? (i := 1106) (by decide +kernel), List.mem_of_getElem? (i := 1431) (by decide +kernel), List.mem_of_getElem? (i := 1432) (by decide +kernel)⟩
theorem lw_p81 : lw_okq (⟨"MistCantonModel", "copies", "(III)V"⟩, 31) := ⟨⟨by decide +kernel, by decide +kernel⟩, List.mem_of_getElem? (i := 1106) (by decide +kernel), List.mem_of_getElem? (i := 1435) (by decide +kernel), List.mem_of_getElem? (i := 1436) (by decide +kernel)⟩
theorem lw_p82 : lw_okq (⟨"MistCantonModel", "passes", "(I)I"⟩, 31) := ⟨⟨by decide +kernel, by decide +kernel⟩, List.mem_of_getElem? (i := 1106) (by decide +kernel), List.mem_of_getElem? (i := 1439) (by decide +kernel), List.mem_of_getElem? (i := 1440) (by decide +kernel)⟩
theorem lw_p83 : lw_okq (⟨"MistCantonModel", "passes", "(II)I"⟩, 31) := ⟨⟨by decide +kernel, by decide +kernel⟩, List.mem_of_getElem? (i := 1106) (by decide +kernel), List.mem_of_getElem? (i := 1443) (by decide +kernel), List.mem_of_getElem? (i := 1444) (by decide +kernel)⟩
theorem lw_p84 : lw_okq (⟨"MistCantonModel", "worthAt", "(I)I"⟩, 31) := ⟨⟨by decide +kernel, by decide +kernel⟩, List.mem_of_getElem? (i := 1106) (by decide +kernel), List.mem_of_getElem? (i := 1450) (by decide +kernel), List.mem_of_getElem? (i := 1451) (by decide +kernel)⟩
theorem lw_p85 : lw_okq (⟨"MistCantonModel", "doesCome", "(IIII)Z"⟩, 31) := ⟨⟨by decide +kernel, by decide +kernel⟩, List.mem_of_getElem? (i := 1106) (by decide +kernel), List.mem_of_getElem? (i := 1457) (by decide +kernel), List.mem_of_getElem? (i := 1458) (by decide +kernel)⟩
theorem lw_p86 : lw_okq (⟨"MistCantonModel", "asks", "(II)V"⟩, 31) := ⟨⟨by decide +kernel, by decide +kernel⟩, List.mem_of_getElem? (i := 1106) (by decide +kernel), List.mem_of_getElem? (i := 1469) (by decide +kernel), List.mem_of_getElem? (i := 1470) (by decide +kernel)⟩
theorem lw_p87 : lw_okq (⟨"MistCantonModel", "pairsMet", "(I)I"⟩, 31) := ⟨⟨by decide +kernel, by decide +kernel⟩, List.mem_of_getElem? (i := 1106) (by decide +kernel), List.mem_of_getElem? (i := 1481) (by decide +kernel), List.mem_of_getElem? (i := 1482) (by decide +kernel)⟩
theorem lw_p88 : lw_okq (⟨"MistCantonModel", "sumOf", "(II)I"⟩, 31) := ⟨⟨by decide +kernel, by decide +kernel⟩, List.mem_of_getElem? (i := 1106) (by decide +kernel), List.mem_of_getElem? (i := 1485) (by decide +kernel), List.mem_of_getElem? (i := 1486) (by decide +kernel)⟩
theorem lw_p89 : lw_okq (⟨"MistCantonModel", "triesNow", "()V"⟩, 31) := ⟨⟨by decide +kernel, by decide +kernel⟩, List.mem_of_getElem? (i := 1106) (by decide +kernel), List.mem_of_getElem? (i := 1493) (by decide +kernel), List.mem_of_getElem? (i := 1494) (by decide +kernel)⟩
theorem lw_p90 : lw_okq (⟨"MistCantonModel", "comersOf", "(I)I"⟩, 31) := ⟨⟨by decide +kernel, by decide +kernel⟩, List.mem_of_getElem? (i := 1106) (by decide +kernel), List.mem_of_getElem? (i := 1517) (by decide +kernel), List.mem_of_getElem? (i := 1518) (by decide +kernel)⟩
theorem lw_p91 : lw_okq (⟨"MistCantonModel", "ofOff", "(I)I"⟩, 31) := ⟨⟨by decide +kernel, by decide +kernel⟩, List.mem_of_getElem? (i := 1106) (by decide +kernel), List.mem_of_getElem? (i := 1553) (by decide +kernel), List.mem_of_getElem? (i := 1554) (by decide +kernel)⟩
theorem lw_p92 : lw_okq (⟨"MistCantonModel", "costOf", "(II)I"⟩, 31) := ⟨⟨by decide +kernel, by decide +kernel⟩, List.mem_of_getElem? (i := 1106) (by decide +kernel), List.mem_of_getElem? (i := 1561) (by decide +kernel), List.mem_of_getElem? (i := 1562) (by decide +kernel)⟩
theorem lw_p93 : lw_okq (⟨"MistCantonModel", "lotsNow", "()I"⟩, 31) := ⟨⟨by decide +kernel, by decide +kernel⟩, List.mem_of_getElem? (i := 1106) (by decide +kernel), List.mem_of_getElem? (i := 1576) (by decide +kernel), List.mem_of_getElem? (i := 1577) (by decide +kernel)⟩
theorem lw_p94 : lw_okq (⟨"MistCantonModel", "doesLotCome", "(III)Z"⟩, 31) := ⟨⟨by decide +kernel, by decide +kernel⟩, List.mem_of_getElem? (i := 1106) (by decide +kernel), List.mem_of_getElem? (i := 1580) (by decide +kernel), List.mem_of_getElem? (i := 1581) (by decide +kernel)⟩
theorem lw_p95 : lw_okq (⟨"MistCantonModel", "guessOf", "()I"⟩, 31) := ⟨⟨by decide +kernel, by decide +kernel⟩, List.mem_of_getElem? (i := 1106) (by decide +kernel), List.mem_of_getElem? (i := 1592) (by decide +kernel), List.mem_of_getElem? (i := 1593) (by decide +kernel)⟩
def lw_privs_6 : List (MethodName × Nat) := [(⟨"MistCantonModel", "keeps", "()V"⟩, 31), (⟨"MistCantonModel", "copies", "(III)V"⟩, 31), (⟨"MistCantonModel", "passes", "(I)I"⟩, 31), (⟨"MistCantonModel", "passes", "(II)I"⟩, 31), (⟨"MistCantonModel", "worthAt", "(I)I"⟩, 31), (⟨"MistCantonModel", "doesCome", "(IIII)Z"⟩, 31), (⟨"MistCantonModel", "asks", "(II)V"⟩, 31), (⟨"MistCantonModel", "pairsMet", "(I)I"⟩, 31), (⟨"MistCantonModel", "sumOf", "(II)I"⟩, 31), (⟨"MistCantonModel", "triesNow", "()V"⟩, 31), (⟨"MistCantonModel", "comersOf", "(I)I"⟩, 31), (⟨"MistCantonModel", "ofOff", "(I)I"⟩, 31), (⟨"MistCantonModel", "costOf", "(II)I"⟩, 31), (⟨"MistCantonModel", "lotsNow", "()I"⟩, 31), (⟨"MistCantonModel", "doesLotCome", "(III)Z"⟩, 31), (⟨"MistCantonModel", "guessOf", "()I"⟩, 31)]
theorem lw_r6 : ∀ q ∈ lw_privs_6, lw_okq q := List.forall_mem_cons.mpr ⟨lw_p80, List.forall_mem_cons.mpr ⟨lw_p81, List.forall_mem_cons.mpr ⟨lw_p82, List.forall_mem_cons.mpr ⟨lw_p83, List.forall_mem_cons.mpr ⟨lw_p84, List.forall_mem_cons.mpr ⟨lw_p85, List.forall_mem_cons.mpr ⟨lw_p86, List.forall_mem_cons.mpr ⟨lw_p87, List.forall_mem_cons.mpr ⟨lw_p88, List.forall_mem_cons.mpr ⟨lw_p89, List.forall_mem_cons.mpr ⟨lw_p90, List.forall_mem_cons.mpr ⟨lw_p91, List.forall_mem_cons.mpr ⟨lw_p92, List.forall_mem_cons.mpr ⟨lw_p93, List.forall_mem_cons.mpr ⟨lw_p94, List.forall_mem_cons.mpr ⟨lw_p95, fun _ h => absurd h List.not_mem_nil⟩⟩⟩⟩⟩⟩⟩⟩⟩⟩⟩⟩⟩⟩⟩⟩
theorem lw_p96 : lw_okq (⟨"MistCantonModel", "toHow", "(I)I"⟩, 31) := ⟨⟨by decide +kernel, by decide +kernel⟩, List.mem_of_getElem? (i := 1106) (by decide +kernel), List.mem_of_getElem? (i := 1596) (by decide +kernel), List.mem_of_getElem? (i := 1597) (by decide +kernel)⟩
theorem lw_p97 : lw_okq (⟨"MistCantonModel", "around", "(II)I"⟩, 31) := ⟨⟨by decide +kernel, by decide +kernel⟩, List.mem_of_getElem? (i := 1106) (by decide +kernel), List.mem_of_getElem? (i := 1624) (by decide +kernel), List.mem_of_getElem? (i := 1625) (by decide +kernel)⟩
theorem lw_p98 : lw_okq (⟨"MistCantonModel", "drawsDeed", "()V"⟩, 31) := ⟨⟨by decide +kernel, by decide +kernel⟩, List.mem_of_getElem? (i := 1106) (by decide +kernel), List.mem_of_getElem? (i := 1660) (by decide +kernel), List.mem_of_getElem? (i := 1661) (by decide +kernel)⟩
theorem lw_p99 : lw_okq (⟨"MistCantonModel", "draw", "(I)I"⟩, 31) := ⟨⟨by decide +kernel, by decide +kernel⟩, List.mem_of_getElem? (i := 1106) (by decide +kernel), List.mem_of_getElem? (i := 1664) (by decide +kernel), List.mem_of_getElem? (i := 1665) (by decide +kernel)⟩
def lw_privs_7 : List (MethodName × Nat) := [(⟨"MistCantonModel", "toHow", "(I)I"⟩, 31), (⟨"MistCantonModel", "around", "(II)I"⟩, 31), (⟨"MistCantonModel", "drawsDeed", "()V"⟩, 31), (⟨"MistCantonModel", "draw", "(I)I"⟩, 31)]
theorem lw_r7 : ∀ q ∈ lw_privs_7, lw_okq q := List.forall_mem_cons.mpr ⟨lw_p96, List.forall_mem_cons.mpr ⟨lw_p97, List.forall_mem_cons.mpr ⟨lw_p98, List.forall_mem_cons.mpr ⟨lw_p99, fun _ h => absurd h List.not_mem_nil⟩⟩⟩⟩
def lw_privs : List (MethodName × Nat) := lw_privs_1 ++ (lw_privs_2 ++ (lw_privs_3 ++ (lw_privs_4 ++ (lw_privs_5 ++ (lw_privs_6 ++ (lw_privs_7))))))
def lw_tbl : List Cond := k2_sels lw_privs ++ tables_1
theorem lw_privs_ok : ∀ q ∈ lw_privs, lw_okq q := by
  show ∀ q ∈ lw_privs_1 ++ (lw_privs_2 ++ (lw_privs_3 ++ (lw_privs_4 ++ (lw_privs_5 ++ (lw_privs_6 ++ (lw_privs_7)))))), lw_okq q
  exact List.forall_mem_append.mpr ⟨lw_r1, List.forall_mem_append.mpr ⟨lw_r2, List.forall_mem_append.mpr ⟨lw_r3, List.forall_mem_append.mpr ⟨lw_r4, List.forall_mem_append.mpr ⟨lw_r5, List.forall_mem_append.mpr ⟨lw_r6, lw_r7⟩⟩⟩⟩⟩⟩

def RX0 : String := "MistCanton$Canton"
def TX0 : u_T := fun k => match k with
  | 0 => ("MistCanton$Canton", "persons", "I", false)
  | 1 => ("MistCanton$Canton", "names", "[J", true)
  | 2 => ("MistCanton$Canton", "kinds", "[I", true)
  | 3 => ("MistCanton$Canton", "lots", "[I", true)
  | 4 => ("MistCanton$Canton", "events", "I", false)
  | 5 => ("MistCanton$Canton", "titles", "[J", true)
  | 6 => ("MistCanton$Canton", "weekdays", "[I", true)
  | 7 => ("MistCanton$Canton", "needs", "[I", true)
  | 8 => ("MistCanton$Canton", "guests", "[I", true)
  | 9 => ("MistCanton$Canton", "snowTold", "Z", false)
  | 10 => ("MistCanton$Canton", "snow", "I", false)
  | 11 => ("MistCanton$Canton", "lawTold", "Z", false)
  | _ => ("MistCanton$Canton", "law", "LMistCanton$Law;", true)
def tyX0 : Nat → FieldType := fun k => match k with
  | 0 => .int
  | 1 => .array .long
  | 2 => .array .int
  | 3 => .array .int
  | 4 => .int
  | 5 => .array .long
  | 6 => .array .int
  | 7 => .array .int
  | 8 => .array .int
  | 9 => .boolean
  | 10 => .int
  | 11 => .boolean
  | _ => .object "MistCanton$Law"
theorem nmX0 : ∀ a, a < 13 → ∀ b, b < 13 → a ≠ b → (TX0 a).2.1 ≠ (TX0 b).2.1 := by decide +kernel
theorem tyX0_ok : ∀ k, k < 13 → parseFieldDescriptor (TX0 k).2.2.1 = some (tyX0 k) := by decide +kernel
def RX1 : String := "MistCanton$CantonReader"
def TX1 : u_T := fun k => match k with
  | 0 => ("MistCanton$CantonReader", "tape", "LMistCanton$Tape;", true)
  | _ => ("MistCanton$CantonReader", "lawReader", "LMistCanton$LawReader;", true)
def tyX1 : Nat → FieldType := fun k => match k with
  | 0 => .object "MistCanton$Tape"
  | _ => .object "MistCanton$LawReader"
theorem nmX1 : ∀ a, a < 2 → ∀ b, b < 2 → a ≠ b → (TX1 a).2.1 ≠ (TX1 b).2.1 := by decide +kernel
theorem tyX1_ok : ∀ k, k < 2 → parseFieldDescriptor (TX1 k).2.2.1 = some (tyX1 k) := by decide +kernel
def RX2 : String := "MistCanton$History"
def TX2 : u_T := fun k => match k with
  | 0 => ("MistCanton$History", "ring", "[LMistCanton$State;", true)
  | 1 => ("MistCanton$History", "newest", "I", false)
  | _ => ("MistCanton$History", "length", "I", false)
def tyX2 : Nat → FieldType := fun k => match k with
  | 0 => .array (.object "MistCanton$State")
  | 1 => .int
  | _ => .int
theorem nmX2 : ∀ a, a < 3 → ∀ b, b < 3 → a ≠ b → (TX2 a).2.1 ≠ (TX2 b).2.1 := by decide +kernel
theorem tyX2_ok : ∀ k, k < 3 → parseFieldDescriptor (TX2 k).2.2.1 = some (tyX2 k) := by decide +kernel
def RX3 : String := "MistCanton$Law"
def TX3 : u_T := fun k => match k with
  | 0 => ("MistCanton$Law", "parts", "[I", true)
  | 1 => ("MistCanton$Law", "stack", "[I", true)
  | _ => ("MistCanton$Law", "length", "I", false)
def tyX3 : Nat → FieldType := fun k => match k with
  | 0 => .array .int
  | 1 => .array .int
  | _ => .int
theorem nmX3 : ∀ a, a < 3 → ∀ b, b < 3 → a ≠ b → (TX3 a).2.1 ≠ (TX3 b).2.1 := by decide +kernel
theorem tyX3_ok : ∀ k, k < 3 → parseFieldDescriptor (TX3 k).2.2.1 = some (tyX3 k) := by decide +kernel
def RX4 : String := "MistCanton$LawReader"
def TX4 : u_T := fun k => match k with
  | _ => ("MistCanton$LawReader", "tape", "LMistCanton$Tape;", true)
def tyX4 : Nat → FieldType := fun k => match k with
  | _ => .object "MistCanton$Tape"
theorem nmX4 : ∀ a, a < 1 → ∀ b, b < 1 → a ≠ b → (TX4 a).2.1 ≠ (TX4 b).2.1 := by decide +kernel
theorem tyX4_ok : ∀ k, k < 1 → parseFieldDescriptor (TX4 k).2.2.1 = some (tyX4 k) := by decide +kernel
def RX5 : String := "MistCanton$Mark"
def TX5 : u_T := fun k => match k with
  | 0 => ("MistCanton$Mark", "laid", "Z", false)
  | 1 => ("MistCanton$Mark", "state", "LMistCanton$State;", true)
  | 2 => ("MistCanton$Mark", "sights", "I", false)
  | _ => ("MistCanton$Mark", "sightLots", "I", false)
def tyX5 : Nat → FieldType := fun k => match k with
  | 0 => .boolean
  | 1 => .object "MistCanton$State"
  | 2 => .int
  | _ => .int
theorem nmX5 : ∀ a, a < 4 → ∀ b, b < 4 → a ≠ b → (TX5 a).2.1 ≠ (TX5 b).2.1 := by decide +kernel
theorem tyX5_ok : ∀ k, k < 4 → parseFieldDescriptor (TX5 k).2.2.1 = some (tyX5 k) := by decide +kernel
def RX6 : String := "MistCanton$State"
def TX6 : u_T := fun k => match k with
  | 0 => ("MistCanton$State", "day", "I", false)
  | 1 => ("MistCanton$State", "crimes", "I", false)
  | 2 => ("MistCanton$State", "lots", "[I", true)
  | 3 => ("MistCanton$State", "met", "[I", true)
  | 4 => ("MistCanton$State", "held", "[I", true)
  | _ => ("MistCanton$State", "came", "[I", true)
def tyX6 : Nat → FieldType := fun k => match k with
  | 0 => .int
  | 1 => .int
  | 2 => .array .int
  | 3 => .array .int
  | 4 => .array .int
  | _ => .array .int
theorem nmX6 : ∀ a, a < 6 → ∀ b, b < 6 → a ≠ b → (TX6 a).2.1 ≠ (TX6 b).2.1 := by decide +kernel
theorem tyX6_ok : ∀ k, k < 6 → parseFieldDescriptor (TX6 k).2.2.1 = some (tyX6 k) := by decide +kernel
def RX7 : String := "MistCanton$Tape"
def TX7 : u_T := fun k => match k with
  | 0 => ("MistCanton$Tape", "signs", "[C", true)
  | 1 => ("MistCanton$Tape", "length", "I", false)
  | 2 => ("MistCanton$Tape", "kind", "I", false)
  | 3 => ("MistCanton$Tape", "place", "I", false)
  | 4 => ("MistCanton$Tape", "behind", "I", false)
  | 5 => ("MistCanton$Tape", "word", "J", false)
  | 6 => ("MistCanton$Tape", "number", "I", false)
  | _ => ("MistCanton$Tape", "fault", "I", false)
def tyX7 : Nat → FieldType := fun k => match k with
  | 0 => .array .char
  | 1 => .int
  | 2 => .int
  | 3 => .int
  | 4 => .int
  | 5 => .long
  | 6 => .int
  | _ => .int
theorem nmX7 : ∀ a, a < 8 → ∀ b, b < 8 → a ≠ b → (TX7 a).2.1 ≠ (TX7 b).2.1 := by decide +kernel
theorem tyX7_ok : ∀ k, k < 8 → parseFieldDescriptor (TX7 k).2.2.1 = some (tyX7 k) := by decide +kernel
def RX8 : String := "MistCanton$Week"
def TX8 : u_T := fun k => match k with
  | 0 => ("MistCanton$Week", "acts", "[I", true)
  | 1 => ("MistCanton$Week", "persons", "[I", true)
  | 2 => ("MistCanton$Week", "lots", "[I", true)
  | _ => ("MistCanton$Week", "length", "I", false)
def tyX8 : Nat → FieldType := fun k => match k with
  | 0 => .array .int
  | 1 => .array .int
  | 2 => .array .int
  | _ => .int
theorem nmX8 : ∀ a, a < 4 → ∀ b, b < 4 → a ≠ b → (TX8 a).2.1 ≠ (TX8 b).2.1 := by decide +kernel
theorem tyX8_ok : ∀ k, k < 4 → parseFieldDescriptor (TX8 k).2.2.1 = some (tyX8 k) := by decide +kernel
def RX9 : String := "MistCanton$WeekReader"
def TX9 : u_T := fun k => match k with
  | _ => ("MistCanton$WeekReader", "tape", "LMistCanton$Tape;", true)
def tyX9 : Nat → FieldType := fun k => match k with
  | _ => .object "MistCanton$Tape"
theorem nmX9 : ∀ a, a < 1 → ∀ b, b < 1 → a ≠ b → (TX9 a).2.1 ≠ (TX9 b).2.1 := by decide +kernel
theorem tyX9_ok : ∀ k, k < 1 → parseFieldDescriptor (TX9 k).2.2.1 = some (tyX9 k) := by decide +kernel
def RX10 : String := "MistCanton"
def TX10 : u_T := fun k => match k with
  | 0 => ("MistCanton", "tape", "LMistCanton$Tape;", true)
  | 1 => ("MistCanton", "cantonReader", "LMistCanton$CantonReader;", true)
  | 2 => ("MistCanton", "weekReader", "LMistCanton$WeekReader;", true)
  | 3 => ("MistCanton", "told", "LMistCanton$Canton;", false)
  | 4 => ("MistCanton", "spareCanton", "LMistCanton$Canton;", false)
  | 5 => ("MistCanton", "toldWeek", "LMistCanton$Week;", false)
  | 6 => ("MistCanton", "spareWeek", "LMistCanton$Week;", false)
  | 7 => ("MistCanton", "now", "LMistCanton$State;", true)
  | 8 => ("MistCanton", "ahead", "LMistCanton$State;", true)
  | 9 => ("MistCanton", "unlike", "[I", true)
  | 10 => ("MistCanton", "history", "LMistCanton$History;", true)
  | 11 => ("MistCanton", "marks", "[LMistCanton$Mark;", true)
  | 12 => ("MistCanton", "sights", "I", false)
  | _ => ("MistCanton", "sightLots", "I", false)
def tyX10 : Nat → FieldType := fun k => match k with
  | 0 => .object "MistCanton$Tape"
  | 1 => .object "MistCanton$CantonReader"
  | 2 => .object "MistCanton$WeekReader"
  | 3 => .object "MistCanton$Canton"
  | 4 => .object "MistCanton$Canton"
  | 5 => .object "MistCanton$Week"
  | 6 => .object "MistCanton$Week"
  | 7 => .object "MistCanton$State"
  | 8 => .object "MistCanton$State"
  | 9 => .array .int
  | 10 => .object "MistCanton$History"
  | 11 => .array (.object "MistCanton$Mark")
  | 12 => .int
  | _ => .int
theorem nmX10 : ∀ a, a < 14 → ∀ b, b < 14 → a ≠ b → (TX10 a).2.1 ≠ (TX10 b).2.1 := by decide +kernel
theorem tyX10_ok : ∀ k, k < 14 → parseFieldDescriptor (TX10 k).2.2.1 = some (tyX10 k) := by decide +kernel
def RX11 : String := "MistCantonModel"
def TX11 : u_T := fun k => match k with
  | 0 => ("MistCantonModel", "thrown", "I", false)
  | 1 => ("MistCantonModel", "tape", "[I", true)
  | 2 => ("MistCantonModel", "taped", "I", false)
  | 3 => ("MistCantonModel", "size", "I", false)
  | 4 => ("MistCantonModel", "sort", "[I", true)
  | 5 => ("MistCantonModel", "place", "[I", true)
  | 6 => ("MistCantonModel", "value", "[J", true)
  | 7 => ("MistCantonModel", "at", "I", false)
  | 8 => ("MistCantonModel", "fault", "I", false)
  | 9 => ("MistCantonModel", "words", "[J", true)
  | 10 => ("MistCantonModel", "cantons", "[I", true)
  | 11 => ("MistCantonModel", "op", "[I", true)
  | 12 => ("MistCantonModel", "arg", "[I", true)
  | 13 => ("MistCantonModel", "codes", "I", false)
  | 14 => ("MistCantonModel", "names", "[J", true)
  | 15 => ("MistCantonModel", "readNames", "[J", true)
  | 16 => ("MistCantonModel", "nameOf", "[I", true)
  | 17 => ("MistCantonModel", "readNameOf", "[I", true)
  | 18 => ("MistCantonModel", "namesMany", "I", false)
  | 19 => ("MistCantonModel", "readMany", "I", false)
  | 20 => ("MistCantonModel", "once", "I", false)
  | 21 => ("MistCantonModel", "lines", "[I", true)
  | 22 => ("MistCantonModel", "facts", "[I", true)
  | 23 => ("MistCantonModel", "pile", "[I", true)
  | 24 => ("MistCantonModel", "state", "[I", true)
  | 25 => ("MistCantonModel", "undos", "I", false)
  | 26 => ("MistCantonModel", "isMarked", "[Z", true)
  | 27 => ("MistCantonModel", "ons", "[I", true)
  | 28 => ("MistCantonModel", "goers", "I", false)
  | 29 => ("MistCantonModel", "alike", "[I", true)
  | _ => ("MistCantonModel", "g", "J", false)
def tyX11 : Nat → FieldType := fun k => match k with
  | 0 => .int
  | 1 => .array .int
  | 2 => .int
  | 3 => .int
  | 4 => .array .int
  | 5 => .array .int
  | 6 => .array .long
  | 7 => .int
  | 8 => .int
  | 9 => .array .long
  | 10 => .array .int
  | 11 => .array .int
  | 12 => .array .int
  | 13 => .int
  | 14 => .array .long
  | 15 => .array .long
  | 16 => .array .int
  | 17 => .array .int
  | 18 => .int
  | 19 => .int
  | 20 => .int
  | 21 => .array .int
  | 22 => .array .int
  | 23 => .array .int
  | 24 => .array .int
  | 25 => .int
  | 26 => .array .boolean
  | 27 => .array .int
  | 28 => .int
  | 29 => .array .int
  | _ => .long
theorem nmX11 : ∀ a, a < 31 → ∀ b, b < 31 → a ≠ b → (TX11 a).2.1 ≠ (TX11 b).2.1 := by decide +kernel
theorem tyX11_ok : ∀ k, k < 31 → parseFieldDescriptor (TX11 k).2.2.1 = some (tyX11 k) := by decide +kernel
abbrev vwCl : List vw_C := [(RX0, TX0, 13), (RX1, TX1, 2), (RX2, TX2, 3), (RX3, TX3, 3), (RX4, TX4, 1), (RX5, TX5, 4), (RX6, TX6, 6), (RX7, TX7, 8), (RX8, TX8, 4), (RX9, TX9, 1), (RX10, TX10, 14), (RX11, TX11, 31)]
def am_kds : List (List Nat) := [[0, 2, 2, 2, 0, 2, 2, 2, 2, 0, 0, 0, 2], [2, 2], [2, 0, 0], [2, 2, 0], [2], [0, 2, 0, 0], [0, 0, 2, 2, 2, 2], [2, 0, 0, 0, 0, 1, 0, 0], [2, 2, 2, 0], [2], [2, 2, 2, 2, 2, 2, 2, 2, 2, 2, 2, 2, 0, 0], [0, 2, 0, 0, 2, 2, 2, 0, 0, 2, 2, 2, 2, 0, 2, 2, 2, 2, 0, 0, 0, 2, 2, 2, 2, 0, 2, 2, 0, 2, 1]]
def am_kd (ci k : Nat) : Nat := (am_kds.getD ci []).getD k 0
/-- a word of the tables by its kind -/
def am_isCode : Cond → Option (MethodName × ByteArray × Nat × Option FieldType)
  | .code y b n r => some (y, b, n, r)
  | _ => none
def am_isML : Cond → Option (String × Nat × MethodName)
  | .methodLink a i y => some (a, i, y)
  | _ => none
def am_isFL : Cond → Option (String × Nat × String × String × String)
  | .fieldLink a i b c d => some (a, i, b, c, d)
  | _ => none
def am_isCL : Cond → Option (String × Nat × Int64)
  | .constantLong a i v => some (a, i, v)
  | _ => none
def am_isCI : Cond → Option (String × Nat × Int32)
  | .constant a i v => some (a, i, v)
  | _ => none
def am_isSt : Cond → Option MethodName
  | .static y => some y
  | _ => none
def am_isIn : Cond → Option MethodName
  | .instanceMethod y => some y
  | _ => none
def am_isSe : Cond → Option MethodName
  | .selects c y z => bif (decide (c = y.cls) && decide (y = z)) then some y else none
  | _ => none
def am_isIi : Cond → Option String
  | .initialized c => some c
  | _ => none
/-- all methods of the tables, numbered -/
def am_mi_0 : List (MethodName × ByteArray × Nat × Option FieldType) := [(⟨"MistCanton", "<init>", "()V"⟩, prog_1_method_1_code, 2, (Option.none : Option Jvm.ClassFile.FieldType)),
  (⟨"java/lang/Object", "<init>", "()V"⟩, object_method_1_code, 1, (Option.none : Option Jvm.ClassFile.FieldType)),
  (⟨"MistCanton$Tape", "<init>", "()V"⟩, prog_9_method_1_code, 1, (Option.none : Option Jvm.ClassFile.FieldType)),
  (⟨"MistCanton$CantonReader", "<init>", "(LMistCanton$Tape;)V"⟩, prog_3_method_1_code, 2, (Option.none : Option Jvm.ClassFile.FieldType)),
  (⟨"MistCanton$LawReader", "<init>", "(LMistCanton$Tape;)V"⟩, prog_6_method_1_code, 2, (Option.none : Option Jvm.ClassFile.FieldType)),
  (⟨"MistCanton$WeekReader", "<init>", "(LMistCanton$Tape;)V"⟩, prog_11_method_1_code, 2, (Option.none : Option Jvm.ClassFile.FieldType)),
  (⟨"MistCanton$Canton", "<init>", "()V"⟩, prog_2_method_1_code, 1, (Option.none : Option Jvm.ClassFile.FieldType)),
  (⟨"MistCanton$Law", "<init>", "()V"⟩, prog_5_method_1_code, 1, (Option.none : Option Jvm.ClassFile.FieldType)),
  (⟨"MistCanton$Week", "<init>", "()V"⟩, prog_10_method_1_code, 1, (Option.none : Option Jvm.ClassFile.FieldType)),
  (⟨"MistCanton$State", "<init>", "()V"⟩, prog_8_method_1_code, 1, (Option.none : Option Jvm.ClassFile.FieldType)),
  (⟨"MistCanton$History", "<init>", "()V"⟩, prog_4_method_1_code, 2, (Option.none : Option Jvm.ClassFile.FieldType)),
  (⟨"MistCanton$Mark", "<init>", "()V"⟩, prog_7_method_1_code, 1, (Option.none : Option Jvm.ClassFile.FieldType)),
  (⟨"MistCanton", "feed", "(JJJ)I"⟩, prog_1_method_2_code, 7, (Option.some Jvm.ClassFile.FieldType.int)),
  (⟨"MistCanton$Tape", "append", "(J)V"⟩, prog_9_method_2_code, 6, (Option.none : Option Jvm.ClassFile.FieldType)),
  (⟨"MistCanton", "canton", "()I"⟩, prog_1_method_3_code, 3, (Option.some Jvm.ClassFile.FieldType.int)),
  (⟨"MistCanton$CantonReader", "readInto", "(LMistCanton$Canton;)I"⟩, prog_3_method_2_code, 4, (Option.some Jvm.ClassFile.FieldType.int)),
  (⟨"MistCanton$Canton", "clear", "()V"⟩, prog_2_method_2_code, 1, (Option.none : Option Jvm.ClassFile.FieldType)),
  (⟨"MistCanton$Tape", "begin", "()V"⟩, prog_9_method_3_code, 1, (Option.none : Option Jvm.ClassFile.FieldType)),
  (⟨"MistCanton$Tape", "step", "()V"⟩, prog_9_method_4_code, 1, (Option.none : Option Jvm.ClassFile.FieldType)),
  (⟨"MistCanton$Tape", "stepWord", "()V"⟩, prog_9_method_5_code, 1, (Option.none : Option Jvm.ClassFile.FieldType)),
  (⟨"MistCanton$Tape", "stepNumber", "()V"⟩, prog_9_method_6_code, 1, (Option.none : Option Jvm.ClassFile.FieldType)),
  (⟨"java/lang/String", "indexOf", "(I)I"⟩, prog_22_method_79_code, 2, (Option.some Jvm.ClassFile.FieldType.int)),
  (⟨"java/lang/String", "indexOf", "(II)I"⟩, prog_22_method_80_code, 3, (Option.some Jvm.ClassFile.FieldType.int)),
  (⟨"java/lang/String", "isLatin1", "()Z"⟩, prog_22_method_154_code, 1, (Option.some Jvm.ClassFile.FieldType.boolean)),
  (⟨"java/lang/String", "length", "()I"⟩, prog_22_method_54_code, 1, (Option.some Jvm.ClassFile.FieldType.int)),
  (⟨"java/lang/String", "coder", "()B"⟩, prog_22_method_152_code, 1, (Option.some Jvm.ClassFile.FieldType.byte)),
  (⟨"java/lang/StringLatin1", "indexOf", "([BIII)I"⟩, prog_23_method_22_code, 4, (Option.some Jvm.ClassFile.FieldType.int)),
  (⟨"java/lang/StringLatin1", "canEncode", "(I)Z"⟩, prog_23_method_4_code, 1, (Option.some Jvm.ClassFile.FieldType.boolean)),
  (⟨"java/lang/Math", "max", "(II)I"⟩, prog_20_method_65_code, 2, (Option.some Jvm.ClassFile.FieldType.int)),
  (⟨"java/lang/Math", "min", "(II)I"⟩, prog_20_method_69_code, 2, (Option.some Jvm.ClassFile.FieldType.int)),
  (⟨"java/lang/StringLatin1", "indexOfChar", "([BIII)I"⟩, prog_23_method_23_code, 6, (Option.some Jvm.ClassFile.FieldType.int)),
  (⟨"java/lang/StringUTF16", "indexOf", "([BIII)I"⟩, prog_24_method_40_code, 4, (Option.some Jvm.ClassFile.FieldType.int)),
  (⟨"java/lang/StringUTF16", "indexOfChar", "([BIII)I"⟩, prog_24_method_47_code, 4, (Option.some Jvm.ClassFile.FieldType.int)),
  (⟨"java/lang/StringUTF16", "checkBoundsBeginEnd", "(II[B)V"⟩, prog_24_method_93_code, 3, (Option.none : Option Jvm.ClassFile.FieldType)),
  (⟨"java/lang/StringUTF16", "length", "([B)I"⟩, prog_24_method_6_code, 1, (Option.some Jvm.ClassFile.FieldType.int)),
  (⟨"java/lang/String", "checkBoundsBeginEnd", "(III)V"⟩, prog_22_method_158_code, 3, (Option.none : Option Jvm.ClassFile.FieldType)),
  (⟨"jdk/internal/util/Preconditions", "checkFromToIndex", "(IIILjava/util/function/BiFunction;)I"⟩, prog_29_method_12_code, 4, (Option.some Jvm.ClassFile.FieldType.int)),
  (⟨"java/lang/StringUTF16", "indexOfCharUnsafe", "([BIII)I"⟩, prog_24_method_48_code, 5, (Option.some Jvm.ClassFile.FieldType.int)),
  (⟨"java/lang/StringUTF16", "getChar", "([BI)C"⟩, prog_24_method_5_code, 2, (Option.some Jvm.ClassFile.FieldType.char)),
  (⟨"java/lang/StringUTF16", "indexOfSupplementary", "([BIII)I"⟩, prog_24_method_49_code, 7, (Option.some Jvm.ClassFile.FieldType.int))]
def am_mi_1 : List (MethodName × ByteArray × Nat × Option FieldType) := [(⟨"java/lang/Character", "isValidCodePoint", "(I)Z"⟩, prog_16_method_11_code, 2, (Option.some Jvm.ClassFile.FieldType.boolean)),
  (⟨"java/lang/Character", "highSurrogate", "(I)C"⟩, prog_16_method_28_code, 1, (Option.some Jvm.ClassFile.FieldType.char)),
  (⟨"java/lang/Character", "lowSurrogate", "(I)C"⟩, prog_16_method_29_code, 1, (Option.some Jvm.ClassFile.FieldType.char)),
  (⟨"MistCanton$CantonReader", "readLine", "(LMistCanton$Canton;)Z"⟩, prog_3_method_3_code, 2, (Option.some Jvm.ClassFile.FieldType.boolean)),
  (⟨"MistCanton$Tape", "isWord", "(Ljava/lang/String;)Z"⟩, prog_9_method_7_code, 5, (Option.some Jvm.ClassFile.FieldType.boolean)),
  (⟨"java/lang/String", "charAt", "(I)C"⟩, prog_22_method_56_code, 2, (Option.some Jvm.ClassFile.FieldType.char)),
  (⟨"java/lang/StringLatin1", "charAt", "([BI)C"⟩, prog_23_method_2_code, 2, (Option.some Jvm.ClassFile.FieldType.char)),
  (⟨"java/lang/String", "checkIndex", "(II)V"⟩, prog_22_method_155_code, 2, (Option.none : Option Jvm.ClassFile.FieldType)),
  (⟨"jdk/internal/util/Preconditions", "checkIndex", "(IILjava/util/function/BiFunction;)I"⟩, prog_29_method_11_code, 3, (Option.some Jvm.ClassFile.FieldType.int)),
  (⟨"java/lang/StringUTF16", "charAt", "([BI)C"⟩, prog_24_method_83_code, 2, (Option.some Jvm.ClassFile.FieldType.char)),
  (⟨"java/lang/StringUTF16", "checkIndex", "(I[B)V"⟩, prog_24_method_91_code, 2, (Option.none : Option Jvm.ClassFile.FieldType)),
  (⟨"MistCanton$CantonReader", "readPerson", "(LMistCanton$Canton;)Z"⟩, prog_3_method_5_code, 4, (Option.some Jvm.ClassFile.FieldType.boolean)),
  (⟨"MistCanton$Tape", "refuse", "(I)Z"⟩, prog_9_method_10_code, 2, (Option.some Jvm.ClassFile.FieldType.boolean)),
  (⟨"MistCanton$CantonReader", "findFreshName", "(LMistCanton$Canton;)Z"⟩, prog_3_method_4_code, 3, (Option.some Jvm.ClassFile.FieldType.boolean)),
  (⟨"MistCanton$Tape", "isName", "()Z"⟩, prog_9_method_9_code, 4, (Option.some Jvm.ClassFile.FieldType.boolean)),
  (⟨"MistCanton$Canton", "personNamed", "(J)I"⟩, prog_2_method_3_code, 4, (Option.some Jvm.ClassFile.FieldType.int)),
  (⟨"MistCanton$Canton", "eventNamed", "(J)I"⟩, prog_2_method_4_code, 4, (Option.some Jvm.ClassFile.FieldType.int)),
  (⟨"MistCanton$CantonReader", "kindAtHand", "()I"⟩, prog_3_method_6_code, 1, (Option.some Jvm.ClassFile.FieldType.int)),
  (⟨"MistCanton$Tape", "takeWord", "(Ljava/lang/String;)Z"⟩, prog_9_method_11_code, 2, (Option.some Jvm.ClassFile.FieldType.boolean)),
  (⟨"MistCanton$Tape", "findNumber", "(II)Z"⟩, prog_9_method_13_code, 3, (Option.some Jvm.ClassFile.FieldType.boolean)),
  (⟨"MistCanton", "isWithin", "(III)Z"⟩, prog_1_method_11_code, 3, (Option.some Jvm.ClassFile.FieldType.boolean)),
  (⟨"MistCanton$Tape", "takeSign", "(C)Z"⟩, prog_9_method_12_code, 2, (Option.some Jvm.ClassFile.FieldType.boolean)),
  (⟨"MistCanton$Tape", "isSign", "(C)Z"⟩, prog_9_method_8_code, 2, (Option.some Jvm.ClassFile.FieldType.boolean)),
  (⟨"MistCanton$CantonReader", "readEvent", "(LMistCanton$Canton;)Z"⟩, prog_3_method_7_code, 3, (Option.some Jvm.ClassFile.FieldType.boolean)),
  (⟨"MistCanton$CantonReader", "readComes", "(LMistCanton$Canton;)Z"⟩, prog_3_method_8_code, 4, (Option.some Jvm.ClassFile.FieldType.boolean)),
  (⟨"MistCanton", "hasBit", "(II)Z"⟩, prog_1_method_12_code, 2, (Option.some Jvm.ClassFile.FieldType.boolean)),
  (⟨"MistCanton$CantonReader", "readSnow", "(LMistCanton$Canton;)Z"⟩, prog_3_method_9_code, 4, (Option.some Jvm.ClassFile.FieldType.boolean)),
  (⟨"MistCanton$CantonReader", "readSnowDay", "(LMistCanton$Canton;)Z"⟩, prog_3_method_10_code, 3, (Option.some Jvm.ClassFile.FieldType.boolean)),
  (⟨"MistCanton$Canton", "snows", "(I)Z"⟩, prog_2_method_5_code, 2, (Option.some Jvm.ClassFile.FieldType.boolean)),
  (⟨"java/lang/Integer", "bitCount", "(I)I"⟩, prog_19_method_49_code, 1, (Option.some Jvm.ClassFile.FieldType.int)),
  (⟨"MistCanton$LawReader", "readGoes", "(LMistCanton$Canton;)Z"⟩, prog_6_method_2_code, 2, (Option.some Jvm.ClassFile.FieldType.boolean)),
  (⟨"MistCanton$LawReader", "readLaw", "(LMistCanton$Law;I)Z"⟩, prog_6_method_3_code, 6, (Option.some Jvm.ClassFile.FieldType.boolean)),
  (⟨"MistCanton$LawReader", "readTest", "(LMistCanton$Law;I)Z"⟩, prog_6_method_4_code, 5, (Option.some Jvm.ClassFile.FieldType.boolean)),
  (⟨"MistCanton$LawReader", "readSum", "(LMistCanton$Law;I)Z"⟩, prog_6_method_5_code, 6, (Option.some Jvm.ClassFile.FieldType.boolean)),
  (⟨"MistCanton$LawReader", "readProduct", "(LMistCanton$Law;I)Z"⟩, prog_6_method_6_code, 5, (Option.some Jvm.ClassFile.FieldType.boolean)),
  (⟨"MistCanton$LawReader", "readPart", "(LMistCanton$Law;I)Z"⟩, prog_6_method_7_code, 7, (Option.some Jvm.ClassFile.FieldType.boolean)),
  (⟨"MistCanton$LawReader", "factAtHand", "()I"⟩, prog_6_method_8_code, 1, (Option.some Jvm.ClassFile.FieldType.int)),
  (⟨"MistCanton$Law", "add", "(I)V"⟩, prog_5_method_2_code, 2, (Option.none : Option Jvm.ClassFile.FieldType)),
  (⟨"MistCanton", "beginAnew", "()V"⟩, prog_1_method_5_code, 2, (Option.none : Option Jvm.ClassFile.FieldType)),
  (⟨"MistCanton$State", "begin", "(LMistCanton$Canton;)V"⟩, prog_8_method_2_code, 3, (Option.none : Option Jvm.ClassFile.FieldType))]
def am_mi_2 : List (MethodName × ByteArray × Nat × Option FieldType) := [(⟨"MistCanton", "week", "()I"⟩, prog_1_method_4_code, 3, (Option.some Jvm.ClassFile.FieldType.int)),
  (⟨"MistCanton$WeekReader", "readInto", "(LMistCanton$Week;LMistCanton$Canton;)I"⟩, prog_11_method_2_code, 5, (Option.some Jvm.ClassFile.FieldType.int)),
  (⟨"MistCanton$WeekReader", "readLine", "(LMistCanton$Week;LMistCanton$Canton;)Z"⟩, prog_11_method_3_code, 5, (Option.some Jvm.ClassFile.FieldType.boolean)),
  (⟨"MistCanton$WeekReader", "actAtHand", "()I"⟩, prog_11_method_4_code, 1, (Option.some Jvm.ClassFile.FieldType.int)),
  (⟨"MistCanton$WeekReader", "readPerson", "(LMistCanton$Week;LMistCanton$Canton;)Z"⟩, prog_11_method_5_code, 4, (Option.some Jvm.ClassFile.FieldType.boolean)),
  (⟨"MistCanton$WeekReader", "readLot", "(LMistCanton$Week;)Z"⟩, prog_11_method_6_code, 2, (Option.some Jvm.ClassFile.FieldType.boolean)),
  (⟨"MistCanton", "person", "(II)I"⟩, prog_1_method_6_code, 3, (Option.some Jvm.ClassFile.FieldType.int)),
  (⟨"MistCanton", "isPerson", "(I)Z"⟩, prog_1_method_9_code, 2, (Option.some Jvm.ClassFile.FieldType.boolean)),
  (⟨"MistCanton$Canton", "weekdayTo", "(ILMistCanton$State;Z)I"⟩, prog_2_method_7_code, 5, (Option.some Jvm.ClassFile.FieldType.int)),
  (⟨"MistCanton$Canton", "offOf", "(ILMistCanton$State;)I"⟩, prog_2_method_6_code, 3, (Option.some Jvm.ClassFile.FieldType.int)),
  (⟨"java/lang/Math", "floorMod", "(II)I"⟩, prog_20_method_50_code, 3, (Option.some Jvm.ClassFile.FieldType.int)),
  (⟨"MistCanton$Canton", "eventsOf", "(I)I"⟩, prog_2_method_8_code, 4, (Option.some Jvm.ClassFile.FieldType.int)),
  (⟨"MistCanton", "event", "(II)I"⟩, prog_1_method_7_code, 3, (Option.some Jvm.ClassFile.FieldType.int)),
  (⟨"MistCanton", "isEvent", "(I)Z"⟩, prog_1_method_10_code, 2, (Option.some Jvm.ClassFile.FieldType.boolean)),
  (⟨"MistCanton", "count", "(I)I"⟩, prog_1_method_8_code, 2, (Option.some Jvm.ClassFile.FieldType.int)),
  (⟨"MistCanton$State", "heldInAll", "()I"⟩, prog_8_method_7_code, 3, (Option.some Jvm.ClassFile.FieldType.int)),
  (⟨"MistCanton$State", "pairsMet", "()I"⟩, prog_8_method_8_code, 3, (Option.some Jvm.ClassFile.FieldType.int)),
  (⟨"MistCanton", "day", "()I"⟩, prog_1_method_13_code, 1, (Option.some Jvm.ClassFile.FieldType.int)),
  (⟨"MistCanton$History", "keep", "(LMistCanton$State;)V"⟩, prog_4_method_2_code, 2, (Option.none : Option Jvm.ClassFile.FieldType)),
  (⟨"MistCanton$State", "copy", "(LMistCanton$State;)V"⟩, prog_8_method_3_code, 3, (Option.none : Option Jvm.ClassFile.FieldType)),
  (⟨"MistCanton$Canton", "passDay", "(LMistCanton$State;Z)I"⟩, prog_2_method_11_code, 5, (Option.some Jvm.ClassFile.FieldType.int)),
  (⟨"MistCanton$Canton", "gather", "(LMistCanton$State;Z)V"⟩, prog_2_method_12_code, 6, (Option.none : Option Jvm.ClassFile.FieldType)),
  (⟨"MistCanton$Canton", "drawing", "(II)I"⟩, prog_2_method_13_code, 5, (Option.some Jvm.ClassFile.FieldType.int)),
  (⟨"MistCanton$Canton", "isDayOf", "(III)Z"⟩, prog_2_method_14_code, 3, (Option.some Jvm.ClassFile.FieldType.boolean)),
  (⟨"MistCanton$Canton", "goesOut", "(ILMistCanton$State;Z)Z"⟩, prog_2_method_15_code, 5, (Option.some Jvm.ClassFile.FieldType.boolean)),
  (⟨"MistCanton$Law", "value", "(IIII)I"⟩, prog_5_method_3_code, 8, (Option.some Jvm.ClassFile.FieldType.int)),
  (⟨"MistCanton$Law", "fact", "(IIIII)I"⟩, prog_5_method_4_code, 5, (Option.some Jvm.ClassFile.FieldType.int)),
  (⟨"MistCanton$Law", "joined", "(III)I"⟩, prog_5_method_5_code, 3, (Option.some Jvm.ClassFile.FieldType.int)),
  (⟨"MistCanton$State", "introduce", "(I)V"⟩, prog_8_method_5_code, 3, (Option.none : Option Jvm.ClassFile.FieldType)),
  (⟨"MistCanton", "lot", "(II)I"⟩, prog_1_method_14_code, 4, (Option.some Jvm.ClassFile.FieldType.int)),
  (⟨"MistCanton", "ask", "(I)I"⟩, prog_1_method_15_code, 2, (Option.some Jvm.ClassFile.FieldType.int)),
  (⟨"MistCanton$State", "answer", "(I)V"⟩, prog_8_method_4_code, 2, (Option.none : Option Jvm.ClassFile.FieldType)),
  (⟨"MistCanton", "undo", "()Z"⟩, prog_1_method_16_code, 1, (Option.some Jvm.ClassFile.FieldType.boolean)),
  (⟨"MistCanton$History", "bringBack", "(LMistCanton$State;)Z"⟩, prog_4_method_3_code, 2, (Option.some Jvm.ClassFile.FieldType.boolean)),
  (⟨"MistCanton", "mark", "(IZ)Z"⟩, prog_1_method_17_code, 4, (Option.some Jvm.ClassFile.FieldType.boolean)),
  (⟨"MistCanton$Mark", "lay", "(LMistCanton$State;II)V"⟩, prog_7_method_2_code, 4, (Option.none : Option Jvm.ClassFile.FieldType)),
  (⟨"MistCanton", "judged", "(I)I"⟩, prog_1_method_18_code, 6, (Option.some Jvm.ClassFile.FieldType.int)),
  (⟨"MistCanton", "followLine", "(I)I"⟩, prog_1_method_19_code, 3, (Option.some Jvm.ClassFile.FieldType.int)),
  (⟨"MistCanton", "passAhead", "()I"⟩, prog_1_method_20_code, 1, (Option.some Jvm.ClassFile.FieldType.int)),
  (⟨"MistCanton", "attends", "(II)I"⟩, prog_1_method_21_code, 4, (Option.some Jvm.ClassFile.FieldType.int))]
def am_mi_3 : List (MethodName × ByteArray × Nat × Option FieldType) := [(⟨"MistCanton", "next", "(II)I"⟩, prog_1_method_22_code, 4, (Option.some Jvm.ClassFile.FieldType.int)),
  (⟨"MistCanton", "quorum", "(I)I"⟩, prog_1_method_23_code, 3, (Option.some Jvm.ClassFile.FieldType.int)),
  (⟨"MistCanton", "held", "(II)I"⟩, prog_1_method_24_code, 3, (Option.some Jvm.ClassFile.FieldType.int)),
  (⟨"MistCanton", "timesHeld", "(II)I"⟩, prog_1_method_25_code, 4, (Option.some Jvm.ClassFile.FieldType.int)),
  (⟨"MistCanton", "last", "(I)I"⟩, prog_1_method_26_code, 4, (Option.some Jvm.ClassFile.FieldType.int)),
  (⟨"MistCanton", "meet", "(II)I"⟩, prog_1_method_27_code, 4, (Option.some Jvm.ClassFile.FieldType.int)),
  (⟨"MistCanton", "idle", "(I)I"⟩, prog_1_method_28_code, 4, (Option.some Jvm.ClassFile.FieldType.int)),
  (⟨"MistCanton$State", "comings", "()I"⟩, prog_8_method_9_code, 3, (Option.some Jvm.ClassFile.FieldType.int)),
  (⟨"MistCanton", "busy", "()I"⟩, prog_1_method_29_code, 5, (Option.some Jvm.ClassFile.FieldType.int)),
  (⟨"MistCanton", "family", "(I)I"⟩, prog_1_method_30_code, 4, (Option.some Jvm.ClassFile.FieldType.int)),
  (⟨"MistCanton", "lonely", "()I"⟩, prog_1_method_31_code, 3, (Option.some Jvm.ClassFile.FieldType.int)),
  (⟨"MistCanton", "move", "(I)I"⟩, prog_1_method_32_code, 7, (Option.some Jvm.ClassFile.FieldType.int)),
  (⟨"MistCanton", "twins", "()I"⟩, prog_1_method_33_code, 4, (Option.some Jvm.ClassFile.FieldType.int)),
  (⟨"MistCanton$State", "othersThan", "(I)I"⟩, prog_8_method_6_code, 4, (Option.some Jvm.ClassFile.FieldType.int)),
  (⟨"MistCanton", "chance", "(III)I"⟩, prog_1_method_34_code, 6, (Option.some Jvm.ClassFile.FieldType.int)),
  (⟨"MistCanton", "isHeldUnder", "(III)Z"⟩, prog_1_method_35_code, 5, (Option.some Jvm.ClassFile.FieldType.boolean)),
  (⟨"MistCanton", "weight", "(III)I"⟩, prog_1_method_36_code, 5, (Option.some Jvm.ClassFile.FieldType.int)),
  (⟨"MistCanton", "years", "(III)I"⟩, prog_1_method_37_code, 7, (Option.some Jvm.ClassFile.FieldType.int)),
  (⟨"MistCanton", "drawLots", "(J)J"⟩, prog_1_method_38_code, 7, (Option.some Jvm.ClassFile.FieldType.long)),
  (⟨"MistCanton", "drawn", "(J)J"⟩, prog_1_method_39_code, 2, (Option.some Jvm.ClassFile.FieldType.long)),
  (⟨"MistCanton", "below", "(JI)I"⟩, prog_1_method_40_code, 3, (Option.some Jvm.ClassFile.FieldType.int)),
  (⟨"MistCanton", "group", "(I)I"⟩, prog_1_method_41_code, 5, (Option.some Jvm.ClassFile.FieldType.int)),
  (⟨"MistCanton", "personsOf", "(I)I"⟩, prog_1_method_42_code, 4, (Option.some Jvm.ClassFile.FieldType.int)),
  (⟨"MistCanton", "least", "(II)I"⟩, prog_1_method_43_code, 7, (Option.some Jvm.ClassFile.FieldType.int)),
  (⟨"MistCanton", "costOf", "(II)I"⟩, prog_1_method_44_code, 7, (Option.some Jvm.ClassFile.FieldType.int)),
  (⟨"MistCanton", "guestsAt", "(III)I"⟩, prog_1_method_45_code, 7, (Option.some Jvm.ClassFile.FieldType.int)),
  (⟨"java/lang/Math", "abs", "(I)I"⟩, prog_20_method_59_code, 1, (Option.some Jvm.ClassFile.FieldType.int)),
  (⟨"MistCanton", "leads", "(I)I"⟩, prog_1_method_46_code, 2, (Option.some Jvm.ClassFile.FieldType.int)),
  (⟨"MistCanton", "see", "(IIZ)Z"⟩, prog_1_method_47_code, 5, (Option.some Jvm.ClassFile.FieldType.boolean)),
  (⟨"MistCanton$Canton", "lotsComing", "(II)I"⟩, prog_2_method_10_code, 6, (Option.some Jvm.ClassFile.FieldType.int)),
  (⟨"MistCanton", "lots", "()I"⟩, prog_1_method_48_code, 1, (Option.some Jvm.ClassFile.FieldType.int)),
  (⟨"MistCanton", "look", "()I"⟩, prog_1_method_49_code, 8, (Option.some Jvm.ClassFile.FieldType.int)),
  (⟨"MistCanton", "guess", "()I"⟩, prog_1_method_51_code, 5, (Option.some Jvm.ClassFile.FieldType.int)),
  (⟨"MistCanton", "personsAt", "(I)I"⟩, prog_1_method_50_code, 5, (Option.some Jvm.ClassFile.FieldType.int)),
  (⟨"MistCanton", "wrong", "()I"⟩, prog_1_method_52_code, 2, (Option.some Jvm.ClassFile.FieldType.int)),
  (⟨"MistCanton", "spread", "()I"⟩, prog_1_method_53_code, 3, (Option.some Jvm.ClassFile.FieldType.int)),
  (⟨"MistCanton", "pairs", "()I"⟩, prog_1_method_54_code, 4, (Option.some Jvm.ClassFile.FieldType.int)),
  (⟨"MistCanton", "right", "()I"⟩, prog_1_method_55_code, 1, (Option.some Jvm.ClassFile.FieldType.int)),
  (⟨"MistCanton", "steady", "()I"⟩, prog_1_method_56_code, 5, (Option.some Jvm.ClassFile.FieldType.int)),
  (⟨"MistCanton", "daysRight", "(I)I"⟩, prog_1_method_57_code, 4, (Option.some Jvm.ClassFile.FieldType.int))]
def am_mi_4 : List (MethodName × ByteArray × Nat × Option FieldType) := [(⟨"MistCanton", "through", "(II)I"⟩, prog_1_method_58_code, 5, (Option.some Jvm.ClassFile.FieldType.int)),
  (⟨"MistCanton", "withTheirs", "(I)I"⟩, prog_1_method_59_code, 4, (Option.some Jvm.ClassFile.FieldType.int)),
  (⟨"MistCanton", "wedded", "()I"⟩, prog_1_method_60_code, 3, (Option.some Jvm.ClassFile.FieldType.int)),
  (⟨"MistCanton", "circles", "()I"⟩, prog_1_method_61_code, 4, (Option.some Jvm.ClassFile.FieldType.int)),
  (⟨"MistCanton", "circleOf", "(I)I"⟩, prog_1_method_62_code, 4, (Option.some Jvm.ClassFile.FieldType.int)),
  (⟨"MistCanton", "shared", "(II)I"⟩, prog_1_method_63_code, 3, (Option.some Jvm.ClassFile.FieldType.int)),
  (⟨"MistCanton", "cover", "()I"⟩, prog_1_method_64_code, 4, (Option.some Jvm.ClassFile.FieldType.int)),
  (⟨"MistCanton$Canton", "guestsOf", "(I)I"⟩, prog_2_method_9_code, 4, (Option.some Jvm.ClassFile.FieldType.int)),
  (⟨"MistCanton", "rests", "(IIII)I"⟩, prog_1_method_65_code, 9, (Option.some Jvm.ClassFile.FieldType.int)),
  (⟨"java/lang/Throwable", "<init>", "()V"⟩, prog_25_method_1_code, 1, (Option.none : Option Jvm.ClassFile.FieldType)),
  (⟨"java/util/NoSuchElementException", "<init>", "(Ljava/lang/String;)V"⟩, prog_28_method_4_code, 2, (Option.none : Option Jvm.ClassFile.FieldType)),
  (⟨"java/lang/RuntimeException", "<init>", "(Ljava/lang/String;)V"⟩, prog_21_method_2_code, 2, (Option.none : Option Jvm.ClassFile.FieldType)),
  (⟨"java/lang/Exception", "<init>", "(Ljava/lang/String;)V"⟩, prog_18_method_2_code, 2, (Option.none : Option Jvm.ClassFile.FieldType)),
  (⟨"java/lang/Throwable", "<init>", "(Ljava/lang/String;)V"⟩, prog_25_method_2_code, 2, (Option.none : Option Jvm.ClassFile.FieldType)),
  (⟨"MistCanton", "staysWith", "(IIIII)Z"⟩, prog_1_method_66_code, 5, (Option.some Jvm.ClassFile.FieldType.boolean)),
  (⟨"MistCanton", "gain", "(IIIII)I"⟩, prog_1_method_67_code, 5, (Option.some Jvm.ClassFile.FieldType.int)),
  (⟨"MistCanton", "gain", "(IIIII)I"⟩, prog_1_method_67_code, 5, (Option.some Jvm.ClassFile.FieldType.int)),
  (⟨"MistCantonModel", "feed", "(JJJ)I"⟩, prog_13_method_2_code, 7, (Option.some Jvm.ClassFile.FieldType.int)),
  (⟨"MistCantonModel", "lay", "(J)V"⟩, prog_13_method_3_code, 5, (Option.none : Option Jvm.ClassFile.FieldType)),
  (⟨"MistCantonModel", "<init>", "()V"⟩, prog_13_method_4_code, 1, (Option.none : Option Jvm.ClassFile.FieldType)),
  (⟨"MistCantonModel", "standsAsAlways", "(I)V"⟩, prog_13_method_18_code, 3, (Option.none : Option Jvm.ClassFile.FieldType)),
  (⟨"MistCantonModel", "begins", "()V"⟩, prog_13_method_43_code, 2, (Option.none : Option Jvm.ClassFile.FieldType)),
  (⟨"MistCantonModel", "onsAsTold", "()V"⟩, prog_13_method_42_code, 2, (Option.none : Option Jvm.ClassFile.FieldType)),
  (⟨"MistCantonModel", "events", "()I"⟩, prog_13_method_46_code, 1, (Option.some Jvm.ClassFile.FieldType.int)),
  (⟨"MistCantonModel", "eventOf", "(II)I"⟩, prog_13_method_48_code, 3, (Option.some Jvm.ClassFile.FieldType.int)),
  (⟨"MistCantonModel", "starts", "(I)V"⟩, prog_13_method_41_code, 3, (Option.none : Option Jvm.ClassFile.FieldType)),
  (⟨"MistCantonModel", "persons", "()I"⟩, prog_13_method_45_code, 1, (Option.some Jvm.ClassFile.FieldType.int)),
  (⟨"MistCantonModel", "personOf", "(II)I"⟩, prog_13_method_47_code, 3, (Option.some Jvm.ClassFile.FieldType.int)),
  (⟨"MistCantonModel", "canton", "()I"⟩, prog_13_method_26_code, 2, (Option.some Jvm.ClassFile.FieldType.int)),
  (⟨"MistCantonModel", "cutAll", "()V"⟩, prog_13_method_9_code, 7, (Option.none : Option Jvm.ClassFile.FieldType)),
  (⟨"MistCantonModel", "isLetter", "(I)Z"⟩, prog_13_method_5_code, 1, (Option.some Jvm.ClassFile.FieldType.boolean)),
  (⟨"MistCantonModel", "rank", "(I)I"⟩, prog_13_method_7_code, 1, (Option.some Jvm.ClassFile.FieldType.int)),
  (⟨"MistCantonModel", "isDigit", "(I)Z"⟩, prog_13_method_6_code, 1, (Option.some Jvm.ClassFile.FieldType.boolean)),
  (⟨"MistCantonModel", "isSignOf", "(I)Z"⟩, prog_13_method_8_code, 1, (Option.some Jvm.ClassFile.FieldType.boolean)),
  (⟨"MistCantonModel", "readLine", "()V"⟩, prog_13_method_27_code, 4, (Option.none : Option Jvm.ClassFile.FieldType)),
  (⟨"MistCantonModel", "isWord", "(I)Z"⟩, prog_13_method_12_code, 2, (Option.some Jvm.ClassFile.FieldType.boolean)),
  (⟨"MistCantonModel", "readName", "(III)V"⟩, prog_13_method_28_code, 5, (Option.none : Option Jvm.ClassFile.FieldType)),
  (⟨"MistCantonModel", "wrong", "(I)V"⟩, prog_13_method_10_code, 2, (Option.none : Option Jvm.ClassFile.FieldType)),
  (⟨"MistCantonModel", "isName", "()Z"⟩, prog_13_method_23_code, 1, (Option.some Jvm.ClassFile.FieldType.boolean)),
  (⟨"MistCantonModel", "wordHere", "(II)I"⟩, prog_13_method_21_code, 5, (Option.some Jvm.ClassFile.FieldType.int))]
def am_mi_5 : List (MethodName × ByteArray × Nat × Option FieldType) := [(⟨"MistCantonModel", "nameAt", "(Z)I"⟩, prog_13_method_24_code, 3, (Option.some Jvm.ClassFile.FieldType.int)),
  (⟨"MistCantonModel", "takeOne", "(II)I"⟩, prog_13_method_22_code, 4, (Option.some Jvm.ClassFile.FieldType.int)),
  (⟨"MistCantonModel", "takeAfter", "(III)I"⟩, prog_13_method_20_code, 4, (Option.some Jvm.ClassFile.FieldType.int)),
  (⟨"MistCantonModel", "takeWord", "(I)V"⟩, prog_13_method_16_code, 2, (Option.none : Option Jvm.ClassFile.FieldType)),
  (⟨"MistCantonModel", "hasWord", "(I)Z"⟩, prog_13_method_15_code, 3, (Option.some Jvm.ClassFile.FieldType.boolean)),
  (⟨"MistCantonModel", "takeNumber", "(II)I"⟩, prog_13_method_19_code, 3, (Option.some Jvm.ClassFile.FieldType.int)),
  (⟨"MistCantonModel", "takeTold", "(ZII)I"⟩, prog_13_method_25_code, 5, (Option.some Jvm.ClassFile.FieldType.int)),
  (⟨"MistCantonModel", "within", "(III)Z"⟩, prog_13_method_17_code, 3, (Option.some Jvm.ClassFile.FieldType.boolean)),
  (⟨"MistCantonModel", "readOnce", "()V"⟩, prog_13_method_29_code, 2, (Option.none : Option Jvm.ClassFile.FieldType)),
  (⟨"MistCantonModel", "readSnow", "()V"⟩, prog_13_method_30_code, 3, (Option.none : Option Jvm.ClassFile.FieldType)),
  (⟨"MistCantonModel", "whole", "(I)V"⟩, prog_13_method_33_code, 3, (Option.none : Option Jvm.ClassFile.FieldType)),
  (⟨"MistCantonModel", "test", "(I)V"⟩, prog_13_method_34_code, 3, (Option.none : Option Jvm.ClassFile.FieldType)),
  (⟨"MistCantonModel", "sums", "(I)V"⟩, prog_13_method_35_code, 3, (Option.none : Option Jvm.ClassFile.FieldType)),
  (⟨"MistCantonModel", "products", "(I)V"⟩, prog_13_method_36_code, 2, (Option.none : Option Jvm.ClassFile.FieldType)),
  (⟨"MistCantonModel", "takePart", "(I)V"⟩, prog_13_method_37_code, 4, (Option.none : Option Jvm.ClassFile.FieldType)),
  (⟨"MistCantonModel", "isSign", "(I)Z"⟩, prog_13_method_11_code, 2, (Option.some Jvm.ClassFile.FieldType.boolean)),
  (⟨"MistCantonModel", "emit", "(II)V"⟩, prog_13_method_32_code, 3, (Option.none : Option Jvm.ClassFile.FieldType)),
  (⟨"MistCantonModel", "hasSign", "(I)Z"⟩, prog_13_method_14_code, 3, (Option.some Jvm.ClassFile.FieldType.boolean)),
  (⟨"MistCantonModel", "takeSign", "(I)V"⟩, prog_13_method_13_code, 2, (Option.none : Option Jvm.ClassFile.FieldType)),
  (⟨"MistCantonModel", "week", "()I"⟩, prog_13_method_31_code, 4, (Option.some Jvm.ClassFile.FieldType.int)),
  (⟨"MistCantonModel", "person", "(II)I"⟩, prog_13_method_63_code, 3, (Option.some Jvm.ClassFile.FieldType.int)),
  (⟨"MistCantonModel", "isPerson", "(I)Z"⟩, prog_13_method_49_code, 2, (Option.some Jvm.ClassFile.FieldType.boolean)),
  (⟨"MistCantonModel", "toOne", "(I)I"⟩, prog_13_method_62_code, 2, (Option.some Jvm.ClassFile.FieldType.int)),
  (⟨"MistCantonModel", "offOf", "(II)I"⟩, prog_13_method_53_code, 3, (Option.some Jvm.ClassFile.FieldType.int)),
  (⟨"MistCantonModel", "snowOn", "(I)I"⟩, prog_13_method_52_code, 2, (Option.some Jvm.ClassFile.FieldType.int)),
  (⟨"MistCantonModel", "dayTo", "(III)I"⟩, prog_13_method_54_code, 3, (Option.some Jvm.ClassFile.FieldType.int)),
  (⟨"MistCantonModel", "event", "(II)I"⟩, prog_13_method_64_code, 3, (Option.some Jvm.ClassFile.FieldType.int)),
  (⟨"MistCantonModel", "isEvent", "(I)Z"⟩, prog_13_method_50_code, 2, (Option.some Jvm.ClassFile.FieldType.boolean)),
  (⟨"MistCantonModel", "invitedTo", "(I)I"⟩, prog_13_method_56_code, 4, (Option.some Jvm.ClassFile.FieldType.int)),
  (⟨"MistCantonModel", "isToCome", "(II)Z"⟩, prog_13_method_55_code, 3, (Option.some Jvm.ClassFile.FieldType.boolean)),
  (⟨"MistCantonModel", "day", "()I"⟩, prog_13_method_65_code, 1, (Option.some Jvm.ClassFile.FieldType.int)),
  (⟨"MistCantonModel", "keeps", "()V"⟩, prog_13_method_44_code, 2, (Option.none : Option Jvm.ClassFile.FieldType)),
  (⟨"MistCantonModel", "copies", "(III)V"⟩, prog_13_method_40_code, 5, (Option.none : Option Jvm.ClassFile.FieldType)),
  (⟨"MistCantonModel", "passes", "(I)I"⟩, prog_13_method_59_code, 2, (Option.some Jvm.ClassFile.FieldType.int)),
  (⟨"MistCantonModel", "passes", "(II)I"⟩, prog_13_method_58_code, 8, (Option.some Jvm.ClassFile.FieldType.int)),
  (⟨"MistCantonModel", "bits", "(I)I"⟩, prog_13_method_51_code, 3, (Option.some Jvm.ClassFile.FieldType.int)),
  (⟨"MistCantonModel", "worthAt", "(I)I"⟩, prog_13_method_38_code, 5, (Option.some Jvm.ClassFile.FieldType.int)),
  (⟨"MistCantonModel", "both", "(III)I"⟩, prog_13_method_39_code, 3, (Option.some Jvm.ClassFile.FieldType.int)),
  (⟨"MistCantonModel", "doesCome", "(IIII)Z"⟩, prog_13_method_57_code, 8, (Option.some Jvm.ClassFile.FieldType.boolean)),
  (⟨"MistCantonModel", "lot", "(II)I"⟩, prog_13_method_66_code, 4, (Option.some Jvm.ClassFile.FieldType.int))]
def am_mi_6 : List (MethodName × ByteArray × Nat × Option FieldType) := [(⟨"MistCantonModel", "ask", "(I)I"⟩, prog_13_method_68_code, 2, (Option.some Jvm.ClassFile.FieldType.int)),
  (⟨"MistCantonModel", "asks", "(II)V"⟩, prog_13_method_67_code, 3, (Option.none : Option Jvm.ClassFile.FieldType)),
  (⟨"MistCantonModel", "undo", "()Z"⟩, prog_13_method_69_code, 1, (Option.some Jvm.ClassFile.FieldType.boolean)),
  (⟨"MistCantonModel", "judged", "(I)I"⟩, prog_13_method_70_code, 9, (Option.some Jvm.ClassFile.FieldType.int)),
  (⟨"MistCantonModel", "pairsMet", "(I)I"⟩, prog_13_method_61_code, 4, (Option.some Jvm.ClassFile.FieldType.int)),
  (⟨"MistCantonModel", "sumOf", "(II)I"⟩, prog_13_method_60_code, 5, (Option.some Jvm.ClassFile.FieldType.int)),
  (⟨"MistCantonModel", "attends", "(II)I"⟩, prog_13_method_72_code, 4, (Option.some Jvm.ClassFile.FieldType.int)),
  (⟨"MistCantonModel", "triesNow", "()V"⟩, prog_13_method_71_code, 1, (Option.none : Option Jvm.ClassFile.FieldType)),
  (⟨"MistCantonModel", "next", "(II)I"⟩, prog_13_method_73_code, 4, (Option.some Jvm.ClassFile.FieldType.int)),
  (⟨"MistCantonModel", "quorum", "(I)I"⟩, prog_13_method_74_code, 3, (Option.some Jvm.ClassFile.FieldType.int)),
  (⟨"MistCantonModel", "held", "(II)I"⟩, prog_13_method_75_code, 4, (Option.some Jvm.ClassFile.FieldType.int)),
  (⟨"MistCantonModel", "meet", "(II)I"⟩, prog_13_method_76_code, 4, (Option.some Jvm.ClassFile.FieldType.int)),
  (⟨"MistCantonModel", "idle", "(I)I"⟩, prog_13_method_78_code, 4, (Option.some Jvm.ClassFile.FieldType.int)),
  (⟨"MistCantonModel", "comersOf", "(I)I"⟩, prog_13_method_77_code, 4, (Option.some Jvm.ClassFile.FieldType.int)),
  (⟨"MistCantonModel", "busy", "()I"⟩, prog_13_method_79_code, 5, (Option.some Jvm.ClassFile.FieldType.int)),
  (⟨"MistCantonModel", "family", "(I)I"⟩, prog_13_method_80_code, 4, (Option.some Jvm.ClassFile.FieldType.int)),
  (⟨"MistCantonModel", "lonely", "()I"⟩, prog_13_method_81_code, 3, (Option.some Jvm.ClassFile.FieldType.int)),
  (⟨"MistCantonModel", "move", "(I)I"⟩, prog_13_method_82_code, 6, (Option.some Jvm.ClassFile.FieldType.int)),
  (⟨"MistCantonModel", "last", "(I)I"⟩, prog_13_method_83_code, 4, (Option.some Jvm.ClassFile.FieldType.int)),
  (⟨"MistCantonModel", "twins", "()I"⟩, prog_13_method_84_code, 4, (Option.some Jvm.ClassFile.FieldType.int)),
  (⟨"MistCantonModel", "steady", "()I"⟩, prog_13_method_85_code, 7, (Option.some Jvm.ClassFile.FieldType.int)),
  (⟨"MistCantonModel", "group", "(I)I"⟩, prog_13_method_87_code, 5, (Option.some Jvm.ClassFile.FieldType.int)),
  (⟨"MistCantonModel", "ofOff", "(I)I"⟩, prog_13_method_86_code, 4, (Option.some Jvm.ClassFile.FieldType.int)),
  (⟨"MistCantonModel", "least", "(II)I"⟩, prog_13_method_90_code, 8, (Option.some Jvm.ClassFile.FieldType.int)),
  (⟨"MistCantonModel", "costOf", "(II)I"⟩, prog_13_method_89_code, 9, (Option.some Jvm.ClassFile.FieldType.int)),
  (⟨"MistCantonModel", "apart", "(II)I"⟩, prog_13_method_88_code, 2, (Option.some Jvm.ClassFile.FieldType.int)),
  (⟨"MistCantonModel", "see", "(IIZ)Z"⟩, prog_13_method_91_code, 5, (Option.some Jvm.ClassFile.FieldType.boolean)),
  (⟨"MistCantonModel", "lots", "()I"⟩, prog_13_method_94_code, 1, (Option.some Jvm.ClassFile.FieldType.int)),
  (⟨"MistCantonModel", "lotsNow", "()I"⟩, prog_13_method_93_code, 6, (Option.some Jvm.ClassFile.FieldType.int)),
  (⟨"MistCantonModel", "doesLotCome", "(III)Z"⟩, prog_13_method_92_code, 5, (Option.some Jvm.ClassFile.FieldType.boolean)),
  (⟨"MistCantonModel", "look", "()I"⟩, prog_13_method_95_code, 9, (Option.some Jvm.ClassFile.FieldType.int)),
  (⟨"MistCantonModel", "guess", "()I"⟩, prog_13_method_98_code, 1, (Option.some Jvm.ClassFile.FieldType.int)),
  (⟨"MistCantonModel", "guessOf", "()I"⟩, prog_13_method_97_code, 4, (Option.some Jvm.ClassFile.FieldType.int)),
  (⟨"MistCantonModel", "toHow", "(I)I"⟩, prog_13_method_96_code, 4, (Option.some Jvm.ClassFile.FieldType.int)),
  (⟨"MistCantonModel", "wrong", "()I"⟩, prog_13_method_99_code, 3, (Option.some Jvm.ClassFile.FieldType.int)),
  (⟨"MistCantonModel", "leads", "(I)I"⟩, prog_13_method_100_code, 2, (Option.some Jvm.ClassFile.FieldType.int)),
  (⟨"MistCantonModel", "spread", "()I"⟩, prog_13_method_101_code, 3, (Option.some Jvm.ClassFile.FieldType.int)),
  (⟨"MistCantonModel", "pairs", "()I"⟩, prog_13_method_102_code, 3, (Option.some Jvm.ClassFile.FieldType.int)),
  (⟨"MistCantonModel", "right", "()I"⟩, prog_13_method_103_code, 3, (Option.some Jvm.ClassFile.FieldType.int)),
  (⟨"MistCantonModel", "through", "(II)I"⟩, prog_13_method_105_code, 4, (Option.some Jvm.ClassFile.FieldType.int))]
def am_mi_7 : List (MethodName × ByteArray × Nat × Option FieldType) := [(⟨"MistCantonModel", "around", "(II)I"⟩, prog_13_method_104_code, 7, (Option.some Jvm.ClassFile.FieldType.int)),
  (⟨"MistCantonModel", "wedded", "()I"⟩, prog_13_method_106_code, 3, (Option.some Jvm.ClassFile.FieldType.int)),
  (⟨"MistCantonModel", "circles", "()I"⟩, prog_13_method_107_code, 3, (Option.some Jvm.ClassFile.FieldType.int)),
  (⟨"MistCantonModel", "cover", "()I"⟩, prog_13_method_108_code, 5, (Option.some Jvm.ClassFile.FieldType.int)),
  (⟨"MistCantonModel", "shared", "(II)I"⟩, prog_13_method_109_code, 3, (Option.some Jvm.ClassFile.FieldType.int)),
  (⟨"MistCantonModel", "chance", "(III)I"⟩, prog_13_method_110_code, 14, (Option.some Jvm.ClassFile.FieldType.int)),
  (⟨"MistCantonModel", "rests", "(IIII)I"⟩, prog_13_method_112_code, 12, (Option.some Jvm.ClassFile.FieldType.int)),
  (⟨"MistCantonModel", "getsBy", "(IIIII)I"⟩, prog_13_method_111_code, 5, (Option.some Jvm.ClassFile.FieldType.int)),
  (⟨"MistCantonModel", "years", "(III)I"⟩, prog_13_method_115_code, 5, (Option.some Jvm.ClassFile.FieldType.int)),
  (⟨"MistCantonModel", "drawsDeed", "()V"⟩, prog_13_method_114_code, 3, (Option.none : Option Jvm.ClassFile.FieldType)),
  (⟨"MistCantonModel", "draw", "(I)I"⟩, prog_13_method_113_code, 2, (Option.some Jvm.ClassFile.FieldType.int)),
  (⟨"MistCantonModel", "mark", "(IZ)Z"⟩, prog_13_method_116_code, 3, (Option.some Jvm.ClassFile.FieldType.boolean)),
  (⟨"MistCantonModel", "count", "(I)I"⟩, prog_13_method_117_code, 2, (Option.some Jvm.ClassFile.FieldType.int))]
def am_mi : List (MethodName × ByteArray × Nat × Option FieldType) := am_mi_0 ++ (am_mi_1 ++ (am_mi_2 ++ (am_mi_3 ++ (am_mi_4 ++ (am_mi_5 ++ (am_mi_6 ++ (am_mi_7)))))))
set_option maxRecDepth 100000 in
set_option maxHeartbeats 4000000 in
theorem am_mi_eq : (lw_tbl.filterMap am_isCode).take 176 ++ (((lw_tbl.filterMap am_isCode).drop 175).take 1 ++ (lw_tbl.filterMap am_isCode).drop 176) = am_mi := by rfl
def am_ml : List (String × Nat × Nat) := [("MistCantonLaw", 15, 0), ("MistCanton", 1, 1), ("MistCanton", 9, 2), ("MistCanton$Tape", 3, 1), ("MistCanton", 18, 3), ("MistCanton$CantonReader", 3, 1), ("MistCanton$CantonReader", 17, 4), ("MistCanton$LawReader", 3, 1), ("MistCanton", 27, 5), ("MistCanton$WeekReader", 3, 1), ("MistCanton", 34, 6), ("MistCanton$Canton", 3, 1), ("MistCanton$Canton", 36, 7), ("MistCanton$Law", 3, 1), ("MistCanton", 44, 8), ("MistCanton$Week", 3, 1), ("MistCanton", 54, 9), ("MistCanton$State", 3, 1), ("MistCanton", 68, 10), ("MistCanton$History", 3, 1), ("MistCanton$History", 17, 9), ("MistCanton", 79, 11), ("MistCanton$Mark", 1, 1), ("MistCanton$Mark", 9, 9), ("MistCantonLaw", 21, 12), ("MistCanton", 87, 13), ("MistCantonLaw", 26, 14), ("MistCanton", 94, 15), ("MistCanton$CantonReader", 24, 16), ("MistCanton$CantonReader", 29, 17), ("MistCanton$Tape", 27, 18), ("MistCanton$Tape", 36, 19), ("MistCanton$Tape", 39, 20), ("MistCanton$Tape", 44, 21), ("java/lang/String", 633, 22), ("java/lang/String", 492, 23), ("java/lang/String", 505, 24), ("java/lang/String", 335, 25), ("java/lang/String", 637, 26), ("java/lang/StringLatin1", 88, 27), ("java/lang/StringLatin1", 92, 28), ("java/lang/StringLatin1", 38, 29), ("java/lang/StringLatin1", 95, 30), ("java/lang/String", 640, 31), ("java/lang/StringUTF16", 224, 28), ("java/lang/StringUTF16", 183, 29), ("java/lang/StringUTF16", 228, 32), ("java/lang/StringUTF16", 96, 33), ("java/lang/StringUTF16", 48, 34), ("java/lang/StringUTF16", 241, 35), ("java/lang/String", 1062, 36), ("java/lang/StringUTF16", 244, 37), ("java/lang/StringUTF16", 71, 38), ("java/lang/StringUTF16", 232, 39), ("java/lang/StringUTF16", 164, 40), ("java/lang/StringUTF16", 157, 41), ("java/lang/StringUTF16", 161, 42), ("MistCanton$CantonReader", 38, 43), ("MistCanton$CantonReader", 47, 44), ("MistCanton$Tape", 57, 24), ("MistCanton$Tape", 60, 45), ("java/lang/String", 495, 46), ("java/lang/StringLatin1", 9, 47), ("java/lang/String", 1059, 48), ("java/lang/String", 498, 49), ("java/lang/StringUTF16", 67, 50), ("java/lang/StringUTF16", 414, 47), ("MistCanton$CantonReader", 51, 51), ("MistCanton$CantonReader", 74, 52), ("MistCanton$CantonReader", 96, 18), ("MistCanton$CantonReader", 99, 53), ("MistCanton$CantonReader", 78, 54), ("MistCanton$CantonReader", 86, 55), ("MistCanton$CantonReader", 90, 56), ("MistCanton$CantonReader", 106, 57), ("MistCanton$CantonReader", 116, 58), ("MistCanton$Tape", 66, 44), ("MistCanton$Tape", 70, 52), ("MistCanton$CantonReader", 119, 59), ("MistCanton$CantonReader", 129, 61), ("MistCanton$Tape", 74, 62), ("MistCanton$CantonReader", 56, 63), ("MistCanton$CantonReader", 61, 64), ("MistCanton$CantonReader", 66, 66), ("MistCanton$CantonReader", 166, 67), ("MistCanton$CantonReader", 169, 68), ("MistCanton$CantonReader", 174, 69), ("MistCanton$CantonReader", 71, 70), ("MistCanton$LawReader", 23, 52), ("MistCanton$LawReader", 27, 18), ("MistCanton$LawReader", 34, 71), ("MistCanton$LawReader", 42, 72), ("MistCanton$LawReader", 59, 73), ("MistCanton$LawReader", 65, 74), ("MistCanton$LawReader", 68, 75), ("MistCanton$LawReader", 71, 76), ("MistCanton$LawReader", 47, 44), ("MistCanton$LawReader", 62, 62), ("MistCanton$LawReader", 55, 77), ("MistCanton$LawReader", 38, 61), ("MistCanton", 98, 78), ("MistCanton", 104, 79), ("MistCantonLaw", 31, 80), ("MistCanton", 101, 81), ("MistCanton$WeekReader", 21, 17), ("MistCanton$WeekReader", 29, 82), ("MistCanton$WeekReader", 36, 83), ("MistCanton$WeekReader", 70, 44), ("MistCanton$WeekReader", 40, 52), ("MistCanton$WeekReader", 54, 18), ("MistCanton$WeekReader", 57, 84), ("MistCanton$WeekReader", 78, 54), ("MistCanton$WeekReader", 86, 55), ("MistCanton$WeekReader", 60, 85), ("MistCanton$WeekReader", 92, 59), ("MistCanton$WeekReader", 64, 61), ("MistCantonLaw", 35, 86), ("MistCanton", 114, 87), ("MistCanton", 127, 68), ("MistCanton", 130, 88), ("MistCanton$Canton", 68, 89), ("MistCanton$Canton", 75, 90), ("MistCanton", 134, 91), ("MistCantonLaw", 40, 92), ("MistCanton", 141, 93), ("MistCantonLaw", 203, 94), ("MistCanton", 165, 95), ("MistCanton", 169, 96), ("MistCanton$State", 38, 69), ("MistCantonLaw", 44, 97), ("MistCanton", 175, 98), ("MistCanton$History", 22, 99), ("MistCanton$History", 29, 29), ("MistCanton", 179, 100), ("MistCanton$Canton", 85, 101), ("MistCanton$Canton", 105, 88), ("MistCanton$Canton", 109, 102), ("MistCanton$Canton", 116, 103), ("MistCanton$Canton", 112, 104), ("MistCanton$Canton", 96, 69), ("MistCanton$Canton", 123, 105), ("MistCanton$Law", 22, 106), ("MistCanton$Law", 26, 107), ("MistCanton$Canton", 92, 108), ("MistCantonLaw", 48, 109), ("MistCanton", 183, 60), ("MistCantonLaw", 52, 110), ("MistCanton", 187, 111), ("MistCantonLaw", 57, 112), ("MistCanton", 191, 113), ("MistCantonLaw", 198, 114), ("MistCanton", 195, 115), ("MistCanton$Mark", 20, 99), ("MistCanton", 202, 99), ("MistCantonLaw", 62, 116), ("MistCanton", 207, 117), ("MistCanton", 216, 118), ("MistCantonLaw", 66, 119), ("MistCantonLaw", 70, 120), ("MistCanton", 219, 65), ("MistCantonLaw", 74, 121), ("MistCantonLaw", 78, 122), ("MistCanton", 223, 123), ("MistCantonLaw", 175, 124), ("MistCantonLaw", 82, 125), ("MistCantonLaw", 86, 126), ("MistCanton", 227, 127), ("MistCantonLaw", 90, 128), ("MistCantonLaw", 135, 129), ("MistCantonLaw", 159, 130), ("MistCantonLaw", 167, 131), ("MistCantonLaw", 171, 132), ("MistCanton", 230, 133), ("MistCanton", 233, 69), ("MistCantonLaw", 183, 134), ("MistCanton", 238, 135), ("MistCanton", 241, 136), ("MistCantonLaw", 194, 137), ("MistCanton", 245, 138), ("MistCanton", 249, 139), ("MistCanton", 252, 140), ("MistCantonLaw", 94, 141), ("MistCanton", 264, 142), ("MistCanton", 267, 89), ("MistCantonLaw", 98, 143), ("MistCanton", 271, 144), ("MistCanton", 274, 145), ("MistCanton", 282, 146), ("MistCanton", 277, 29), ("MistCantonLaw", 123, 147), ("MistCantonLaw", 102, 148), ("MistCanton", 285, 149), ("MistCanton$Canton", 81, 68), ("MistCantonLaw", 107, 150), ("MistCantonLaw", 111, 151), ("MistCanton", 288, 28), ("MistCantonLaw", 115, 152), ("MistCanton", 291, 153), ("MistCantonLaw", 119, 154), ("MistCanton", 294, 152), ("MistCanton", 297, 90), ("MistCantonLaw", 127, 155), ("MistCantonLaw", 131, 156), ("MistCantonLaw", 163, 157), ("MistCantonLaw", 179, 158), ("MistCanton", 300, 159), ("MistCantonLaw", 139, 160), ("MistCanton", 303, 161), ("MistCantonLaw", 143, 162), ("MistCantonLaw", 147, 163), ("MistCanton", 306, 164), ("MistCantonLaw", 155, 165), ("MistCantonLaw", 151, 166), ("MistCanton", 309, 167), ("MistCantonLaw", 188, 999), ("MistCantonLaw", 7, 168), ("java/lang/Throwable", 1, 1), ("java/lang/Throwable", 27, 999), ("java/lang/Throwable", 202, 999), ("MistCanton", 316, 170), ("java/util/NoSuchElementException", 13, 171), ("java/lang/RuntimeException", 7, 172), ("java/lang/Exception", 7, 173), ("MistCanton", 319, 174), ("MistCanton", 325, 175), ("MistCantonLaw", 25, 177), ("MistCantonModel", 7, 178), ("MistCantonLaw", 18, 179), ("MistCantonModel", 18, 1), ("MistCantonModel", 122, 180), ("MistCantonModel", 126, 181), ("MistCantonModel", 272, 182), ("MistCantonModel", 266, 183), ("MistCantonModel", 269, 184), ("MistCantonModel", 275, 185), ("MistCantonModel", 259, 186), ("MistCantonModel", 263, 187), ("MistCantonLaw", 30, 188), ("MistCantonModel", 198, 189), ("MistCantonModel", 129, 190), ("MistCantonModel", 138, 191), ("MistCantonModel", 142, 192), ("MistCantonModel", 149, 193), ("MistCantonModel", 207, 194), ("MistCantonModel", 164, 195), ("MistCantonModel", 213, 196), ("MistCantonModel", 161, 197), ("MistCantonModel", 186, 198), ("MistCantonModel", 177, 199), ("MistCantonModel", 190, 200), ("MistCantonModel", 217, 201), ("MistCantonModel", 220, 202), ("MistCantonModel", 170, 203), ("MistCantonModel", 167, 204), ("MistCantonModel", 173, 205), ("MistCantonModel", 224, 206), ("MistCantonModel", 194, 207), ("MistCantonModel", 228, 208), ("MistCantonModel", 231, 209), ("MistCantonModel", 234, 210), ("MistCantonModel", 241, 211), ("MistCantonModel", 244, 212), ("MistCantonModel", 250, 213), ("MistCantonModel", 253, 214), ("MistCantonModel", 158, 215), ("MistCantonModel", 237, 216), ("MistCantonModel", 247, 217), ("MistCantonModel", 210, 218), ("MistCantonLaw", 34, 219), ("MistCantonLaw", 39, 220), ("MistCantonModel", 313, 221), ("MistCantonModel", 316, 222), ("MistCantonModel", 288, 223), ("MistCantonModel", 307, 224), ("MistCantonModel", 291, 225), ("MistCantonLaw", 43, 226), ("MistCantonModel", 319, 227), ("MistCantonModel", 322, 228), ("MistCantonModel", 284, 229), ("MistCantonLaw", 47, 230), ("MistCantonModel", 325, 231), ("MistCantonModel", 281, 232), ("MistCantonModel", 328, 233), ("MistCantonModel", 310, 234), ("MistCantonModel", 297, 235), ("MistCantonModel", 300, 236), ("MistCantonModel", 256, 237), ("MistCantonModel", 303, 238), ("MistCantonLaw", 51, 239), ("MistCantonLaw", 56, 240), ("MistCantonModel", 330, 241), ("MistCantonLaw", 61, 242), ("MistCantonLaw", 65, 243), ("MistCantonModel", 333, 244), ("MistCantonModel", 336, 245), ("MistCantonLaw", 69, 246), ("MistCantonModel", 339, 247), ("MistCantonLaw", 73, 248), ("MistCantonLaw", 77, 249), ("MistCantonLaw", 81, 250), ("MistCantonLaw", 85, 251), ("MistCantonLaw", 89, 252), ("MistCantonModel", 342, 253), ("MistCantonLaw", 93, 254), ("MistCantonLaw", 138, 255), ("MistCantonLaw", 162, 256), ("MistCantonLaw", 170, 257), ("MistCantonLaw", 178, 258), ("MistCantonLaw", 174, 259), ("MistCantonLaw", 182, 260), ("MistCantonLaw", 97, 261), ("MistCantonModel", 345, 262), ("MistCantonLaw", 101, 263), ("MistCantonModel", 351, 264), ("MistCantonModel", 348, 265), ("MistCantonLaw", 106, 266), ("MistCantonLaw", 110, 267), ("MistCantonModel", 357, 268), ("MistCantonModel", 354, 269), ("MistCantonLaw", 114, 270), ("MistCantonLaw", 118, 271), ("MistCantonModel", 363, 272), ("MistCantonModel", 360, 273), ("MistCantonLaw", 122, 274), ("MistCantonLaw", 126, 275), ("MistCantonLaw", 130, 276), ("MistCantonLaw", 134, 277), ("MistCantonLaw", 166, 278), ("MistCantonLaw", 142, 279), ("MistCantonModel", 366, 280), ("MistCantonLaw", 146, 281), ("MistCantonLaw", 150, 282), ("MistCantonLaw", 154, 283), ("MistCantonLaw", 158, 284), ("MistCantonLaw", 187, 285), ("MistCantonLaw", 193, 286), ("MistCantonModel", 371, 287), ("MistCantonLaw", 197, 288), ("MistCantonModel", 390, 289), ("MistCantonModel", 387, 290), ("MistCantonLaw", 202, 291), ("MistCantonLaw", 206, 292)]
def am_y (n : Nat) : MethodName := match am_mi[n]? with
  | some q => q.1
  | none => ⟨"", "", ""⟩
def am_fl : List (String × Nat × String × String × String) := [("MistCanton$Tape", 9, "MistCanton$Tape", "signs", "[C"), ("MistCanton", 91, "MistCanton$Tape", "length", "I"), ("MistCanton$Tape", 17, "MistCanton$Tape", "length", "I"), ("MistCanton$CantonReader", 34, "MistCanton$Tape", "kind", "I"), ("MistCanton$WeekReader", 26, "MistCanton$Tape", "kind", "I"), ("MistCanton$Tape", 33, "MistCanton$Tape", "kind", "I"), ("MistCanton$LawReader", 75, "MistCanton$Tape", "kind", "I"), ("MistCanton$Tape", 30, "MistCanton$Tape", "place", "I"), ("MistCanton$Tape", 24, "MistCanton$Tape", "behind", "I"), ("MistCanton$CantonReader", 82, "MistCanton$Tape", "word", "J"), ("MistCanton$Tape", 50, "MistCanton$Tape", "word", "J"), ("MistCanton$WeekReader", 82, "MistCanton$Tape", "word", "J"), ("MistCanton$CantonReader", 126, "MistCanton$Tape", "number", "I"), ("MistCanton$Tape", 54, "MistCanton$Tape", "number", "I"), ("MistCanton$WeekReader", 96, "MistCanton$Tape", "number", "I"), ("MistCanton$LawReader", 81, "MistCanton$Tape", "number", "I"), ("MistCanton$CantonReader", 42, "MistCanton$Tape", "fault", "I"), ("MistCanton$WeekReader", 33, "MistCanton$Tape", "fault", "I"), ("MistCanton$Tape", 21, "MistCanton$Tape", "fault", "I"), ("MistCanton$LawReader", 9, "MistCanton$LawReader", "tape", "LMistCanton$Tape;"), ("MistCanton$CantonReader", 9, "MistCanton$CantonReader", "tape", "LMistCanton$Tape;"), ("MistCanton$CantonReader", 20, "MistCanton$CantonReader", "lawReader", "LMistCanton$LawReader;"), ("MistCanton$WeekReader", 9, "MistCanton$WeekReader", "tape", "LMistCanton$Tape;"), ("MistCanton$Law", 9, "MistCanton$Law", "parts", "[I"), ("MistCanton$Law", 15, "MistCanton$Law", "stack", "[I"), ("MistCanton$Law", 18, "MistCanton$Law", "length", "I"), ("MistCanton$Canton", 58, "MistCanton$Law", "length", "I"), ("MistCanton$Canton", 41, "MistCanton$Canton", "persons", "I"), ("MistCanton$CantonReader", 93, "MistCanton$Canton", "persons", "I"), ("MistCanton", 159, "MistCanton$Canton", "persons", "I"), ("MistCanton$Canton", 9, "MistCanton$Canton", "names", "[J"), ("MistCanton$CantonReader", 102, "MistCanton$Canton", "names", "[J"), ("MistCanton$Canton", 15, "MistCanton$Canton", "kinds", "[I"), ("MistCanton$CantonReader", 110, "MistCanton$Canton", "kinds", "[I"), ("MistCanton", 118, "MistCanton$Canton", "kinds", "[I"), ("MistCanton$Canton", 19, "MistCanton$Canton", "lots", "[I"), ("MistCanton$State", 31, "MistCanton$Canton", "lots", "[I"), ("MistCanton$CantonReader", 123, "MistCanton$Canton", "lots", "[I"), ("MistCanton$Canton", 45, "MistCanton$Canton", "events", "I"), ("MistCanton$CantonReader", 141, "MistCanton$Canton", "events", "I"), ("MistCanton", 162, "MistCanton$Canton", "events", "I"), ("MistCanton$Canton", 22, "MistCanton$Canton", "titles", "[J"), ("MistCanton$CantonReader", 144, "MistCanton$Canton", "titles", "[J"), ("MistCanton$Canton", 25, "MistCanton$Canton", "weekdays", "[I"), ("MistCanton", 144, "MistCanton$Canton", "weekdays", "[I"), ("MistCanton$CantonReader", 149, "MistCanton$Canton", "weekdays", "[I"), ("MistCanton$Canton", 28, "MistCanton$Canton", "needs", "[I"), ("MistCanton", 147, "MistCanton$Canton", "needs", "[I"), ("MistCanton$CantonReader", 154, "MistCanton$Canton", "needs", "[I"), ("MistCanton$Canton", 31, "MistCanton$Canton", "guests", "[I"), ("MistCanton", 150, "MistCanton$Canton", "guests", "[I"), ("MistCanton$CantonReader", 156, "MistCanton$Canton", "guests", "[I"), ("MistCanton$Canton", 48, "MistCanton$Canton", "snowTold", "Z"), ("MistCanton$CantonReader", 162, "MistCanton$Canton", "snowTold", "Z"), ("MistCanton$Canton", 52, "MistCanton$Canton", "snow", "I"), ("MistCanton$CantonReader", 172, "MistCanton$Canton", "snow", "I"), ("MistCanton$LawReader", 15, "MistCanton$Canton", "lawTold", "Z"), ("MistCanton$Canton", 55, "MistCanton$Canton", "lawTold", "Z"), ("MistCanton$Canton", 37, "MistCanton$Canton", "law", "LMistCanton$Law;"), ("MistCanton$LawReader", 30, "MistCanton$Canton", "law", "LMistCanton$Law;"), ("MistCanton$Week", 9, "MistCanton$Week", "acts", "[I"), ("MistCanton$WeekReader", 44, "MistCanton$Week", "acts", "[I"), ("MistCanton", 212, "MistCanton$Week", "acts", "[I"), ("MistCanton$Week", 15, "MistCanton$Week", "persons", "[I"), ("MistCanton$WeekReader", 48, "MistCanton$Week", "persons", "[I"), ("MistCanton", 210, "MistCanton$Week", "persons", "[I"), ("MistCanton$Week", 18, "MistCanton$Week", "lots", "[I"), ("MistCanton$WeekReader", 51, "MistCanton$Week", "lots", "[I"), ("MistCanton", 215, "MistCanton$Week", "lots", "[I"), ("MistCanton$WeekReader", 15, "MistCanton$Week", "length", "I"), ("MistCanton", 108, "MistCanton$Week", "length", "I"), ("MistCanton$State", 24, "MistCanton$State", "day", "I"), ("MistCanton", 124, "MistCanton$State", "day", "I"), ("MistCanton$Canton", 72, "MistCanton$State", "day", "I"), ("MistCanton$State", 28, "MistCanton$State", "crimes", "I"), ("MistCanton", 172, "MistCanton$State", "crimes", "I"), ("MistCanton$State", 9, "MistCanton$State", "lots", "[I"), ("MistCanton$Canton", 65, "MistCanton$State", "lots", "[I"), ("MistCanton", 121, "MistCanton$State", "lots", "[I"), ("MistCanton$State", 15, "MistCanton$State", "met", "[I"), ("MistCanton", 138, "MistCanton$State", "met", "[I"), ("MistCanton$Canton", 120, "MistCanton$State", "met", "[I"), ("MistCanton$State", 18, "MistCanton$State", "held", "[I"), ("MistCanton", 153, "MistCanton$State", "held", "[I"), ("MistCanton$Canton", 102, "MistCanton$State", "held", "[I"), ("MistCanton$State", 21, "MistCanton$State", "came", "[I"), ("MistCanton", 156, "MistCanton$State", "came", "[I"), ("MistCanton$Canton", 89, "MistCanton$State", "came", "[I"), ("MistCanton$History", 11, "MistCanton$History", "ring", "[LMistCanton$State;"), ("MistCanton$History", 18, "MistCanton$History", "newest", "I"), ("MistCanton$History", 26, "MistCanton$History", "length", "I"), ("MistCanton", 109, "MistCanton$History", "length", "I"), ("MistCanton$Mark", 16, "MistCanton$Mark", "laid", "Z"), ("MistCanton", 110, "MistCanton$Mark", "laid", "Z"), ("MistCanton$Mark", 10, "MistCanton$Mark", "state", "LMistCanton$State;"), ("MistCanton", 199, "MistCanton$Mark", "state", "LMistCanton$State;"), ("MistCanton$Mark", 24, "MistCanton$Mark", "sights", "I"), ("MistCanton", 205, "MistCanton$Mark", "sights", "I"), ("MistCanton$Mark", 28, "MistCanton$Mark", "sightLots", "I"), ("MistCanton", 206, "MistCanton$Mark", "sightLots", "I"), ("MistCanton", 10, "MistCanton", "tape", "LMistCanton$Tape;"), ("MistCanton", 21, "MistCanton", "cantonReader", "LMistCanton$CantonReader;"), ("MistCanton", 28, "MistCanton", "weekReader", "LMistCanton$WeekReader;"), ("MistCanton", 35, "MistCanton", "told", "LMistCanton$Canton;"), ("MistCanton", 39, "MistCanton", "spareCanton", "LMistCanton$Canton;"), ("MistCanton", 45, "MistCanton", "toldWeek", "LMistCanton$Week;"), ("MistCanton", 49, "MistCanton", "spareWeek", "LMistCanton$Week;"), ("MistCanton", 55, "MistCanton", "now", "LMistCanton$State;"), ("MistCanton", 59, "MistCanton", "ahead", "LMistCanton$State;"), ("MistCanton", 62, "MistCanton", "unlike", "[I"), ("MistCanton", 69, "MistCanton", "history", "LMistCanton$History;"), ("MistCanton", 75, "MistCanton", "marks", "[LMistCanton$Mark;"), ("MistCanton", 80, "MistCanton", "sights", "I"), ("MistCanton", 84, "MistCanton", "sightLots", "I"), ("java/lang/String", 38, "java/lang/String", "COMPACT_STRINGS", "Z"), ("java/lang/String", 1053, "jdk/internal/util/Preconditions", "SIOOBE_FORMATTER", "Ljava/util/function/BiFunction;"), ("java/lang/StringUTF16", 44, "java/lang/StringUTF16", "$assertionsDisabled", "Z"), ("java/lang/StringUTF16", 59, "java/lang/StringUTF16", "HI_BYTE_SHIFT", "I"), ("java/lang/StringUTF16", 63, "java/lang/StringUTF16", "LO_BYTE_SHIFT", "I"), ("java/lang/Throwable", 198, "java/lang/Throwable", "backtrace", "Ljava/lang/Object;"), ("java/lang/Throwable", 13, "java/lang/Throwable", "UNASSIGNED_STACK", "[Ljava/lang/StackTraceElement;"), ("java/lang/Throwable", 20, "java/lang/Throwable", "SUPPRESSED_SENTINEL", "Ljava/util/List;"), ("java/lang/Throwable", 198, "java/lang/Throwable", "backtrace", "Ljava/lang/Object;"), ("java/lang/Throwable", 31, "java/lang/Throwable", "detailMessage", "Ljava/lang/String;"), ("java/lang/Throwable", 7, "java/lang/Throwable", "cause", "Ljava/lang/Throwable;"), ("java/lang/Throwable", 17, "java/lang/Throwable", "stackTrace", "[Ljava/lang/StackTraceElement;"), ("java/lang/Throwable", 24, "java/lang/Throwable", "suppressedExceptions", "Ljava/util/List;"), ("MistCantonModel", 1, "MistCantonModel", "thrown", "I"), ("MistCantonModel", 14, "MistCantonModel", "tape", "[I"), ("MistCantonModel", 11, "MistCantonModel", "taped", "I"), ("MistCantonModel", 133, "MistCantonModel", "size", "I"), ("MistCantonModel", 24, "MistCantonModel", "sort", "[I"), ("MistCantonModel", 27, "MistCantonModel", "place", "[I"), ("MistCantonModel", 30, "MistCantonModel", "value", "[J"), ("MistCantonModel", 152, "MistCantonModel", "at", "I"), ("MistCantonModel", 155, "MistCantonModel", "fault", "I"), ("MistCantonModel", 76, "MistCantonModel", "words", "[J"), ("MistCantonModel", 79, "MistCantonModel", "cantons", "[I"), ("MistCantonModel", 82, "MistCantonModel", "op", "[I"), ("MistCantonModel", 85, "MistCantonModel", "arg", "[I"), ("MistCantonModel", 201, "MistCantonModel", "codes", "I"), ("MistCantonModel", 88, "MistCantonModel", "names", "[J"), ("MistCantonModel", 91, "MistCantonModel", "readNames", "[J"), ("MistCantonModel", 94, "MistCantonModel", "nameOf", "[I"), ("MistCantonModel", 97, "MistCantonModel", "readNameOf", "[I"), ("MistCantonModel", 183, "MistCantonModel", "namesMany", "I"), ("MistCantonModel", 180, "MistCantonModel", "readMany", "I"), ("MistCantonModel", 204, "MistCantonModel", "once", "I"), ("MistCantonModel", 100, "MistCantonModel", "lines", "[I"), ("MistCantonModel", 103, "MistCantonModel", "facts", "[I"), ("MistCantonModel", 106, "MistCantonModel", "pile", "[I"), ("MistCantonModel", 109, "MistCantonModel", "state", "[I"), ("MistCantonModel", 278, "MistCantonModel", "undos", "I"), ("MistCantonModel", 112, "MistCantonModel", "isMarked", "[Z"), ("MistCantonModel", 116, "MistCantonModel", "ons", "[I"), ("MistCantonModel", 294, "MistCantonModel", "goers", "I"), ("MistCantonModel", 119, "MistCantonModel", "alike", "[I"), ("MistCantonModel", 375, "MistCantonModel", "g", "J"), ("java/lang/String", 15, "java/lang/String", "coder", "B"), ("java/lang/String", 9, "java/lang/String", "value", "[B")]
set_option maxRecDepth 100000 in
theorem am_fl_eq : lw_tbl.filterMap am_isFL = am_fl := by decide +kernel
def am_cl : List (String × Nat × Int64) := [("MistCanton$Tape", 15, 255), ("MistCanton", 256, 1103515245), ("MistCanton", 258, 12345), ("MistCanton", 260, 2147483648), ("MistCanton", 262, 65536), ("MistCantonModel", 34, 1119812451), ("MistCantonModel", 36, 17003), ("MistCantonModel", 38, 10492554), ("MistCantonModel", 40, 569), ("MistCantonModel", 42, 26498531), ("MistCantonModel", 44, 6400279), ("MistCantonModel", 46, 982151), ("MistCantonModel", 48, 375310), ("MistCantonModel", 50, 5538), ("MistCantonModel", 52, 2083), ("MistCantonModel", 54, 30596128), ("MistCantonModel", 56, 43567634), ("MistCantonModel", 58, 37900956), ("MistCantonModel", 60, 488058286), ("MistCantonModel", 62, 19741), ("MistCantonModel", 64, 1891), ("MistCantonModel", 66, 573), ("MistCantonModel", 68, 20763), ("MistCantonModel", 70, 1172060), ("MistCantonModel", 72, 18002), ("MistCantonModel", 74, 43523993), ("MistCantonModel", 136, 37), ("MistCantonModel", 145, 10), ("MistCantonModel", 147, 48), ("MistCantonModel", 369, 1000000), ("MistCantonModel", 379, 1103515245), ("MistCantonModel", 381, 12345), ("MistCantonModel", 383, 2147483648), ("MistCantonModel", 385, 65536), ("MistCantonLaw", 19, 4294967295)]
set_option maxRecDepth 100000 in
theorem am_cl_eq : lw_tbl.filterMap am_isCL = am_cl := by decide +kernel
def am_ci : List (String × Nat × Int32) := [("java/lang/StringUTF16", 227, 65536), ("java/lang/Character", 110, 55232), ("java/lang/Character", 76, 56320), ("java/lang/Integer", 265, 1431655765), ("java/lang/Integer", 266, 858993459), ("java/lang/Integer", 267, 252645135)]
set_option maxRecDepth 100000 in
theorem am_ci_eq : lw_tbl.filterMap am_isCI = am_ci := by decide +kernel
/-- nest links: (own, index, method); the host is MistCanton -/
def am_nl : List (String × Nat × Nat) := [("MistCanton$Tape", 78, 60), ("MistCanton$CantonReader", 159, 65), ("MistCanton$Canton", 61, 65), ("MistCanton$State", 34, 65)]
def am_mlq : List (String × Nat × MethodName) := lw_tbl.filterMap am_isML
set_option maxRecDepth 100000 in
set_option maxHeartbeats 4000000 in
theorem am_ml_eq : (am_ml.zip am_mlq).all (fun q => decide (q.1.1 = q.2.1) && (decide (q.1.2.1 = q.2.2.1) && (decide (am_y q.1.2.2 = q.2.2.2) || decide (q.1.2.2 = 999)))) = true ∧ am_ml.length = am_mlq.length := by decide +kernel
/-- constructors (number, parameters) -/
def am_ils : List (Nat × Nat) := [(0, 0), (2, 0), (3, 1), (4, 1), (5, 1), (6, 0), (7, 0), (8, 0), (9, 0), (10, 0), (11, 0), (179, 0)]
def am_isCk : Cond → Option (String × Nat × String)
  | .classLink a i b => some (a, i, b)
  | _ => none
def am_ck : List (String × Nat × String) := [("MistCantonLaw", 8, "MistCanton"), ("MistCanton", 7, "MistCanton$Tape"), ("MistCanton", 16, "MistCanton$CantonReader"), ("MistCanton$CantonReader", 15, "MistCanton$LawReader"), ("MistCanton", 25, "MistCanton$WeekReader"), ("MistCanton", 32, "MistCanton$Canton"), ("MistCanton$Canton", 34, "MistCanton$Law"), ("MistCanton", 42, "MistCanton$Week"), ("MistCanton", 52, "MistCanton$State"), ("MistCanton", 66, "MistCanton$History"), ("MistCanton$History", 9, "MistCanton$State"), ("MistCanton", 73, "MistCanton$Mark"), ("MistCanton$Mark", 7, "MistCanton$State"), ("MistCantonLaw", 13, "java/util/NoSuchElementException"), ("MistCanton", 312, "java/util/NoSuchElementException"), ("MistCantonLaw", 16, "MistCantonModel")]
set_option maxRecDepth 100000 in
theorem am_ck_eq : lw_tbl.filterMap am_isCk = am_ck := by decide +kernel
def am_isIa : Cond → Option (String × Nat)
  | .instantiable a i => some (a, i)
  | _ => none
/-- methods called on an object (number, parameters, class), and static ones (number, parameters) -/
def am_vls : List (Nat × Nat × Nat) := [(12, 3, 10), (13, 1, 7), (14, 0, 10), (15, 1, 1), (16, 0, 0), (17, 0, 7), (18, 0, 7), (19, 0, 7), (20, 0, 7), (43, 1, 1), (44, 1, 7), (51, 1, 1), (52, 1, 7), (53, 1, 1), (54, 0, 7), (55, 1, 0), (56, 1, 0), (57, 0, 1), (58, 1, 7), (59, 2, 7), (61, 1, 7), (62, 1, 7), (63, 1, 1), (64, 1, 1), (66, 1, 1), (67, 1, 1), (68, 1, 0), (70, 1, 4), (71, 2, 4), (72, 2, 4), (73, 2, 4), (74, 2, 4), (75, 2, 4), (76, 0, 4), (77, 1, 3), (78, 0, 10), (79, 1, 6), (80, 0, 10), (81, 2, 9), (82, 2, 9), (83, 0, 9), (84, 2, 9), (85, 1, 9), (86, 2, 10), (87, 1, 10), (88, 3, 0), (89, 2, 0), (91, 1, 0), (92, 2, 10), (93, 1, 10), (94, 1, 10), (95, 0, 6), (96, 0, 6), (97, 0, 10), (98, 1, 2), (99, 1, 6), (100, 2, 0), (101, 2, 0), (102, 2, 0), (104, 3, 0), (105, 4, 3), (108, 1, 6), (109, 2, 10), (110, 1, 10), (111, 1, 6), (112, 0, 10), (113, 1, 2), (114, 2, 10), (115, 3, 5), (116, 1, 10), (117, 1, 10), (118, 0, 10), (119, 2, 10), (120, 2, 10), (121, 1, 10), (122, 2, 10), (123, 2, 10), (124, 1, 10), (125, 2, 10), (126, 1, 10), (127, 0, 6), (128, 0, 10), (129, 1, 10), (130, 0, 10), (131, 1, 10), (132, 0, 10), (133, 1, 6), (134, 3, 10), (135, 3, 10), (137, 3, 10), (138, 1, 10), (141, 1, 10), (142, 1, 10), (143, 2, 10), (144, 2, 10), (145, 3, 10), (147, 1, 10), (148, 3, 10), (149, 2, 0), (150, 0, 10), (151, 0, 10), (152, 0, 10), (153, 1, 10), (154, 0, 10), (155, 0, 10), (156, 0, 10), (157, 0, 10), (158, 0, 10), (159, 1, 10), (160, 2, 10), (161, 1, 10), (162, 0, 10), (163, 0, 10), (164, 1, 10), (165, 2, 10), (166, 0, 10), (167, 1, 0), (168, 4, 10), (177, 3, 11), (178, 1, 11), (180, 1, 11), (181, 0, 11), (182, 0, 11), (183, 0, 11), (184, 2, 11), (185, 1, 11), (186, 0, 11), (187, 2, 11), (188, 0, 11), (189, 0, 11), (194, 0, 11), (195, 1, 11), (196, 3, 11), (197, 1, 11), (198, 0, 11), (199, 2, 11), (200, 1, 11), (201, 2, 11), (202, 3, 11), (203, 1, 11), (204, 1, 11), (205, 2, 11), (206, 3, 11), (208, 0, 11), (209, 0, 11), (210, 1, 11), (211, 1, 11), (212, 1, 11), (213, 1, 11), (214, 1, 11), (215, 1, 11), (216, 2, 11), (217, 1, 11), (218, 1, 11), (219, 0, 11), (220, 2, 11), (221, 1, 11), (222, 1, 11), (223, 2, 11), (224, 1, 11), (226, 2, 11), (227, 1, 11), (228, 1, 11), (229, 2, 11), (230, 0, 11), (231, 0, 11), (232, 3, 11), (233, 1, 11), (234, 2, 11), (236, 1, 11), (238, 4, 11), (239, 2, 11), (240, 1, 11), (241, 2, 11), (242, 0, 11), (243, 1, 11), (244, 1, 11), (245, 2, 11), (246, 2, 11), (247, 0, 11), (248, 2, 11), (249, 1, 11), (250, 2, 11), (251, 2, 11), (252, 1, 11), (253, 1, 11), (254, 0, 11), (255, 1, 11), (256, 0, 11), (257, 1, 11), (258, 1, 11), (259, 0, 11), (260, 0, 11), (261, 1, 11), (262, 1, 11), (263, 2, 11), (264, 2, 11), (266, 3, 11), (267, 0, 11), (268, 0, 11), (269, 3, 11), (270, 0, 11), (271, 0, 11), (272, 0, 11), (273, 1, 11), (274, 0, 11), (275, 1, 11), (276, 0, 11), (277, 0, 11), (278, 0, 11), (279, 2, 11), (280, 2, 11), (281, 0, 11), (282, 0, 11), (283, 0, 11), (284, 2, 11), (285, 3, 11), (286, 4, 11), (288, 3, 11), (289, 0, 11), (290, 1, 11), (291, 2, 11), (292, 1, 11)]
/-- String constants: where they stand; how long; their bytes -/
def am_stt : List (String × Nat × String) := [("MistCanton$Tape", 42, "()<=+-*;"), ("MistCanton$CantonReader", 45, "person"), ("MistCanton$Tape", 64, "person lot event on needs comes snow goes day ask plain widow thief gaoler not and or "), ("MistCanton$CantonReader", 133, "plain"), ("MistCanton$CantonReader", 135, "widow"), ("MistCanton$CantonReader", 137, "thief"), ("MistCanton$CantonReader", 139, "gaoler"), ("MistCanton$CantonReader", 114, "lot"), ("MistCanton$CantonReader", 54, "event"), ("MistCanton$CantonReader", 147, "on"), ("MistCanton$CantonReader", 152, "needs"), ("MistCanton$CantonReader", 59, "comes"), ("MistCanton$CantonReader", 64, "snow"), ("MistCanton$CantonReader", 69, "goes"), ("MistCanton$LawReader", 84, "off"), ("MistCanton$LawReader", 86, "week"), ("MistCanton$LawReader", 88, "met"), ("MistCanton$LawReader", 90, "white"), ("MistCanton$LawReader", 79, "not"), ("MistCanton$LawReader", 45, "and"), ("MistCanton$LawReader", 53, "or"), ("MistCanton$WeekReader", 68, "day"), ("MistCanton$WeekReader", 74, "lot"), ("MistCanton$WeekReader", 76, "ask"), ("MistCanton", 314, "a stake is 0 to 9"), ("MistCanton", 323, "no such rest")]
def am_sln : List Nat := [8, 6, 86, 5, 5, 5, 6, 3, 5, 2, 5, 5, 4, 4, 3, 4, 3, 5, 3, 3, 2, 3, 3, 3, 17, 12]
def am_sby : List (List Int32) := [[40, 41, 60, 61, 43, 45, 42, 59], [112, 101, 114, 115, 111, 110], [112, 101, 114, 115, 111, 110, 32, 108, 111, 116, 32, 101, 118, 101, 110, 116, 32, 111, 110, 32, 110, 101, 101, 100, 115, 32, 99, 111, 109, 101, 115, 32, 115, 110, 111, 119, 32, 103, 111, 101, 115, 32, 100, 97, 121, 32, 97, 115, 107, 32, 112, 108, 97, 105, 110, 32, 119, 105, 100, 111, 119, 32, 116, 104, 105, 101, 102, 32, 103, 97, 111, 108, 101, 114, 32, 110, 111, 116, 32, 97, 110, 100, 32, 111, 114, 32], [112, 108, 97, 105, 110], [119, 105, 100, 111, 119], [116, 104, 105, 101, 102], [103, 97, 111, 108, 101, 114], [108, 111, 116], [101, 118, 101, 110, 116], [111, 110], [110, 101, 101, 100, 115], [99, 111, 109, 101, 115], [115, 110, 111, 119], [103, 111, 101, 115], [111, 102, 102], [119, 101, 101, 107], [109, 101, 116], [119, 104, 105, 116, 101], [110, 111, 116], [97, 110, 100], [111, 114], [100, 97, 121], [108, 111, 116], [97, 115, 107], [97, 32, 115, 116, 97, 107, 101, 32, 105, 115, 32, 48, 32, 116, 111, 32, 57], [110, 111, 32, 115, 117, 99, 104, 32, 114, 101, 115, 116]]
def am_svl : List (Nat × Nat) := [(21, 1), (22, 2), (23, 0), (24, 0), (25, 0), (45, 1)]
def am_sls : List (Nat × Nat) := [(26, 4), (27, 1), (28, 2), (29, 2), (30, 4), (31, 4), (32, 4), (33, 3), (34, 1), (35, 3), (36, 4), (37, 4), (38, 2), (39, 4), (40, 1), (41, 1), (42, 1), (46, 2), (47, 2), (48, 3), (49, 2), (50, 2), (60, 3), (65, 2), (69, 1), (90, 2), (103, 3), (106, 5), (107, 3), (136, 3), (139, 1), (140, 2), (146, 1), (174, 5), (175, 5), (176, 5), (190, 1), (191, 1), (192, 1), (193, 1), (207, 3), (225, 3), (235, 1), (237, 3), (265, 2), (287, 5)]
end
section
/-! THE ABSTRACT MACHINE: one heap of ints, longs, references by object number and place (and the script's length); the rules of one instruction as a predicate; wp as the least predicate that is closed under them -/
abbrev am_V : Type := List (Nat × Value)
/-- ints, longs, references; the script's length; how many objects there are -/
abbrev am_H : Type := (Nat → Nat → Int32) × (Nat → Nat → Int64) × (Nat → Nat → Option Nat) × Nat × Nat
abbrev am_R : Type := Instr × Nat × Nat × Nat × Nat × Nat
abbrev am_Q : Type := Option Value → am_H → Prop
abbrev am_P : Type := Nat → List Value → am_H → am_Q → Prop
def am_wI (h : am_H) (o k : Nat) (v : Int32) : am_H := (fun a b => if a = o ∧ b = k then v else h.1 a b, h.2.1, h.2.2.1, h.2.2.2)
def am_wL (h : am_H) (o k : Nat) (v : Int64) : am_H := (h.1, fun a b => if a = o ∧ b = k then v else h.2.1 a b, h.2.2.1, h.2.2.2)
def am_wR (h : am_H) (o k : Nat) (v : Option Nat) : am_H := (h.1, h.2.1, fun a b => if a = o ∧ b = k then v else h.2.2.1 a b, h.2.2.2)
def am_lk : am_V → Nat → Option Value
  | [], _ => none
  | q :: r, i => bif Nat.beq q.1 i then some q.2 else am_lk r i
def am_s1 (lv : am_V) (i : Nat) (v : Value) : am_V := (i, v) :: lv.filter (fun q => !(q.1 == i) && !(q.1 + 1 == i && q.2.category == 2))
def am_s2 (lv : am_V) (i : Nat) (v : Value) : am_V := (i, v) :: lv.filter (fun q => !(q.1 == i) && (!(q.1 == i + 1) && !(q.1 + 1 == i && q.2.category == 2)))
def am_rf (r : Option Nat) : Value := match r with
  | some a => .ref a
  | none => .null
def am_pI (st : List Value) (k : Int32 → List Value → Prop) : Prop := match st with
  | .int x :: r => k x r
  | _ => False
def am_pL (st : List Value) (k : Int64 → List Value → Prop) : Prop := match st with
  | .long x :: r => k x r
  | _ => False
def am_pR (st : List Value) (k : Nat → List Value → Prop) : Prop := match st with
  | .ref x :: r => k x r
  | _ => False
def am_pV (st : List Value) (k : Value → List Value → Prop) : Prop := match st with
  | v :: r => k v r
  | [] => False
def am_li (lv : am_V) (i : Nat) (k : Int32 → Prop) : Prop := match am_lk lv i with
  | some (.int x) => k x
  | _ => False
def am_ll (lv : am_V) (i : Nat) (k : Int64 → Prop) : Prop := match am_lk lv i with
  | some (.long x) => k x
  | _ => False
def am_la (lv : am_V) (i : Nat) (k : Nat → Prop) : Prop := match am_lk lv i with
  | some (.ref x) => k x
  | _ => False
def am_pop : Nat → List Value → List Value → Option (List Value × List Value)
  | 0, acc, st => some (acc, st)
  | n + 1, acc, v :: st => am_pop n (v :: acc) st
  | _ + 1, _, [] => none
def am_c (c : Jvm.ClassFile.Cond) (x y : Int32) : Prop := match c with
  | .eq => x = y
  | .ne => ¬ x = y
  | .lt => x < y
  | .ge => y ≤ x
  | .gt => y < x
  | .le => x ≤ y
def am_gv (h : am_H) (ci k o : Nat) : Value := match am_kd ci k with
  | 0 => .int (h.1 o k)
  | 1 => .long (h.2.1 o k)
  | _ => am_rf (h.2.2.1 o k)
def am_fty (ci k : Nat) : FieldType := match vwCl[ci]? with
  | some q => (parseFieldDescriptor (q.2.1 k).2.2.1).getD .int
  | none => .int
def am_kl (c : Nat) : Int64 := match am_cl[c]? with
  | some q => q.2.2
  | none => 0
def am_ki (c : Nat) : Int32 := match am_ci[c]? with
  | some q => q.2.2
  | none => 0
/-- the shape of each object: (number of its class, 0), or (12 chars, 13 ints, 14 longs, 15 booleans, 16 Marks, 17 States, the length) -/
def am_st1 : List (Nat × Nat) := [(6, 0), (13, 6), (13, 6), (13, 5), (13, 5)]
def am_ca1 : List (Nat × Nat) := [(0, 0), (14, 6), (13, 6), (13, 6), (14, 5), (13, 5), (13, 5), (13, 5), (3, 0), (13, 1000), (13, 32)]
def am_we1 : List (Nat × Nat) := [(8, 0), (13, 40), (13, 40), (13, 40)]
def am_shl : List (Nat × Nat) := [(10, 0), (7, 0), (12, 1000), (1, 0), (4, 0), (9, 0)] ++ (am_ca1 ++ (am_ca1 ++ (am_we1 ++ (am_we1 ++ (am_st1 ++ (am_st1 ++ ([(13, 6), (2, 0), (17, 16)] ++ (
  am_st1 ++ (am_st1 ++ (am_st1 ++ (am_st1 ++ (am_st1 ++ (am_st1 ++ (am_st1 ++ (am_st1 ++ (am_st1 ++ (am_st1 ++ (am_st1 ++ (am_st1 ++ (am_st1 ++ (am_st1 ++ (am_st1 ++ (am_st1 ++ (
  [(16, 4)] ++ ((5, 0) :: (am_st1 ++ ((5, 0) :: (am_st1 ++ ((5, 0) :: (am_st1 ++ ((5, 0) :: (am_st1 ++
  [(11, 0), (13, 1000), (13, 1002), (13, 1002), (14, 1002), (14, 21), (13, 80), (13, 2200), (13, 2200), (14, 11), (14, 11), (13, 11), (13, 11), (13, 250), (13, 4), (13, 1100), (13, 1127), (15, 4), (13, 5), (13, 6), (14, 1)]
  ))))))))))))))))))))))))))))))))
def am_so (h : am_H) (o : Nat) : Option (Nat × Nat) := bif Nat.blt o h.2.2.2.2 then am_shl[o]? else none
def am_sh (h : am_H) (o : Nat) : Option (Nat × Nat) := bif Nat.beq o 3000000 then some (13, h.2.2.2.1) else am_so h o
/-- a receiver: one of the objects, or a String constant -/
def am_rc (h : am_H) (o d : Nat) : Prop := (¬ d = 20 ∧ am_sh h o = some (d, 0)) ∨ (d = 20 ∧ ∃ q : Nat, q < 26 ∧ o = 4000000 + q)
/-- the next object, all 0 and null -/
def am_nx (h : am_H) : am_H := (fun a b => if a = h.2.2.2.2 then 0 else h.1 a b, fun a b => if a = h.2.2.2.2 then 0 else h.2.1 a b, fun a b => if a = h.2.2.2.2 then none else h.2.2.1 a b, h.2.2.2.1, h.2.2.2.2 + 1)
/-- how many objects a constructor makes -/
def am_al (n : Nat) : Nat := ([153, 0, 1, 1, 0, 0, 10, 2, 3, 4, 81, 5] : List Nat).getD n (bif Nat.beq n 179 then 19 else 0)
def am_stp (cp : am_P) (nL lim : Nat) (rt : Option FieldType) (pc : Nat) (r : am_R) (lv : am_V) (st : List Value) (h : am_H) (K : Nat → am_V → List Value → am_H → Prop) (Q : am_Q) : Prop :=
  match r with
  | (i, nx, a, b, c, d) => match i with
    | .iconst n => K nx lv (.int (Int32.ofInt n) :: st) h
    | .bipush n => K nx lv (.int (Int8.ofInt n).toInt32 :: st) h
    | .sipush n => K nx lv (.int (Int16.ofInt n).toInt32 :: st) h
    | .lconst n => K nx lv (.long (Int64.ofNat n) :: st) h
    | .ldc2_w _ => K nx lv (.long (am_kl c) :: st) h
    | .ldc_w _ => bif Nat.beq b 1 then K nx lv (.ref (4000000 + c) :: st) h else K nx lv (.int (am_ki c) :: st) h
    | .ldc _ => bif Nat.beq b 1 then K nx lv (.ref (4000000 + c) :: st) h else K nx lv (.int (am_ki c) :: st) h
    | .getstatic _ => bif Nat.beq b 1 then K nx lv (.ref 6000000 :: st) h else K nx lv (.int 1 :: st) h
    | .i2b => am_pI st fun x r => K nx lv (.int x.toInt8.toInt32 :: r) h
    | .iload_n k => am_li lv k.val fun x => K nx lv (.int x :: st) h
    | .iload k => am_li lv k fun x => K nx lv (.int x :: st) h
    | .lload_n k => am_ll lv k.val fun x => K nx lv (.long x :: st) h
    | .lload k => am_ll lv k fun x => K nx lv (.long x :: st) h
    | .aload_n k => am_la lv k.val fun x => K nx lv (.ref x :: st) h
    | .aload k => am_la lv k fun x => K nx lv (.ref x :: st) h
    | .istore_n k => am_pI st fun x r => k.val < nL ∧ K nx (am_s1 lv k.val (.int x)) r h
    | .istore k => am_pI st fun x r => k < nL ∧ K nx (am_s1 lv k (.int x)) r h
    | .lstore_n k => am_pL st fun x r => k.val + 1 < nL ∧ K nx (am_s2 lv k.val (.long x)) r h
    | .lstore k => am_pL st fun x r => k + 1 < nL ∧ K nx (am_s2 lv k (.long x)) r h
    | .astore_n k => am_pR st fun x r => k.val < nL ∧ K nx (am_s1 lv k.val (.ref x)) r h
    | .astore k => am_pR st fun x r => k < nL ∧ K nx (am_s1 lv k (.ref x)) r h
    | .iinc k n => am_li lv k fun x => k < nL ∧ K nx (am_s1 lv k (.int (x + Int32.ofInt n))) st h
    | .iadd => am_pI st fun y r => am_pI r fun x r => K nx lv (.int (x + y) :: r) h
    | .isub => am_pI st fun y r => am_pI r fun x r => K nx lv (.int (x - y) :: r) h
    | .imul => am_pI st fun y r => am_pI r fun x r => K nx lv (.int (x * y) :: r) h
    | .iand => am_pI st fun y r => am_pI r fun x r => K nx lv (.int (x &&& y) :: r) h
    | .ior => am_pI st fun y r => am_pI r fun x r => K nx lv (.int (x ||| y) :: r) h
    | .ixor => am_pI st fun y r => am_pI r fun x r => K nx lv (.int (x ^^^ y) :: r) h
    | .idiv => am_pI st fun y r => am_pI r fun x r => ¬ y = 0 ∧ K nx lv (.int (x / y) :: r) h
    | .irem => am_pI st fun y r => am_pI r fun x r => ¬ y = 0 ∧ K nx lv (.int (x - x / y * y) :: r) h
    | .ineg => am_pI st fun x r => K nx lv (.int (-x) :: r) h
    | .ishl => am_pI st fun y r => am_pI r fun x r => K nx lv (.int (x <<< (y &&& 31)) :: r) h
    | .ishr => am_pI st fun y r => am_pI r fun x r => K nx lv (.int (x >>> (y &&& 31)) :: r) h
    | .iushr => am_pI st fun y r => am_pI r fun x r => K nx lv (.int (x.toUInt32 >>> (y.toUInt32 &&& Int32.toUInt32 31)).toInt32 :: r) h
    | .ladd => am_pL st fun y r => am_pL r fun x r => K nx lv (.long (x + y) :: r) h
    | .lsub => am_pL st fun y r => am_pL r fun x r => K nx lv (.long (x - y) :: r) h
    | .lmul => am_pL st fun y r => am_pL r fun x r => K nx lv (.long (x * y) :: r) h
    | .land => am_pL st fun y r => am_pL r fun x r => K nx lv (.long (x &&& y) :: r) h
    | .lor => am_pL st fun y r => am_pL r fun x r => K nx lv (.long (x ||| y) :: r) h
    | .ldiv => am_pL st fun y r => am_pL r fun x r => ¬ y = 0 ∧ K nx lv (.long (x / y) :: r) h
    | .lrem => am_pL st fun y r => am_pL r fun x r => ¬ y = 0 ∧ K nx lv (.long (x - x / y * y) :: r) h
    | .lshl => am_pI st fun y r => am_pL r fun x r => K nx lv (.long (x <<< (y.toInt64 &&& 63)) :: r) h
    | .lshr => am_pI st fun y r => am_pL r fun x r => K nx lv (.long (x >>> (y.toInt64 &&& 63)) :: r) h
    | .lushr => am_pI st fun y r => am_pL r fun x r => K nx lv (.long (x.toUInt64 >>> (y.toInt64.toUInt64 &&& Int64.toUInt64 63)).toInt64 :: r) h
    | .lcmp => am_pL st fun y r => am_pL r fun x r => K nx lv (.int (lg_cmp x y) :: r) h
    | .i2l => am_pI st fun x r => K nx lv (.long x.toInt64 :: r) h
    | .l2i => am_pL st fun x r => K nx lv (.int x.toInt32 :: r) h
    | .i2c => am_pI st fun x r => K nx lv (.int (x.toUInt32 % 65536).toInt32 :: r) h
    | .dup => am_pV st fun v r => v.category = 1 ∧ K nx lv (v :: v :: r) h
    | .dup2 => am_pV st fun v r => am_pV r fun w r => v.category = 1 ∧ w.category = 1 ∧ K nx lv (v :: w :: v :: w :: r) h
    | .pop => am_pV st fun v r => v.category = 1 ∧ K nx lv r h
    | .goto _ => K a lv st h
    | .if_icmp q _ => am_pI st fun y r => am_pI r fun x r => (am_c q x y → K a lv r h) ∧ (¬ am_c q x y → K nx lv r h)
    | .ifCond q _ => am_pI st fun x r => (am_c q x 0 → K a lv r h) ∧ (¬ am_c q x 0 → K nx lv r h)
    | .tableswitch df lo hi os => am_pI st fun x r => ((x.toInt < lo ∨ hi < x.toInt) → K ((pc : Int) + df).toNat lv r h) ∧ (∀ j : Nat, x.toInt = lo + j → lo + j ≤ hi → K ((pc : Int) + (os[j]?).getD 0).toNat lv r h)
    | .lookupswitch df ps => am_pI st fun x r => K ((pc : Int) + Op.lookupswitch.offset ps.toList df x.toInt).toNat lv r h
    | .getfield _ => bif Nat.beq b 20 then am_pR st fun o r => ∃ q : Nat, q < 26 ∧ o = 4000000 + q ∧ K nx lv ((bif Nat.beq a 0 then .ref (5000000 + q) else .int 0) :: r) h else am_pR st fun o r => am_sh h o = some (b, 0) ∧ K nx lv (am_gv h b a o :: r) h
    | .putfield _ => match am_kd b a with
      | 0 => am_pI st fun x r => am_pR r fun o r => am_sh h o = some (b, 0) ∧ narrow (am_fty b a) (.int x) = .int x ∧ fits (am_fty b a) (.int x) = true ∧ K nx lv r (am_wI h o a x)
      | 1 => am_pL st fun x r => am_pR r fun o r => am_sh h o = some (b, 0) ∧ K nx lv r (am_wL h o a x)
      | _ => am_pR st fun x r => am_pR r fun o r => am_sh h o = some (b, 0) ∧ K nx lv r (am_wR h o a (some x))
    | .iaload => am_pI st fun i r => am_pR r fun o r => ∃ j n : Nat, am_sh h o = some (13, n) ∧ j < n ∧ i = nI j ∧ K nx lv (.int (h.1 o j) :: r) h
    | .caload => am_pI st fun i r => am_pR r fun o r => ∃ j n : Nat, am_sh h o = some (12, n) ∧ j < n ∧ i = nI j ∧ K nx lv (.int (h.1 o j) :: r) h
    | .baload => am_pI st fun i r => am_pR r fun o r => (∃ j n : Nat, am_sh h o = some (15, n) ∧ j < n ∧ i = nI j ∧ K nx lv (.int (h.1 o j) :: r) h) ∨ (∃ q j : Nat, q < 26 ∧ o = 5000000 + q ∧ j < am_sln.getD q 0 ∧ i = nI j ∧ K nx lv (.int ((am_sby.getD q []).getD j 0) :: r) h)
    | .laload => am_pI st fun i r => am_pR r fun o r => ∃ j n : Nat, am_sh h o = some (14, n) ∧ j < n ∧ i = nI j ∧ K nx lv (.long (h.2.1 o j) :: r) h
    | .aaload => am_pI st fun i r => am_pR r fun o r => ∃ j n : Nat, (am_sh h o = some (16, n) ∨ am_sh h o = some (17, n)) ∧ j < n ∧ i = nI j ∧ K nx lv (am_rf (h.2.2.1 o j) :: r) h
    | .iastore => am_pI st fun x r => am_pI r fun i r => am_pR r fun o r => ∃ j n : Nat, am_so h o = some (13, n) ∧ j < n ∧ i = nI j ∧ K nx lv r (am_wI h o j x)
    | .castore => am_pI st fun x r => am_pI r fun i r => am_pR r fun o r => ∃ j n : Nat, am_so h o = some (12, n) ∧ j < n ∧ i = nI j ∧ K nx lv r (am_wI h o j (vp_nar .char x))
    | .bastore => am_pI st fun x r => am_pI r fun i r => am_pR r fun o r => ∃ j n : Nat, am_so h o = some (15, n) ∧ j < n ∧ i = nI j ∧ K nx lv r (am_wI h o j (vp_nar .boolean x))
    | .lastore => am_pL st fun x r => am_pI r fun i r => am_pR r fun o r => ∃ j n : Nat, am_so h o = some (14, n) ∧ j < n ∧ i = nI j ∧ K nx lv r (am_wL h o j x)
    | .aastore => am_pR st fun x r => am_pI r fun i r => am_pR r fun o r => ∃ j n : Nat, ((am_so h o = some (16, n) ∧ am_so h x = some (5, 0)) ∨ (am_so h o = some (17, n) ∧ am_so h x = some (6, 0))) ∧ j < n ∧ i = nI j ∧ K nx lv r (am_wR h o j (some x))
    | .new _ => am_shl[h.2.2.2.2]? = some (b, 0) ∧ h.2.2.2.2 + 1 ≤ lim ∧ K nx lv (.ref h.2.2.2.2 :: st) (am_nx h)
    | .newarray _ => am_pI st fun i r => ∃ n : Nat, am_shl[h.2.2.2.2]? = some (b, n) ∧ i = nI n ∧ h.2.2.2.2 + 1 ≤ lim ∧ K nx lv (.ref h.2.2.2.2 :: r) (am_nx h)
    | .anewarray _ => am_pI st fun i r => ∃ n : Nat, am_shl[h.2.2.2.2]? = some (b, n) ∧ i = nI n ∧ h.2.2.2.2 + 1 ≤ lim ∧ K nx lv (.ref h.2.2.2.2 :: r) (am_nx h)
    | .arraylength => am_pR st fun o r => (∃ t n : Nat, am_sh h o = some (t, n) ∧ 12 ≤ t ∧ K nx lv (.int (nI n) :: r) h) ∨ (∃ q : Nat, q < 26 ∧ o = 5000000 + q ∧ K nx lv (.int (nI (am_sln.getD q 0)) :: r) h)
    | .invokevirtual _ => match am_pop b [] st with
      | some (As, .ref o :: r) => am_rc h o d ∧ (r.map fun v => v.category).sum ≤ 8 ∧ h.2.2.2.2 + am_al a ≤ lim ∧ cp a (.ref o :: As) h (fun v h' => K nx lv (v.toList ++ r) h')
      | _ => False
    | .invokespecial _ => match am_pop b [] st with
      | some (As, .ref o :: r) => (r.map fun v => v.category).sum ≤ 8 ∧ (bif Nat.beq a 1 then As = [] ∧ K nx lv r h else h.2.2.2.2 + am_al a ≤ lim ∧ cp a (.ref o :: As) h (fun v h' => K nx lv (v.toList ++ r) h'))
      | _ => False
    | .invokestatic _ => match am_pop b [] st with
      | some (As, r) => (r.map fun v => v.category).sum ≤ 8 ∧ h.2.2.2.2 + am_al a ≤ lim ∧ cp a As h (fun v h' => K nx lv (v.toList ++ r) h')
      | _ => False
    | .ireturn => match st with
      | [.int x] => (∃ ty, rt = some ty ∧ narrow ty (.int x) = .int x) ∧ Q (some (.int x)) h
      | _ => False
    | .lreturn => match st with
      | [.long x] => rt = some .long ∧ Q (some (.long x)) h
      | _ => False
    | .return_ => match st with
      | [] => rt = none ∧ Q none h
      | _ => False
    | _ => False
/-- wp: least predicate closed under the rules, weakening built in; E: exits -/
def am_X (cp : am_P) (nL lim : Nat) (rt : Option FieldType) (cod : Nat → Option am_R) (E : Nat → am_V → List Value → am_H → Prop) (Q : am_Q) (pc : Nat) (lv : am_V) (st : List Value) (h : am_H) : Prop :=
  ∀ P : Nat → am_V → List Value → am_H → Prop, (∀ pc lv st h, E pc lv st h → P pc lv st h) → (∀ pc lv st h r K0 Q0, cod pc = some r → am_stp cp nL lim rt pc r lv st h K0 Q0 → (∀ pc lv st h, K0 pc lv st h → P pc lv st h) → (∀ v h, Q0 v h → Q v h) → P pc lv st h) → P pc lv st h
def am_W (cp : am_P) (nL lim : Nat) (rt : Option FieldType) (cod : Nat → Option am_R) (Q : am_Q) (pc : Nat) (lv : am_V) (st : List Value) (h : am_H) : Prop := am_X cp nL lim rt cod (fun _ _ _ _ => False) Q pc lv st h
theorem am_xstep {cp : am_P} {nL lim : Nat} {rt : Option FieldType} {cod : Nat → Option am_R} {E : Nat → am_V → List Value → am_H → Prop} {Q : am_Q} {pc : Nat} {lv : am_V} {st : List Value} {h : am_H} {r : am_R} (hc : cod pc = some r) (hs : am_stp cp nL lim rt pc r lv st h (am_X cp nL lim rt cod E Q) Q) : am_X cp nL lim rt cod E Q pc lv st h :=
  fun P hE hP => hP _ _ _ _ r _ Q hc hs (fun _ _ _ _ k => k P hE hP) (fun _ _ q => q)
theorem am_xexit {cp : am_P} {nL lim : Nat} {rt : Option FieldType} {cod : Nat → Option am_R} {E : Nat → am_V → List Value → am_H → Prop} {Q : am_Q} {pc : Nat} {lv : am_V} {st : List Value} {h : am_H} (he : E pc lv st h) : am_X cp nL lim rt cod E Q pc lv st h :=
  fun _ hE _ => hE _ _ _ _ he
theorem am_step {cp : am_P} {nL lim : Nat} {rt : Option FieldType} {cod : Nat → Option am_R} {Q : am_Q} {pc : Nat} {lv : am_V} {st : List Value} {h : am_H} {r : am_R} (hc : cod pc = some r) (hs : am_stp cp nL lim rt pc r lv st h (am_W cp nL lim rt cod Q) Q) : am_W cp nL lim rt cod Q pc lv st h := am_xstep hc hs
theorem am_X.mono {cp : am_P} {nL lim : Nat} {rt : Option FieldType} {cod : Nat → Option am_R} {E E' : Nat → am_V → List Value → am_H → Prop} {Q Q' : am_Q} {pc : Nat} {lv : am_V} {st : List Value} {h : am_H} (hE : ∀ pc lv st h, E pc lv st h → am_X cp nL lim rt cod E' Q' pc lv st h) (hQ : ∀ v h, Q v h → Q' v h) (k : am_X cp nL lim rt cod E Q pc lv st h) : am_X cp nL lim rt cod E' Q' pc lv st h :=
  fun P hE' hP => k P (fun pc lv st h he => hE pc lv st h he P hE' hP) fun pc lv st h r K0 Q0 hc hs hk hq => hP pc lv st h r K0 Q0 hc hs hk fun v h x => hQ v h (hq v h x)
theorem am_W.mono {cp : am_P} {nL lim : Nat} {rt : Option FieldType} {cod : Nat → Option am_R} {Q Q' : am_Q} {pc : Nat} {lv : am_V} {st : List Value} {h : am_H} (hQ : ∀ v h, Q v h → Q' v h) (k : am_W cp nL lim rt cod Q pc lv st h) : am_W cp nL lim rt cod Q' pc lv st h :=
  am_X.mono (fun _ _ _ _ q => q.elim) hQ k
/-- the locals at a method's entry -/
def am_nL (n : Nat) : Nat := match am_mi[n]? with
  | some q => q.2.2.1
  | none => 0
def am_rt (n : Nat) : Option FieldType := match am_mi[n]? with
  | some q => q.2.2.2
  | none => none
def am_by (n : Nat) : ByteArray := match am_mi[n]? with
  | some q => q.2.1
  | none => ⟨#[]⟩
/-- calls of depth at most d -/
def am_call (cods : Nat → Nat → Option am_R) : Nat → am_P
  | 0 => fun _ _ _ _ => False
  | d + 1 => fun n args h Q => am_call cods d n args h Q ∨ ((lg_sl args).length ≤ am_nL n ∧ am_W (am_call cods d) (am_nL n) (h.2.2.2.2 + am_al n) (am_rt n) (cods n) (fun v h' => h'.2.2.2.2 = h.2.2.2.2 + am_al n ∧ Q v h') 0 (lv_args 0 args) [] h)
theorem am_call.up {cods : Nat → Nat → Option am_R} {d e n : Nat} {args : List Value} {h : am_H} {Q : am_Q} (k : am_call cods d n args h Q) (hd : d ≤ e) : am_call cods e n args h Q := by
  induction hd with
  | refl => exact k
  | step _ ih => exact Or.inl ih
theorem am_call.mono {cods : Nat → Nat → Option am_R} {d n : Nat} {args : List Value} {h : am_H} {Q Q' : am_Q} (hQ : ∀ v h, Q v h → Q' v h) (k : am_call cods d n args h Q) : am_call cods d n args h Q' := by
  induction d with
  | zero => exact k
  | succ d ih => exact k.elim (fun k => Or.inl (ih k)) (fun k => Or.inr ⟨k.1, k.2.mono (fun v h q => ⟨q.1, hQ v h q.2⟩)⟩)
end
