section
-- ===== PART A: goes FIRST, ahead of the names: the tables' words, and 'selects' of the private methods out of them =====
/-- a private method of a class that the tables say can be made, by its rows of tables_1 -/
def lw_okq (q : MethodName × Nat) : Prop := (q.1.cls ≠ "java/lang/invoke/MethodHandle" ∧ q.1.cls ≠ "java/lang/invoke/VarHandle") ∧ Cond.instantiable q.1.cls q.2 ∈ tables_1 ∧ Cond.privateMethod q.1 ∈ tables_1 ∧ Cond.instanceMethod q.1 ∈ tables_1
theorem lw_p0 : lw_okq (⟨"MistCanton$Tape", "stepWord", "()V"⟩, 8) := ⟨⟨by decide +kernel, by decide +kernel⟩, List.mem_of_getElem? (i := 33) (by decide +kernel), List.mem_of_getElem? (i := 374) (by decide +kernel), List.mem_of_getElem? (i := 375) (by decide +kernel)⟩
theorem lw_p1 : lw_okq (⟨"MistCanton$Tape", "stepNumber", "()V"⟩, 8) := ⟨⟨by decide +kernel, by decide +kernel⟩, List.mem_of_getElem? (i := 33) (by decide +kernel), List.mem_of_getElem? (i := 378) (by decide +kernel), List.mem_of_getElem? (i := 379) (by decide +kernel)⟩
theorem lw_p2 : lw_okq (⟨"MistCanton$CantonReader", "readLine", "(LMistCanton$Canton;)Z"⟩, 2) := ⟨⟨by decide +kernel, by decide +kernel⟩, List.mem_of_getElem? (i := 76) (by decide +kernel), List.mem_of_getElem? (i := 469) (by decide +kernel), List.mem_of_getElem? (i := 470) (by decide +kernel)⟩
theorem lw_p3 : lw_okq (⟨"MistCanton$CantonReader", "readPerson", "(LMistCanton$Canton;)Z"⟩, 2) := ⟨⟨by decide +kernel, by decide +kernel⟩, List.mem_of_getElem? (i := 76) (by decide +kernel), List.mem_of_getElem? (i := 499) (by decide +kernel), List.mem_of_getElem? (i := 500) (by decide +kernel)⟩
theorem lw_p4 : lw_okq (⟨"MistCanton$CantonReader", "findFreshName", "(LMistCanton$Canton;)Z"⟩, 2) := ⟨⟨by decide +kernel, by decide +kernel⟩, List.mem_of_getElem? (i := 76) (by decide +kernel), List.mem_of_getElem? (i := 508) (by decide +kernel), List.mem_of_getElem? (i := 509) (by decide +kernel)⟩
theorem lw_p5 : lw_okq (⟨"MistCanton$CantonReader", "kindAtHand", "()I"⟩, 2) := ⟨⟨by decide +kernel, by decide +kernel⟩, List.mem_of_getElem? (i := 76) (by decide +kernel), List.mem_of_getElem? (i := 525) (by decide +kernel), List.mem_of_getElem? (i := 526) (by decide +kernel)⟩
theorem lw_p6 : lw_okq (⟨"MistCanton$CantonReader", "readEvent", "(LMistCanton$Canton;)Z"⟩, 2) := ⟨⟨by decide +kernel, by decide +kernel⟩, List.mem_of_getElem? (i := 76) (by decide +kernel), List.mem_of_getElem? (i := 556) (by decide +kernel), List.mem_of_getElem? (i := 557) (by decide +kernel)⟩
theorem lw_p7 : lw_okq (⟨"MistCanton$CantonReader", "readComes", "(LMistCanton$Canton;)Z"⟩, 2) := ⟨⟨by decide +kernel, by decide +kernel⟩, List.mem_of_getElem? (i := 76) (by decide +kernel), List.mem_of_getElem? (i := 563) (by decide +kernel), List.mem_of_getElem? (i := 564) (by decide +kernel)⟩
theorem lw_p8 : lw_okq (⟨"MistCanton$CantonReader", "readSnow", "(LMistCanton$Canton;)Z"⟩, 2) := ⟨⟨by decide +kernel, by decide +kernel⟩, List.mem_of_getElem? (i := 76) (by decide +kernel), List.mem_of_getElem? (i := 571) (by decide +kernel), List.mem_of_getElem? (i := 572) (by decide +kernel)⟩
theorem lw_p9 : lw_okq (⟨"MistCanton$CantonReader", "readSnowDay", "(LMistCanton$Canton;)Z"⟩, 2) := ⟨⟨by decide +kernel, by decide +kernel⟩, List.mem_of_getElem? (i := 76) (by decide +kernel), List.mem_of_getElem? (i := 575) (by decide +kernel), List.mem_of_getElem? (i := 576) (by decide +kernel)⟩
theorem lw_p10 : lw_okq (⟨"MistCanton$LawReader", "readLaw", "(LMistCanton$Law;I)Z"⟩, 1) := ⟨⟨by decide +kernel, by decide +kernel⟩, List.mem_of_getElem? (i := 82) (by decide +kernel), List.mem_of_getElem? (i := 597) (by decide +kernel), List.mem_of_getElem? (i := 598) (by decide +kernel)⟩
theorem lw_p11 : lw_okq (⟨"MistCanton$LawReader", "readTest", "(LMistCanton$Law;I)Z"⟩, 1) := ⟨⟨by decide +kernel, by decide +kernel⟩, List.mem_of_getElem? (i := 82) (by decide +kernel), List.mem_of_getElem? (i := 601) (by decide +kernel), List.mem_of_getElem? (i := 602) (by decide +kernel)⟩
theorem lw_p12 : lw_okq (⟨"MistCanton$LawReader", "readSum", "(LMistCanton$Law;I)Z"⟩, 1) := ⟨⟨by decide +kernel, by decide +kernel⟩, List.mem_of_getElem? (i := 82) (by decide +kernel), List.mem_of_getElem? (i := 605) (by decide +kernel), List.mem_of_getElem? (i := 606) (by decide +kernel)⟩
theorem lw_p13 : lw_okq (⟨"MistCanton$LawReader", "readProduct", "(LMistCanton$Law;I)Z"⟩, 1) := ⟨⟨by decide +kernel, by decide +kernel⟩, List.mem_of_getElem? (i := 82) (by decide +kernel), List.mem_of_getElem? (i := 609) (by decide +kernel), List.mem_of_getElem? (i := 610) (by decide +kernel)⟩
theorem lw_p14 : lw_okq (⟨"MistCanton$LawReader", "readPart", "(LMistCanton$Law;I)Z"⟩, 1) := ⟨⟨by decide +kernel, by decide +kernel⟩, List.mem_of_getElem? (i := 82) (by decide +kernel), List.mem_of_getElem? (i := 613) (by decide +kernel), List.mem_of_getElem? (i := 614) (by decide +kernel)⟩
theorem lw_p15 : lw_okq (⟨"MistCanton$LawReader", "factAtHand", "()I"⟩, 1) := ⟨⟨by decide +kernel, by decide +kernel⟩, List.mem_of_getElem? (i := 82) (by decide +kernel), List.mem_of_getElem? (i := 617) (by decide +kernel), List.mem_of_getElem? (i := 618) (by decide +kernel)⟩
def lw_privs_1 : List (MethodName × Nat) := [(⟨"MistCanton$Tape", "stepWord", "()V"⟩, 8), (⟨"MistCanton$Tape", "stepNumber", "()V"⟩, 8), (⟨"MistCanton$CantonReader", "readLine", "(LMistCanton$Canton;)Z"⟩, 2), (⟨"MistCanton$CantonReader", "readPerson", "(LMistCanton$Canton;)Z"⟩, 2), (⟨"MistCanton$CantonReader", "findFreshName", "(LMistCanton$Canton;)Z"⟩, 2), (⟨"MistCanton$CantonReader", "kindAtHand", "()I"⟩, 2), (⟨"MistCanton$CantonReader", "readEvent", "(LMistCanton$Canton;)Z"⟩, 2), (⟨"MistCanton$CantonReader", "readComes", "(LMistCanton$Canton;)Z"⟩, 2), (⟨"MistCanton$CantonReader", "readSnow", "(LMistCanton$Canton;)Z"⟩, 2), (⟨"MistCanton$CantonReader", "readSnowDay", "(LMistCanton$Canton;)Z"⟩, 2), (⟨"MistCanton$LawReader", "readLaw", "(LMistCanton$Law;I)Z"⟩, 1), (⟨"MistCanton$LawReader", "readTest", "(LMistCanton$Law;I)Z"⟩, 1), (⟨"MistCanton$LawReader", "readSum", "(LMistCanton$Law;I)Z"⟩, 1), (⟨"MistCanton$LawReader", "readProduct", "(LMistCanton$Law;I)Z"⟩, 1), (⟨"MistCanton$LawReader", "readPart", "(LMistCanton$Law;I)Z"⟩, 1), (⟨"MistCanton$LawReader", "factAtHand", "()I"⟩, 1)]
theorem lw_r1 : ∀ q ∈ lw_privs_1, lw_okq q := List.forall_mem_cons.mpr ⟨lw_p0, List.forall_mem_cons.mpr ⟨lw_p1, List.forall_mem_cons.mpr ⟨lw_p2, List.forall_mem_cons.mpr ⟨lw_p3, List.forall_mem_cons.mpr ⟨lw_p4, List.forall_mem_cons.mpr ⟨lw_p5, List.forall_mem_cons.mpr ⟨lw_p6, List.forall_mem_cons.mpr ⟨lw_p7, List.forall_mem_cons.mpr ⟨lw_p8, List.forall_mem_cons.mpr ⟨lw_p9, List.forall_mem_cons.mpr ⟨lw_p10, List.forall_mem_cons.mpr ⟨lw_p11, List.forall_mem_cons.mpr ⟨lw_p12, List.forall_mem_cons.mpr ⟨lw_p13, List.forall_mem_cons.mpr ⟨lw_p14, List.forall_mem_cons.mpr ⟨lw_p15, fun _ h => absurd h List.not_mem_nil⟩⟩⟩⟩⟩⟩⟩⟩⟩⟩⟩⟩⟩⟩⟩⟩
theorem lw_p16 : lw_okq (⟨"MistCanton", "beginAnew", "()V"⟩, 14) := ⟨⟨by decide +kernel, by decide +kernel⟩, List.mem_of_getElem? (i := 25) (by decide +kernel), List.mem_of_getElem? (i := 635) (by decide +kernel), List.mem_of_getElem? (i := 636) (by decide +kernel)⟩
theorem lw_p17 : lw_okq (⟨"MistCanton$WeekReader", "readLine", "(LMistCanton$Week;LMistCanton$Canton;)Z"⟩, 1) := ⟨⟨by decide +kernel, by decide +kernel⟩, List.mem_of_getElem? (i := 99) (by decide +kernel), List.mem_of_getElem? (i := 653) (by decide +kernel), List.mem_of_getElem? (i := 654) (by decide +kernel)⟩
theorem lw_p18 : lw_okq (⟨"MistCanton$WeekReader", "actAtHand", "()I"⟩, 1) := ⟨⟨by decide +kernel, by decide +kernel⟩, List.mem_of_getElem? (i := 99) (by decide +kernel), List.mem_of_getElem? (i := 657) (by decide +kernel), List.mem_of_getElem? (i := 658) (by decide +kernel)⟩
theorem lw_p19 : lw_okq (⟨"MistCanton$WeekReader", "readPerson", "(LMistCanton$Week;LMistCanton$Canton;)Z"⟩, 1) := ⟨⟨by decide +kernel, by decide +kernel⟩, List.mem_of_getElem? (i := 99) (by decide +kernel), List.mem_of_getElem? (i := 667) (by decide +kernel), List.mem_of_getElem? (i := 668) (by decide +kernel)⟩
theorem lw_p20 : lw_okq (⟨"MistCanton$WeekReader", "readLot", "(LMistCanton$Week;)Z"⟩, 1) := ⟨⟨by decide +kernel, by decide +kernel⟩, List.mem_of_getElem? (i := 99) (by decide +kernel), List.mem_of_getElem? (i := 673) (by decide +kernel), List.mem_of_getElem? (i := 674) (by decide +kernel)⟩
theorem lw_p21 : lw_okq (⟨"MistCanton", "isPerson", "(I)Z"⟩, 14) := ⟨⟨by decide +kernel, by decide +kernel⟩, List.mem_of_getElem? (i := 25) (by decide +kernel), List.mem_of_getElem? (i := 683) (by decide +kernel), List.mem_of_getElem? (i := 684) (by decide +kernel)⟩
theorem lw_p22 : lw_okq (⟨"MistCanton", "isEvent", "(I)Z"⟩, 14) := ⟨⟨by decide +kernel, by decide +kernel⟩, List.mem_of_getElem? (i := 25) (by decide +kernel), List.mem_of_getElem? (i := 707) (by decide +kernel), List.mem_of_getElem? (i := 708) (by decide +kernel)⟩
theorem lw_p23 : lw_okq (⟨"MistCanton$Canton", "gather", "(LMistCanton$State;Z)V"⟩, 13) := ⟨⟨by decide +kernel, by decide +kernel⟩, List.mem_of_getElem? (i := 109) (by decide +kernel), List.mem_of_getElem? (i := 741) (by decide +kernel), List.mem_of_getElem? (i := 742) (by decide +kernel)⟩
theorem lw_p24 : lw_okq (⟨"MistCanton$Canton", "drawing", "(II)I"⟩, 13) := ⟨⟨by decide +kernel, by decide +kernel⟩, List.mem_of_getElem? (i := 109) (by decide +kernel), List.mem_of_getElem? (i := 746) (by decide +kernel), List.mem_of_getElem? (i := 747) (by decide +kernel)⟩
theorem lw_p25 : lw_okq (⟨"MistCanton$Canton", "goesOut", "(ILMistCanton$State;Z)Z"⟩, 13) := ⟨⟨by decide +kernel, by decide +kernel⟩, List.mem_of_getElem? (i := 109) (by decide +kernel), List.mem_of_getElem? (i := 753) (by decide +kernel), List.mem_of_getElem? (i := 754) (by decide +kernel)⟩
theorem lw_p26 : lw_okq (⟨"MistCanton", "followLine", "(I)I"⟩, 14) := ⟨⟨by decide +kernel, by decide +kernel⟩, List.mem_of_getElem? (i := 25) (by decide +kernel), List.mem_of_getElem? (i := 808) (by decide +kernel), List.mem_of_getElem? (i := 809) (by decide +kernel)⟩
theorem lw_p27 : lw_okq (⟨"MistCanton", "passAhead", "()I"⟩, 14) := ⟨⟨by decide +kernel, by decide +kernel⟩, List.mem_of_getElem? (i := 25) (by decide +kernel), List.mem_of_getElem? (i := 812) (by decide +kernel), List.mem_of_getElem? (i := 813) (by decide +kernel)⟩
theorem lw_p28 : lw_okq (⟨"MistCanton", "timesHeld", "(II)I"⟩, 14) := ⟨⟨by decide +kernel, by decide +kernel⟩, List.mem_of_getElem? (i := 25) (by decide +kernel), List.mem_of_getElem? (i := 833) (by decide +kernel), List.mem_of_getElem? (i := 834) (by decide +kernel)⟩
theorem lw_p29 : lw_okq (⟨"MistCanton", "isHeldUnder", "(III)Z"⟩, 14) := ⟨⟨by decide +kernel, by decide +kernel⟩, List.mem_of_getElem? (i := 25) (by decide +kernel), List.mem_of_getElem? (i := 882) (by decide +kernel), List.mem_of_getElem? (i := 883) (by decide +kernel)⟩
theorem lw_p30 : lw_okq (⟨"MistCanton", "drawLots", "(J)J"⟩, 14) := ⟨⟨by decide +kernel, by decide +kernel⟩, List.mem_of_getElem? (i := 25) (by decide +kernel), List.mem_of_getElem? (i := 893) (by decide +kernel), List.mem_of_getElem? (i := 894) (by decide +kernel)⟩
theorem lw_p31 : lw_okq (⟨"MistCanton", "personsOf", "(I)I"⟩, 14) := ⟨⟨by decide +kernel, by decide +kernel⟩, List.mem_of_getElem? (i := 25) (by decide +kernel), List.mem_of_getElem? (i := 911) (by decide +kernel), List.mem_of_getElem? (i := 912) (by decide +kernel)⟩
def lw_privs_2 : List (MethodName × Nat) := [(⟨"MistCanton", "beginAnew", "()V"⟩, 14), (⟨"MistCanton$WeekReader", "readLine", "(LMistCanton$Week;LMistCanton$Canton;)Z"⟩, 1), (⟨"MistCanton$WeekReader", "actAtHand", "()I"⟩, 1), (⟨"MistCanton$WeekReader", "readPerson", "(LMistCanton$Week;LMistCanton$Canton;)Z"⟩, 1), (⟨"MistCanton$WeekReader", "readLot", "(LMistCanton$Week;)Z"⟩, 1), (⟨"MistCanton", "isPerson", "(I)Z"⟩, 14), (⟨"MistCanton", "isEvent", "(I)Z"⟩, 14), (⟨"MistCanton$Canton", "gather", "(LMistCanton$State;Z)V"⟩, 13), (⟨"MistCanton$Canton", "drawing", "(II)I"⟩, 13), (⟨"MistCanton$Canton", "goesOut", "(ILMistCanton$State;Z)Z"⟩, 13), (⟨"MistCanton", "followLine", "(I)I"⟩, 14), (⟨"MistCanton", "passAhead", "()I"⟩, 14), (⟨"MistCanton", "timesHeld", "(II)I"⟩, 14), (⟨"MistCanton", "isHeldUnder", "(III)Z"⟩, 14), (⟨"MistCanton", "drawLots", "(J)J"⟩, 14), (⟨"MistCanton", "personsOf", "(I)I"⟩, 14)]
theorem lw_r2 : ∀ q ∈ lw_privs_2, lw_okq q := List.forall_mem_cons.mpr ⟨lw_p16, List.forall_mem_cons.mpr ⟨lw_p17, List.forall_mem_cons.mpr ⟨lw_p18, List.forall_mem_cons.mpr ⟨lw_p19, List.forall_mem_cons.mpr ⟨lw_p20, List.forall_mem_cons.mpr ⟨lw_p21, List.forall_mem_cons.mpr ⟨lw_p22, List.forall_mem_cons.mpr ⟨lw_p23, List.forall_mem_cons.mpr ⟨lw_p24, List.forall_mem_cons.mpr ⟨lw_p25, List.forall_mem_cons.mpr ⟨lw_p26, List.forall_mem_cons.mpr ⟨lw_p27, List.forall_mem_cons.mpr ⟨lw_p28, List.forall_mem_cons.mpr ⟨lw_p29, List.forall_mem_cons.mpr ⟨lw_p30, List.forall_mem_cons.mpr ⟨lw_p31, fun _ h => absurd h List.not_mem_nil⟩⟩⟩⟩⟩⟩⟩⟩⟩⟩⟩⟩⟩⟩⟩⟩
theorem lw_p32 : lw_okq (⟨"MistCanton", "costOf", "(II)I"⟩, 14) := ⟨⟨by decide +kernel, by decide +kernel⟩, List.mem_of_getElem? (i := 25) (by decide +kernel), List.mem_of_getElem? (i := 920) (by decide +kernel), List.mem_of_getElem? (i := 921) (by decide +kernel)⟩
theorem lw_p33 : lw_okq (⟨"MistCanton", "guestsAt", "(III)I"⟩, 14) := ⟨⟨by decide +kernel, by decide +kernel⟩, List.mem_of_getElem? (i := 25) (by decide +kernel), List.mem_of_getElem? (i := 924) (by decide +kernel), List.mem_of_getElem? (i := 925) (by decide +kernel)⟩
theorem lw_p34 : lw_okq (⟨"MistCanton", "personsAt", "(I)I"⟩, 14) := ⟨⟨by decide +kernel, by decide +kernel⟩, List.mem_of_getElem? (i := 25) (by decide +kernel), List.mem_of_getElem? (i := 958) (by decide +kernel), List.mem_of_getElem? (i := 959) (by decide +kernel)⟩
theorem lw_p35 : lw_okq (⟨"MistCanton", "daysRight", "(I)I"⟩, 14) := ⟨⟨by decide +kernel, by decide +kernel⟩, List.mem_of_getElem? (i := 25) (by decide +kernel), List.mem_of_getElem? (i := 984) (by decide +kernel), List.mem_of_getElem? (i := 985) (by decide +kernel)⟩
theorem lw_p36 : lw_okq (⟨"MistCanton", "withTheirs", "(I)I"⟩, 14) := ⟨⟨by decide +kernel, by decide +kernel⟩, List.mem_of_getElem? (i := 25) (by decide +kernel), List.mem_of_getElem? (i := 992) (by decide +kernel), List.mem_of_getElem? (i := 993) (by decide +kernel)⟩
theorem lw_p37 : lw_okq (⟨"MistCanton", "circleOf", "(I)I"⟩, 14) := ⟨⟨by decide +kernel, by decide +kernel⟩, List.mem_of_getElem? (i := 25) (by decide +kernel), List.mem_of_getElem? (i := 1004) (by decide +kernel), List.mem_of_getElem? (i := 1005) (by decide +kernel)⟩
theorem lw_p38 : lw_okq (⟨"java/lang/Throwable", "fillInStackTrace", "(I)Ljava/lang/Throwable;"⟩, 6) := ⟨⟨by decide +kernel, by decide +kernel⟩, List.mem_of_getElem? (i := 1064) (by decide +kernel), List.mem_of_getElem? (i := 1062) (by decide +kernel), List.mem_of_getElem? (i := 1063) (by decide +kernel)⟩
theorem lw_p39 : lw_okq (⟨"MistCantonModel", "lay", "(J)V"⟩, 31) := ⟨⟨by decide +kernel, by decide +kernel⟩, List.mem_of_getElem? (i := 1110) (by decide +kernel), List.mem_of_getElem? (i := 1108) (by decide +kernel), List.mem_of_getElem? (i := 1109) (by decide +kernel)⟩
theorem lw_p40 : lw_okq (⟨"MistCantonModel", "standsAsAlways", "(I)V"⟩, 31) := ⟨⟨by decide +kernel, by decide +kernel⟩, List.mem_of_getElem? (i := 1110) (by decide +kernel), List.mem_of_getElem? (i := 1139) (by decide +kernel), List.mem_of_getElem? (i := 1140) (by decide +kernel)⟩
theorem lw_p41 : lw_okq (⟨"MistCantonModel", "begins", "()V"⟩, 31) := ⟨⟨by decide +kernel, by decide +kernel⟩, List.mem_of_getElem? (i := 1110) (by decide +kernel), List.mem_of_getElem? (i := 1143) (by decide +kernel), List.mem_of_getElem? (i := 1144) (by decide +kernel)⟩
theorem lw_p42 : lw_okq (⟨"MistCantonModel", "onsAsTold", "()V"⟩, 31) := ⟨⟨by decide +kernel, by decide +kernel⟩, List.mem_of_getElem? (i := 1110) (by decide +kernel), List.mem_of_getElem? (i := 1147) (by decide +kernel), List.mem_of_getElem? (i := 1148) (by decide +kernel)⟩
theorem lw_p43 : lw_okq (⟨"MistCantonModel", "events", "()I"⟩, 31) := ⟨⟨by decide +kernel, by decide +kernel⟩, List.mem_of_getElem? (i := 1110) (by decide +kernel), List.mem_of_getElem? (i := 1151) (by decide +kernel), List.mem_of_getElem? (i := 1152) (by decide +kernel)⟩
theorem lw_p44 : lw_okq (⟨"MistCantonModel", "eventOf", "(II)I"⟩, 31) := ⟨⟨by decide +kernel, by decide +kernel⟩, List.mem_of_getElem? (i := 1110) (by decide +kernel), List.mem_of_getElem? (i := 1155) (by decide +kernel), List.mem_of_getElem? (i := 1156) (by decide +kernel)⟩
theorem lw_p45 : lw_okq (⟨"MistCantonModel", "starts", "(I)V"⟩, 31) := ⟨⟨by decide +kernel, by decide +kernel⟩, List.mem_of_getElem? (i := 1110) (by decide +kernel), List.mem_of_getElem? (i := 1159) (by decide +kernel), List.mem_of_getElem? (i := 1160) (by decide +kernel)⟩
theorem lw_p46 : lw_okq (⟨"MistCantonModel", "persons", "()I"⟩, 31) := ⟨⟨by decide +kernel, by decide +kernel⟩, List.mem_of_getElem? (i := 1110) (by decide +kernel), List.mem_of_getElem? (i := 1163) (by decide +kernel), List.mem_of_getElem? (i := 1164) (by decide +kernel)⟩
theorem lw_p47 : lw_okq (⟨"MistCantonModel", "personOf", "(II)I"⟩, 31) := ⟨⟨by decide +kernel, by decide +kernel⟩, List.mem_of_getElem? (i := 1110) (by decide +kernel), List.mem_of_getElem? (i := 1167) (by decide +kernel), List.mem_of_getElem? (i := 1168) (by decide +kernel)⟩
def lw_privs_3 : List (MethodName × Nat) := [(⟨"MistCanton", "costOf", "(II)I"⟩, 14), (⟨"MistCanton", "guestsAt", "(III)I"⟩, 14), (⟨"MistCanton", "personsAt", "(I)I"⟩, 14), (⟨"MistCanton", "daysRight", "(I)I"⟩, 14), (⟨"MistCanton", "withTheirs", "(I)I"⟩, 14), (⟨"MistCanton", "circleOf", "(I)I"⟩, 14), (⟨"java/lang/Throwable", "fillInStackTrace", "(I)Ljava/lang/Throwable;"⟩, 6), (⟨"MistCantonModel", "lay", "(J)V"⟩, 31), (⟨"MistCantonModel", "standsAsAlways", "(I)V"⟩, 31), (⟨"MistCantonModel", "begins", "()V"⟩, 31), (⟨"MistCantonModel", "onsAsTold", "()V"⟩, 31), (⟨"MistCantonModel", "events", "()I"⟩, 31), (⟨"MistCantonModel", "eventOf", "(II)I"⟩, 31), (⟨"MistCantonModel", "starts", "(I)V"⟩, 31), (⟨"MistCantonModel", "persons", "()I"⟩, 31), (⟨"MistCantonModel", "personOf", "(II)I"⟩, 31)]
theorem lw_r3 : ∀ q ∈ lw_privs_3, lw_okq q := List.forall_mem_cons.mpr ⟨lw_p32, List.forall_mem_cons.mpr ⟨lw_p33, List.forall_mem_cons.mpr ⟨lw_p34, List.forall_mem_cons.mpr ⟨lw_p35, List.forall_mem_cons.mpr ⟨lw_p36, List.forall_mem_cons.mpr ⟨lw_p37, List.forall_mem_cons.mpr ⟨lw_p38, List.forall_mem_cons.mpr ⟨lw_p39, List.forall_mem_cons.mpr ⟨lw_p40, List.forall_mem_cons.mpr ⟨lw_p41, List.forall_mem_cons.mpr ⟨lw_p42, List.forall_mem_cons.mpr ⟨lw_p43, List.forall_mem_cons.mpr ⟨lw_p44, List.forall_mem_cons.mpr ⟨lw_p45, List.forall_mem_cons.mpr ⟨lw_p46, List.forall_mem_cons.mpr ⟨lw_p47, fun _ h => absurd h List.not_mem_nil⟩⟩⟩⟩⟩⟩⟩⟩⟩⟩⟩⟩⟩⟩⟩⟩
theorem lw_p48 : lw_okq (⟨"MistCantonModel", "cutAll", "()V"⟩, 31) := ⟨⟨by decide +kernel, by decide +kernel⟩, List.mem_of_getElem? (i := 1110) (by decide +kernel), List.mem_of_getElem? (i := 1270) (by decide +kernel), List.mem_of_getElem? (i := 1271) (by decide +kernel)⟩
theorem lw_p49 : lw_okq (⟨"MistCantonModel", "readLine", "()V"⟩, 31) := ⟨⟨by decide +kernel, by decide +kernel⟩, List.mem_of_getElem? (i := 1110) (by decide +kernel), List.mem_of_getElem? (i := 1289) (by decide +kernel), List.mem_of_getElem? (i := 1290) (by decide +kernel)⟩
theorem lw_p50 : lw_okq (⟨"MistCantonModel", "isWord", "(I)Z"⟩, 31) := ⟨⟨by decide +kernel, by decide +kernel⟩, List.mem_of_getElem? (i := 1110) (by decide +kernel), List.mem_of_getElem? (i := 1293) (by decide +kernel), List.mem_of_getElem? (i := 1294) (by decide +kernel)⟩
theorem lw_p51 : lw_okq (⟨"MistCantonModel", "readName", "(III)V"⟩, 31) := ⟨⟨by decide +kernel, by decide +kernel⟩, List.mem_of_getElem? (i := 1110) (by decide +kernel), List.mem_of_getElem? (i := 1297) (by decide +kernel), List.mem_of_getElem? (i := 1298) (by decide +kernel)⟩
theorem lw_p52 : lw_okq (⟨"MistCantonModel", "wrong", "(I)V"⟩, 31) := ⟨⟨by decide +kernel, by decide +kernel⟩, List.mem_of_getElem? (i := 1110) (by decide +kernel), List.mem_of_getElem? (i := 1301) (by decide +kernel), List.mem_of_getElem? (i := 1302) (by decide +kernel)⟩
theorem lw_p53 : lw_okq (⟨"MistCantonModel", "isName", "()Z"⟩, 31) := ⟨⟨by decide +kernel, by decide +kernel⟩, List.mem_of_getElem? (i := 1110) (by decide +kernel), List.mem_of_getElem? (i := 1305) (by decide +kernel), List.mem_of_getElem? (i := 1306) (by decide +kernel)⟩
theorem lw_p54 : lw_okq (⟨"MistCantonModel", "wordHere", "(II)I"⟩, 31) := ⟨⟨by decide +kernel, by decide +kernel⟩, List.mem_of_getElem? (i := 1110) (by decide +kernel), List.mem_of_getElem? (i := 1309) (by decide +kernel), List.mem_of_getElem? (i := 1310) (by decide +kernel)⟩
theorem lw_p55 : lw_okq (⟨"MistCantonModel", "nameAt", "(Z)I"⟩, 31) := ⟨⟨by decide +kernel, by decide +kernel⟩, List.mem_of_getElem? (i := 1110) (by decide +kernel), List.mem_of_getElem? (i := 1313) (by decide +kernel), List.mem_of_getElem? (i := 1314) (by decide +kernel)⟩
theorem lw_p56 : lw_okq (⟨"MistCantonModel", "takeOne", "(II)I"⟩, 31) := ⟨⟨by decide +kernel, by decide +kernel⟩, List.mem_of_getElem? (i := 1110) (by decide +kernel), List.mem_of_getElem? (i := 1317) (by decide +kernel), List.mem_of_getElem? (i := 1318) (by decide +kernel)⟩
theorem lw_p57 : lw_okq (⟨"MistCantonModel", "takeAfter", "(III)I"⟩, 31) := ⟨⟨by decide +kernel, by decide +kernel⟩, List.mem_of_getElem? (i := 1110) (by decide +kernel), List.mem_of_getElem? (i := 1321) (by decide +kernel), List.mem_of_getElem? (i := 1322) (by decide +kernel)⟩
theorem lw_p58 : lw_okq (⟨"MistCantonModel", "takeWord", "(I)V"⟩, 31) := ⟨⟨by decide +kernel, by decide +kernel⟩, List.mem_of_getElem? (i := 1110) (by decide +kernel), List.mem_of_getElem? (i := 1325) (by decide +kernel), List.mem_of_getElem? (i := 1326) (by decide +kernel)⟩
theorem lw_p59 : lw_okq (⟨"MistCantonModel", "hasWord", "(I)Z"⟩, 31) := ⟨⟨by decide +kernel, by decide +kernel⟩, List.mem_of_getElem? (i := 1110) (by decide +kernel), List.mem_of_getElem? (i := 1329) (by decide +kernel), List.mem_of_getElem? (i := 1330) (by decide +kernel)⟩
theorem lw_p60 : lw_okq (⟨"MistCantonModel", "takeNumber", "(II)I"⟩, 31) := ⟨⟨by decide +kernel, by decide +kernel⟩, List.mem_of_getElem? (i := 1110) (by decide +kernel), List.mem_of_getElem? (i := 1333) (by decide +kernel), List.mem_of_getElem? (i := 1334) (by decide +kernel)⟩
theorem lw_p61 : lw_okq (⟨"MistCantonModel", "takeTold", "(ZII)I"⟩, 31) := ⟨⟨by decide +kernel, by decide +kernel⟩, List.mem_of_getElem? (i := 1110) (by decide +kernel), List.mem_of_getElem? (i := 1337) (by decide +kernel), List.mem_of_getElem? (i := 1338) (by decide +kernel)⟩
theorem lw_p62 : lw_okq (⟨"MistCantonModel", "readOnce", "()V"⟩, 31) := ⟨⟨by decide +kernel, by decide +kernel⟩, List.mem_of_getElem? (i := 1110) (by decide +kernel), List.mem_of_getElem? (i := 1344) (by decide +kernel), List.mem_of_getElem? (i := 1345) (by decide +kernel)⟩
theorem lw_p63 : lw_okq (⟨"MistCantonModel", "readSnow", "()V"⟩, 31) := ⟨⟨by decide +kernel, by decide +kernel⟩, List.mem_of_getElem? (i := 1110) (by decide +kernel), List.mem_of_getElem? (i := 1348) (by decide +kernel), List.mem_of_getElem? (i := 1349) (by decide +kernel)⟩
def lw_privs_4 : List (MethodName × Nat) := [(⟨"MistCantonModel", "cutAll", "()V"⟩, 31), (⟨"MistCantonModel", "readLine", "()V"⟩, 31), (⟨"MistCantonModel", "isWord", "(I)Z"⟩, 31), (⟨"MistCantonModel", "readName", "(III)V"⟩, 31), (⟨"MistCantonModel", "wrong", "(I)V"⟩, 31), (⟨"MistCantonModel", "isName", "()Z"⟩, 31), (⟨"MistCantonModel", "wordHere", "(II)I"⟩, 31), (⟨"MistCantonModel", "nameAt", "(Z)I"⟩, 31), (⟨"MistCantonModel", "takeOne", "(II)I"⟩, 31), (⟨"MistCantonModel", "takeAfter", "(III)I"⟩, 31), (⟨"MistCantonModel", "takeWord", "(I)V"⟩, 31), (⟨"MistCantonModel", "hasWord", "(I)Z"⟩, 31), (⟨"MistCantonModel", "takeNumber", "(II)I"⟩, 31), (⟨"MistCantonModel", "takeTold", "(ZII)I"⟩, 31), (⟨"MistCantonModel", "readOnce", "()V"⟩, 31), (⟨"MistCantonModel", "readSnow", "()V"⟩, 31)]
theorem lw_r4 : ∀ q ∈ lw_privs_4, lw_okq q := List.forall_mem_cons.mpr ⟨lw_p48, List.forall_mem_cons.mpr ⟨lw_p49, List.forall_mem_cons.mpr ⟨lw_p50, List.forall_mem_cons.mpr ⟨lw_p51, List.forall_mem_cons.mpr ⟨lw_p52, List.forall_mem_cons.mpr ⟨lw_p53, List.forall_mem_cons.mpr ⟨lw_p54, List.forall_mem_cons.mpr ⟨lw_p55, List.forall_mem_cons.mpr ⟨lw_p56, List.forall_mem_cons.mpr ⟨lw_p57, List.forall_mem_cons.mpr ⟨lw_p58, List.forall_mem_cons.mpr ⟨lw_p59, List.forall_mem_cons.mpr ⟨lw_p60, List.forall_mem_cons.mpr ⟨lw_p61, List.forall_mem_cons.mpr ⟨lw_p62, List.forall_mem_cons.mpr ⟨lw_p63, fun _ h => absurd h List.not_mem_nil⟩⟩⟩⟩⟩⟩⟩⟩⟩⟩⟩⟩⟩⟩⟩⟩
theorem lw_p64 : lw_okq (⟨"MistCantonModel", "whole", "(I)V"⟩, 31) := ⟨⟨by decide +kernel, by decide +kernel⟩, List.mem_of_getElem? (i := 1110) (by decide +kernel), List.mem_of_getElem? (i := 1352) (by decide +kernel), List.mem_of_getElem? (i := 1353) (by decide +kernel)⟩
theorem lw_p65 : lw_okq (⟨"MistCantonModel", "test", "(I)V"⟩, 31) := ⟨⟨by decide +kernel, by decide +kernel⟩, List.mem_of_getElem? (i := 1110) (by decide +kernel), List.mem_of_getElem? (i := 1356) (by decide +kernel), List.mem_of_getElem? (i := 1357) (by decide +kernel)⟩
theorem lw_p66 : lw_okq (⟨"MistCantonModel", "sums", "(I)V"⟩, 31) := ⟨⟨by decide +kernel, by decide +kernel⟩, List.mem_of_getElem? (i := 1110) (by decide +kernel), List.mem_of_getElem? (i := 1360) (by decide +kernel), List.mem_of_getElem? (i := 1361) (by decide +kernel)⟩
theorem lw_p67 : lw_okq (⟨"MistCantonModel", "products", "(I)V"⟩, 31) := ⟨⟨by decide +kernel, by decide +kernel⟩, List.mem_of_getElem? (i := 1110) (by decide +kernel), List.mem_of_getElem? (i := 1364) (by decide +kernel), List.mem_of_getElem? (i := 1365) (by decide +kernel)⟩
theorem lw_p68 : lw_okq (⟨"MistCantonModel", "takePart", "(I)V"⟩, 31) := ⟨⟨by decide +kernel, by decide +kernel⟩, List.mem_of_getElem? (i := 1110) (by decide +kernel), List.mem_of_getElem? (i := 1368) (by decide +kernel), List.mem_of_getElem? (i := 1369) (by decide +kernel)⟩
theorem lw_p69 : lw_okq (⟨"MistCantonModel", "isSign", "(I)Z"⟩, 31) := ⟨⟨by decide +kernel, by decide +kernel⟩, List.mem_of_getElem? (i := 1110) (by decide +kernel), List.mem_of_getElem? (i := 1372) (by decide +kernel), List.mem_of_getElem? (i := 1373) (by decide +kernel)⟩
theorem lw_p70 : lw_okq (⟨"MistCantonModel", "emit", "(II)V"⟩, 31) := ⟨⟨by decide +kernel, by decide +kernel⟩, List.mem_of_getElem? (i := 1110) (by decide +kernel), List.mem_of_getElem? (i := 1376) (by decide +kernel), List.mem_of_getElem? (i := 1377) (by decide +kernel)⟩
theorem lw_p71 : lw_okq (⟨"MistCantonModel", "hasSign", "(I)Z"⟩, 31) := ⟨⟨by decide +kernel, by decide +kernel⟩, List.mem_of_getElem? (i := 1110) (by decide +kernel), List.mem_of_getElem? (i := 1380) (by decide +kernel), List.mem_of_getElem? (i := 1381) (by decide +kernel)⟩
theorem lw_p72 : lw_okq (⟨"MistCantonModel", "takeSign", "(I)V"⟩, 31) := ⟨⟨by decide +kernel, by decide +kernel⟩, List.mem_of_getElem? (i := 1110) (by decide +kernel), List.mem_of_getElem? (i := 1384) (by decide +kernel), List.mem_of_getElem? (i := 1385) (by decide +kernel)⟩
theorem lw_p73 : lw_okq (⟨"MistCantonModel", "isPerson", "(I)Z"⟩, 31) := ⟨⟨by decide +kernel, by decide +kernel⟩, List.mem_of_getElem? (i := 1110) (by decide +kernel), List.mem_of_getElem? (i := 1396) (by decide +kernel), List.mem_of_getElem? (i := 1397) (by decide +kernel)⟩
theorem lw_p74 : lw_okq (⟨"MistCantonModel", "toOne", "(I)I"⟩, 31) := ⟨⟨by decide +kernel, by decide +kernel⟩, List.mem_of_getElem? (i := 1110) (by decide +kernel), List.mem_of_getElem? (i := 1400) (by decide +kernel), List.mem_of_getElem? (i := 1401) (by decide +kernel)⟩
theorem lw_p75 : lw_okq (⟨"MistCantonModel", "offOf", "(II)I"⟩, 31) := ⟨⟨by decide +kernel, by decide +kernel⟩, List.mem_of_getElem? (i := 1110) (by decide +kernel), List.mem_of_getElem? (i := 1404) (by decide +kernel), List.mem_of_getElem? (i := 1405) (by decide +kernel)⟩
theorem lw_p76 : lw_okq (⟨"MistCantonModel", "snowOn", "(I)I"⟩, 31) := ⟨⟨by decide +kernel, by decide +kernel⟩, List.mem_of_getElem? (i := 1110) (by decide +kernel), List.mem_of_getElem? (i := 1408) (by decide +kernel), List.mem_of_getElem? (i := 1409) (by decide +kernel)⟩
theorem lw_p77 : lw_okq (⟨"MistCantonModel", "isEvent", "(I)Z"⟩, 31) := ⟨⟨by decide +kernel, by decide +kernel⟩, List.mem_of_getElem? (i := 1110) (by decide +kernel), List.mem_of_getElem? (i := 1419) (by decide +kernel), List.mem_of_getElem? (i := 1420) (by decide +kernel)⟩
theorem lw_p78 : lw_okq (⟨"MistCantonModel", "invitedTo", "(I)I"⟩, 31) := ⟨⟨by decide +kernel, by decide +kernel⟩, List.mem_of_getElem? (i := 1110) (by decide +kernel), List.mem_of_getElem? (i := 1423) (by decide +kernel), List.mem_of_getElem? (i := 1424) (by decide +kernel)⟩
theorem lw_p79 : lw_okq (⟨"MistCantonModel", "isToCome", "(II)Z"⟩, 31) := ⟨⟨by decide +kernel, by decide +kernel⟩, List.mem_of_getElem? (i := 1110) (by decide +kernel), List.mem_of_getElem? (i := 1427) (by decide +kernel), List.mem_of_getElem? (i := 1428) (by decide +kernel)⟩
def lw_privs_5 : List (MethodName × Nat) := [(⟨"MistCantonModel", "whole", "(I)V"⟩, 31), (⟨"MistCantonModel", "test", "(I)V"⟩, 31), (⟨"MistCantonModel", "sums", "(I)V"⟩, 31), (⟨"MistCantonModel", "products", "(I)V"⟩, 31), (⟨"MistCantonModel", "takePart", "(I)V"⟩, 31), (⟨"MistCantonModel", "isSign", "(I)Z"⟩, 31), (⟨"MistCantonModel", "emit", "(II)V"⟩, 31), (⟨"MistCantonModel", "hasSign", "(I)Z"⟩, 31), (⟨"MistCantonModel", "takeSign", "(I)V"⟩, 31), (⟨"MistCantonModel", "isPerson", "(I)Z"⟩, 31), (⟨"MistCantonModel", "toOne", "(I)I"⟩, 31), (⟨"MistCantonModel", "offOf", "(II)I"⟩, 31), (⟨"MistCantonModel", "snowOn", "(I)I"⟩, 31), (⟨"MistCantonModel", "isEvent", "(I)Z"⟩, 31), (⟨"MistCantonModel", "invitedTo", "(I)I"⟩, 31), (⟨"MistCantonModel", "isToCome", "(II)Z"⟩, 31)]
theorem lw_r5 : ∀ q ∈ lw_privs_5, lw_okq q := List.forall_mem_cons.mpr ⟨lw_p64, List.forall_mem_cons.mpr ⟨lw_p65, List.forall_mem_cons.mpr ⟨lw_p66, List.forall_mem_cons.mpr ⟨lw_p67, List.forall_mem_cons.mpr ⟨lw_p68, List.forall_mem_cons.mpr ⟨lw_p69, List.forall_mem_cons.mpr ⟨lw_p70, List.forall_mem_cons.mpr ⟨lw_p71, List.forall_mem_cons.mpr ⟨lw_p72, List.forall_mem_cons.mpr ⟨lw_p73, List.forall_mem_cons.mpr ⟨lw_p74, List.forall_mem_cons.mpr ⟨lw_p75, List.forall_mem_cons.mpr ⟨lw_p76, List.forall_mem_cons.mpr ⟨lw_p77, List.forall_mem_cons.mpr ⟨lw_p78, List.forall_mem_cons.mpr ⟨lw_p79, fun _ h => absurd h List.not_mem_nil⟩⟩⟩⟩⟩⟩⟩⟩⟩⟩⟩⟩⟩⟩⟩⟩
theorem lw_p80 : lw_okq (⟨"MistCantonModel", "keeps", "()V"⟩, 31) := ⟨⟨by decide +kernel, by decide +kernel⟩, List.mem_of_getElem? (i := 1110) (by decide +kernel), List.mem_of_getElem? (i := 1435) (by decide +kernel), List.mem_of_getElem? (i := 1436) (by decide +kernel)⟩
theorem lw_p81 : lw_okq (⟨"MistCantonModel", "copies", "(III)V"⟩, 31) := ⟨⟨by decide +kernel, by decide +kernel⟩, List.mem_of_getElem? (i := 1110) (by decide +kernel), List.mem_of_getElem? (i := 1439) (by decide +kernel), List.mem_of_getElem? (i := 1440) (by decide +kernel)⟩
theorem lw_p82 : lw_okq (⟨"MistCantonModel", "passes", "(I)I"⟩, 31) := ⟨⟨by decide +kernel, by decide +kernel⟩, List.mem_of_getElem? (i := 1110) (by decide +kernel), List.mem_of_getElem? (i := 1443) (by decide +kernel), List.mem_of_getElem? (i := 1444) (by decide +kernel)⟩
theorem lw_p83 : lw_okq (⟨"MistCantonModel", "passes", "(II)I"⟩, 31) := ⟨⟨by decide +kernel, by decide +kernel⟩, List.mem_of_getElem? (i := 1110) (by decide +kernel), List.mem_of_getElem? (i := 1447) (by decide +kernel), List.mem_of_getElem? (i := 1448) (by decide +kernel)⟩
theorem lw_p84 : lw_okq (⟨"MistCantonModel", "worthAt", "(I)I"⟩, 31) := ⟨⟨by decide +kernel, by decide +kernel⟩, List.mem_of_getElem? (i := 1110) (by decide +kernel), List.mem_of_getElem? (i := 1454) (by decide +kernel), List.mem_of_getElem? (i := 1455) (by decide +kernel)⟩
theorem lw_p85 : lw_okq (⟨"MistCantonModel", "doesCome", "(IIII)Z"⟩, 31) := ⟨⟨by decide +kernel, by decide +kernel⟩, List.mem_of_getElem? (i := 1110) (by decide +kernel), List.mem_of_getElem? (i := 1461) (by decide +kernel), List.mem_of_getElem? (i := 1462) (by decide +kernel)⟩
theorem lw_p86 : lw_okq (⟨"MistCantonModel", "asks", "(II)V"⟩, 31) := ⟨⟨by decide +kernel, by decide +kernel⟩, List.mem_of_getElem? (i := 1110) (by decide +kernel), List.mem_of_getElem? (i := 1473) (by decide +kernel), List.mem_of_getElem? (i := 1474) (by decide +kernel)⟩
theorem lw_p87 : lw_okq (⟨"MistCantonModel", "pairsMet", "(I)I"⟩, 31) := ⟨⟨by decide +kernel, by decide +kernel⟩, List.mem_of_getElem? (i := 1110) (by decide +kernel), List.mem_of_getElem? (i := 1485) (by decide +kernel), List.mem_of_getElem? (i := 1486) (by decide +kernel)⟩
theorem lw_p88 : lw_okq (⟨"MistCantonModel", "sumOf", "(II)I"⟩, 31) := ⟨⟨by decide +kernel, by decide +kernel⟩, List.mem_of_getElem? (i := 1110) (by decide +kernel), List.mem_of_getElem? (i := 1489) (by decide +kernel), List.mem_of_getElem? (i := 1490) (by decide +kernel)⟩
theorem lw_p89 : lw_okq (⟨"MistCantonModel", "triesNow", "()V"⟩, 31) := ⟨⟨by decide +kernel, by decide +kernel⟩, List.mem_of_getElem? (i := 1110) (by decide +kernel), List.mem_of_getElem? (i := 1497) (by decide +kernel), List.mem_of_getElem? (i := 1498) (by decide +kernel)⟩
theorem lw_p90 : lw_okq (⟨"MistCantonModel", "comersOf", "(I)I"⟩, 31) := ⟨⟨by decide +kernel, by decide +kernel⟩, List.mem_of_getElem? (i := 1110) (by decide +kernel), List.mem_of_getElem? (i := 1521) (by decide +kernel), List.mem_of_getElem? (i := 1522) (by decide +kernel)⟩
theorem lw_p91 : lw_okq (⟨"MistCantonModel", "ofOff", "(I)I"⟩, 31) := ⟨⟨by decide +kernel, by decide +kernel⟩, List.mem_of_getElem? (i := 1110) (by decide +kernel), List.mem_of_getElem? (i := 1557) (by decide +kernel), List.mem_of_getElem? (i := 1558) (by decide +kernel)⟩
theorem lw_p92 : lw_okq (⟨"MistCantonModel", "costOf", "(II)I"⟩, 31) := ⟨⟨by decide +kernel, by decide +kernel⟩, List.mem_of_getElem? (i := 1110) (by decide +kernel), List.mem_of_getElem? (i := 1565) (by decide +kernel), List.mem_of_getElem? (i := 1566) (by decide +kernel)⟩
theorem lw_p93 : lw_okq (⟨"MistCantonModel", "lotsNow", "()I"⟩, 31) := ⟨⟨by decide +kernel, by decide +kernel⟩, List.mem_of_getElem? (i := 1110) (by decide +kernel), List.mem_of_getElem? (i := 1580) (by decide +kernel), List.mem_of_getElem? (i := 1581) (by decide +kernel)⟩
theorem lw_p94 : lw_okq (⟨"MistCantonModel", "doesLotCome", "(III)Z"⟩, 31) := ⟨⟨by decide +kernel, by decide +kernel⟩, List.mem_of_getElem? (i := 1110) (by decide +kernel), List.mem_of_getElem? (i := 1584) (by decide +kernel), List.mem_of_getElem? (i := 1585) (by decide +kernel)⟩
theorem lw_p95 : lw_okq (⟨"MistCantonModel", "guessOf", "()I"⟩, 31) := ⟨⟨by decide +kernel, by decide +kernel⟩, List.mem_of_getElem? (i := 1110) (by decide +kernel), List.mem_of_getElem? (i := 1596) (by decide +kernel), List.mem_of_getElem? (i := 1597) (by decide +kernel)⟩
def lw_privs_6 : List (MethodName × Nat) := [(⟨"MistCantonModel", "keeps", "()V"⟩, 31), (⟨"MistCantonModel", "copies", "(III)V"⟩, 31), (⟨"MistCantonModel", "passes", "(I)I"⟩, 31), (⟨"MistCantonModel", "passes", "(II)I"⟩, 31), (⟨"MistCantonModel", "worthAt", "(I)I"⟩, 31), (⟨"MistCantonModel", "doesCome", "(IIII)Z"⟩, 31), (⟨"MistCantonModel", "asks", "(II)V"⟩, 31), (⟨"MistCantonModel", "pairsMet", "(I)I"⟩, 31), (⟨"MistCantonModel", "sumOf", "(II)I"⟩, 31), (⟨"MistCantonModel", "triesNow", "()V"⟩, 31), (⟨"MistCantonModel", "comersOf", "(I)I"⟩, 31), (⟨"MistCantonModel", "ofOff", "(I)I"⟩, 31), (⟨"MistCantonModel", "costOf", "(II)I"⟩, 31), (⟨"MistCantonModel", "lotsNow", "()I"⟩, 31), (⟨"MistCantonModel", "doesLotCome", "(III)Z"⟩, 31), (⟨"MistCantonModel", "guessOf", "()I"⟩, 31)]
theorem lw_r6 : ∀ q ∈ lw_privs_6, lw_okq q := List.forall_mem_cons.mpr ⟨lw_p80, List.forall_mem_cons.mpr ⟨lw_p81, List.forall_mem_cons.mpr ⟨lw_p82, List.forall_mem_cons.mpr ⟨lw_p83, List.forall_mem_cons.mpr ⟨lw_p84, List.forall_mem_cons.mpr ⟨lw_p85, List.forall_mem_cons.mpr ⟨lw_p86, List.forall_mem_cons.mpr ⟨lw_p87, List.forall_mem_cons.mpr ⟨lw_p88, List.forall_mem_cons.mpr ⟨lw_p89, List.forall_mem_cons.mpr ⟨lw_p90, List.forall_mem_cons.mpr ⟨lw_p91, List.forall_mem_cons.mpr ⟨lw_p92, List.forall_mem_cons.mpr ⟨lw_p93, List.forall_mem_cons.mpr ⟨lw_p94, List.forall_mem_cons.mpr ⟨lw_p95, fun _ h => absurd h List.not_mem_nil⟩⟩⟩⟩⟩⟩⟩⟩⟩⟩⟩⟩⟩⟩⟩⟩
theorem lw_p96 : lw_okq (⟨"MistCantonModel", "toHow", "(I)I"⟩, 31) := ⟨⟨by decide +kernel, by decide +kernel⟩, List.mem_of_getElem? (i := 1110) (by decide +kernel), List.mem_of_getElem? (i := 1600) (by decide +kernel), List.mem_of_getElem? (i := 1601) (by decide +kernel)⟩
theorem lw_p97 : lw_okq (⟨"MistCantonModel", "around", "(II)I"⟩, 31) := ⟨⟨by decide +kernel, by decide +kernel⟩, List.mem_of_getElem? (i := 1110) (by decide +kernel), List.mem_of_getElem? (i := 1628) (by decide +kernel), List.mem_of_getElem? (i := 1629) (by decide +kernel)⟩
theorem lw_p98 : lw_okq (⟨"MistCantonModel", "drawsDeed", "()V"⟩, 31) := ⟨⟨by decide +kernel, by decide +kernel⟩, List.mem_of_getElem? (i := 1110) (by decide +kernel), List.mem_of_getElem? (i := 1664) (by decide +kernel), List.mem_of_getElem? (i := 1665) (by decide +kernel)⟩
theorem lw_p99 : lw_okq (⟨"MistCantonModel", "draw", "(I)I"⟩, 31) := ⟨⟨by decide +kernel, by decide +kernel⟩, List.mem_of_getElem? (i := 1110) (by decide +kernel), List.mem_of_getElem? (i := 1668) (by decide +kernel), List.mem_of_getElem? (i := 1669) (by decide +kernel)⟩
def lw_privs_7 : List (MethodName × Nat) := [(⟨"MistCantonModel", "toHow", "(I)I"⟩, 31), (⟨"MistCantonModel", "around", "(II)I"⟩, 31), (⟨"MistCantonModel", "drawsDeed", "()V"⟩, 31), (⟨"MistCantonModel", "draw", "(I)I"⟩, 31)]
theorem lw_r7 : ∀ q ∈ lw_privs_7, lw_okq q := List.forall_mem_cons.mpr ⟨lw_p96, List.forall_mem_cons.mpr ⟨lw_p97, List.forall_mem_cons.mpr ⟨lw_p98, List.forall_mem_cons.mpr ⟨lw_p99, fun _ h => absurd h List.not_mem_nil⟩⟩⟩⟩
def lw_privs : List (MethodName × Nat) := lw_privs_1 ++ (lw_privs_2 ++ (lw_privs_3 ++ (lw_privs_4 ++ (lw_privs_5 ++ (lw_privs_6 ++ (lw_privs_7))))))
def lw_tbl : List Cond := k2_sels lw_privs ++ tables_1
theorem lw_privs_ok : ∀ q ∈ lw_privs, lw_okq q := by
  show ∀ q ∈ lw_privs_1 ++ (lw_privs_2 ++ (lw_privs_3 ++ (lw_privs_4 ++ (lw_privs_5 ++ (lw_privs_6 ++ (lw_privs_7)))))), lw_okq q
  exact List.forall_mem_append.mpr ⟨lw_r1, List.forall_mem_append.mpr ⟨lw_r2, List.forall_mem_append.mpr ⟨lw_r3, List.forall_mem_append.mpr ⟨lw_r4, List.forall_mem_append.mpr ⟨lw_r5, List.forall_mem_append.mpr ⟨lw_r6, lw_r7⟩⟩⟩⟩⟩⟩

def RX0 : String := "MistCanton$Canton"
def TX0 : u_T := fun k => match k with
  | 0 => ("MistCanton$Canton", "persons", "I", false)
  | 1 => ("MistCanton$Canton", "names", "[J", true)
  | 2 => ("MistCanton$Canton", "kinds", "[I", true)
  | 3 => ("MistCanton$Canton", "lots", "[I", true)
  | 4 => ("MistCanton$Canton", "events", "I", false)
  | 5 => ("MistCanton$Canton", "titles", "[J", true)
  | 6 => ("MistCanton$Canton", "weekdays", "[I", true)
  | 7 => ("MistCanton$Canton", "needs", "[I", true)
  | 8 => ("MistCanton$Canton", "guests", "[I", true)
  | 9 => ("MistCanton$Canton", "snowTold", "Z", false)
  | 10 => ("MistCanton$Canton", "snow", "I", false)
  | 11 => ("MistCanton$Canton", "lawTold", "Z", false)
  | _ => ("MistCanton$Canton", "law", "LMistCanton$Law;", true)
def tyX0 : Nat → FieldType := fun k => match k with
  | 0 => .int
  | 1 => .array .long
  | 2 => .array .int
  | 3 => .array .int
  | 4 => .int
  | 5 => .array .long
  | 6 => .array .int
  | 7 => .array .int
  | 8 => .array .int
  | 9 => .boolean
  | 10 => .int
  | 11 => .boolean
  | _ => .object "MistCanton$Law"
theorem nmX0 : ∀ a, a < 13 → ∀ b, b < 13 → a ≠ b → (TX0 a).2.1 ≠ (TX0 b).2.1 := by decide +kernel
theorem tyX0_ok : ∀ k, k < 13 → parseFieldDescriptor (TX0 k).2.2.1 = some (tyX0 k) := by decide +kernel
def RX1 : String := "MistCanton$CantonReader"
def TX1 : u_T := fun k => match k with
  | 0 => ("MistCanton$CantonReader", "tape", "LMistCanton$Tape;", true)
  | _ => ("MistCanton$CantonReader", "lawReader", "LMistCanton$LawReader;", true)
def tyX1 : Nat → FieldType := fun k => match k with
  | 0 => .object "MistCanton$Tape"
  | _ => .object "MistCanton$LawReader"
theorem nmX1 : ∀ a, a < 2 → ∀ b, b < 2 → a ≠ b → (TX1 a).2.1 ≠ (TX1 b).2.1 := by decide +kernel
theorem tyX1_ok : ∀ k, k < 2 → parseFieldDescriptor (TX1 k).2.2.1 = some (tyX1 k) := by decide +kernel
def RX2 : String := "MistCanton$History"
def TX2 : u_T := fun k => match k with
  | 0 => ("MistCanton$History", "ring", "[LMistCanton$State;", true)
  | 1 => ("MistCanton$History", "newest", "I", false)
  | _ => ("MistCanton$History", "length", "I", false)
def tyX2 : Nat → FieldType := fun k => match k with
  | 0 => .array (.object "MistCanton$State")
  | 1 => .int
  | _ => .int
theorem nmX2 : ∀ a, a < 3 → ∀ b, b < 3 → a ≠ b → (TX2 a).2.1 ≠ (TX2 b).2.1 := by decide +kernel
theorem tyX2_ok : ∀ k, k < 3 → parseFieldDescriptor (TX2 k).2.2.1 = some (tyX2 k) := by decide +kernel
def RX3 : String := "MistCanton$Law"
def TX3 : u_T := fun k => match k with
  | 0 => ("MistCanton$Law", "parts", "[I", true)
  | 1 => ("MistCanton$Law", "stack", "[I", true)
  | _ => ("MistCanton$Law", "length", "I", false)
def tyX3 : Nat → FieldType := fun k => match k with
  | 0 => .array .int
  | 1 => .array .int
  | _ => .int
theorem nmX3 : ∀ a, a < 3 → ∀ b, b < 3 → a ≠ b → (TX3 a).2.1 ≠ (TX3 b).2.1 := by decide +kernel
theorem tyX3_ok : ∀ k, k < 3 → parseFieldDescriptor (TX3 k).2.2.1 = some (tyX3 k) := by decide +kernel
def RX4 : String := "MistCanton$LawReader"
def TX4 : u_T := fun k => match k with
  | _ => ("MistCanton$LawReader", "tape", "LMistCanton$Tape;", true)
def tyX4 : Nat → FieldType := fun k => match k with
  | _ => .object "MistCanton$Tape"
theorem nmX4 : ∀ a, a < 1 → ∀ b, b < 1 → a ≠ b → (TX4 a).2.1 ≠ (TX4 b).2.1 := by decide +kernel
theorem tyX4_ok : ∀ k, k < 1 → parseFieldDescriptor (TX4 k).2.2.1 = some (tyX4 k) := by decide +kernel
def RX5 : String := "MistCanton$Mark"
def TX5 : u_T := fun k => match k with
  | 0 => ("MistCanton$Mark", "laid", "Z", false)
  | 1 => ("MistCanton$Mark", "state", "LMistCanton$State;", true)
  | 2 => ("MistCanton$Mark", "sights", "I", false)
  | _ => ("MistCanton$Mark", "sightLots", "I", false)
def tyX5 : Nat → FieldType := fun k => match k with
  | 0 => .boolean
  | 1 => .object "MistCanton$State"
  | 2 => .int
  | _ => .int
theorem nmX5 : ∀ a, a < 4 → ∀ b, b < 4 → a ≠ b → (TX5 a).2.1 ≠ (TX5 b).2.1 := by decide +kernel
theorem tyX5_ok : ∀ k, k < 4 → parseFieldDescriptor (TX5 k).2.2.1 = some (tyX5 k) := by decide +kernel
def RX6 : String := "MistCanton$State"
def TX6 : u_T := fun k => match k with
  | 0 => ("MistCanton$State", "day", "I", false)
  | 1 => ("MistCanton$State", "crimes", "I", false)
  | 2 => ("MistCanton$State", "lots", "[I", true)
  | 3 => ("MistCanton$State", "met", "[I", true)
  | 4 => ("MistCanton$State", "held", "[I", true)
  | _ => ("MistCanton$State", "came", "[I", true)
def tyX6 : Nat → FieldType := fun k => match k with
  | 0 => .int
  | 1 => .int
  | 2 => .array .int
  | 3 => .array .int
  | 4 => .array .int
  | _ => .array .int
theorem nmX6 : ∀ a, a < 6 → ∀ b, b < 6 → a ≠ b → (TX6 a).2.1 ≠ (TX6 b).2.1 := by decide +kernel
theorem tyX6_ok : ∀ k, k < 6 → parseFieldDescriptor (TX6 k).2.2.1 = some (tyX6 k) := by decide +kernel
def RX7 : String := "MistCanton$Tape"
def TX7 : u_T := fun k => match k with
  | 0 => ("MistCanton$Tape", "signs", "[C", true)
  | 1 => ("MistCanton$Tape", "length", "I", false)
  | 2 => ("MistCanton$Tape", "kind", "I", false)
  | 3 => ("MistCanton$Tape", "place", "I", false)
  | 4 => ("MistCanton$Tape", "behind", "I", false)
  | 5 => ("MistCanton$Tape", "word", "J", false)
  | 6 => ("MistCanton$Tape", "number", "I", false)
  | _ => ("MistCanton$Tape", "fault", "I", false)
def tyX7 : Nat → FieldType := fun k => match k with
  | 0 => .array .char
  | 1 => .int
  | 2 => .int
  | 3 => .int
  | 4 => .int
  | 5 => .long
  | 6 => .int
  | _ => .int
theorem nmX7 : ∀ a, a < 8 → ∀ b, b < 8 → a ≠ b → (TX7 a).2.1 ≠ (TX7 b).2.1 := by decide +kernel
theorem tyX7_ok : ∀ k, k < 8 → parseFieldDescriptor (TX7 k).2.2.1 = some (tyX7 k) := by decide +kernel
def RX8 : String := "MistCanton$Week"
def TX8 : u_T := fun k => match k with
  | 0 => ("MistCanton$Week", "acts", "[I", true)
  | 1 => ("MistCanton$Week", "persons", "[I", true)
  | 2 => ("MistCanton$Week", "lots", "[I", true)
  | _ => ("MistCanton$Week", "length", "I", false)
def tyX8 : Nat → FieldType := fun k => match k with
  | 0 => .array .int
  | 1 => .array .int
  | 2 => .array .int
  | _ => .int
theorem nmX8 : ∀ a, a < 4 → ∀ b, b < 4 → a ≠ b → (TX8 a).2.1 ≠ (TX8 b).2.1 := by decide +kernel
theorem tyX8_ok : ∀ k, k < 4 → parseFieldDescriptor (TX8 k).2.2.1 = some (tyX8 k) := by decide +kernel
def RX9 : String := "MistCanton$WeekReader"
def TX9 : u_T := fun k => match k with
  | _ => ("MistCanton$WeekReader", "tape", "LMistCanton$Tape;", true)
def tyX9 : Nat → FieldType := fun k => match k with
  | _ => .object "MistCanton$Tape"
theorem nmX9 : ∀ a, a < 1 → ∀ b, b < 1 → a ≠ b → (TX9 a).2.1 ≠ (TX9 b).2.1 := by decide +kernel
theorem tyX9_ok : ∀ k, k < 1 → parseFieldDescriptor (TX9 k).2.2.1 = some (tyX9 k) := by decide +kernel
def RX10 : String := "MistCanton"
def TX10 : u_T := fun k => match k with
  | 0 => ("MistCanton", "tape", "LMistCanton$Tape;", true)
  | 1 => ("MistCanton", "cantonReader", "LMistCanton$CantonReader;", true)
  | 2 => ("MistCanton", "weekReader", "LMistCanton$WeekReader;", true)
  | 3 => ("MistCanton", "told", "LMistCanton$Canton;", false)
  | 4 => ("MistCanton", "spareCanton", "LMistCanton$Canton;", false)
  | 5 => ("MistCanton", "toldWeek", "LMistCanton$Week;", false)
  | 6 => ("MistCanton", "spareWeek", "LMistCanton$Week;", false)
  | 7 => ("MistCanton", "now", "LMistCanton$State;", true)
  | 8 => ("MistCanton", "ahead", "LMistCanton$State;", true)
  | 9 => ("MistCanton", "unlike", "[I", true)
  | 10 => ("MistCanton", "history", "LMistCanton$History;", true)
  | 11 => ("MistCanton", "marks", "[LMistCanton$Mark;", true)
  | 12 => ("MistCanton", "sights", "I", false)
  | _ => ("MistCanton", "sightLots", "I", false)
def tyX10 : Nat → FieldType := fun k => match k with
  | 0 => .object "MistCanton$Tape"
  | 1 => .object "MistCanton$CantonReader"
  | 2 => .object "MistCanton$WeekReader"
  | 3 => .object "MistCanton$Canton"
  | 4 => .object "MistCanton$Canton"
  | 5 => .object "MistCanton$Week"
  | 6 => .object "MistCanton$Week"
  | 7 => .object "MistCanton$State"
  | 8 => .object "MistCanton$State"
  | 9 => .array .int
  | 10 => .object "MistCanton$History"
  | 11 => .array (.object "MistCanton$Mark")
  | 12 => .int
  | _ => .int
theorem nmX10 : ∀ a, a < 14 → ∀ b, b < 14 → a ≠ b → (TX10 a).2.1 ≠ (TX10 b).2.1 := by decide +kernel
theorem tyX10_ok : ∀ k, k < 14 → parseFieldDescriptor (TX10 k).2.2.1 = some (tyX10 k) := by decide +kernel
def RX11 : String := "MistCantonModel"
def TX11 : u_T := fun k => match k with
  | 0 => ("MistCantonModel", "thrown", "I", false)
  | 1 => ("MistCantonModel", "tape", "[I", true)
  | 2 => ("MistCantonModel", "taped", "I", false)
  | 3 => ("MistCantonModel", "size", "I", false)
  | 4 => ("MistCantonModel", "sort", "[I", true)
  | 5 => ("MistCantonModel", "place", "[I", true)
  | 6 => ("MistCantonModel", "value", "[J", true)
  | 7 => ("MistCantonModel", "at", "I", false)
  | 8 => ("MistCantonModel", "fault", "I", false)
  | 9 => ("MistCantonModel", "words", "[J", true)
  | 10 => ("MistCantonModel", "cantons", "[I", true)
  | 11 => ("MistCantonModel", "op", "[I", true)
  | 12 => ("MistCantonModel", "arg", "[I", true)
  | 13 => ("MistCantonModel", "codes", "I", false)
  | 14 => ("MistCantonModel", "names", "[J", true)
  | 15 => ("MistCantonModel", "readNames", "[J", true)
  | 16 => ("MistCantonModel", "nameOf", "[I", true)
  | 17 => ("MistCantonModel", "readNameOf", "[I", true)
  | 18 => ("MistCantonModel", "namesMany", "I", false)
  | 19 => ("MistCantonModel", "readMany", "I", false)
  | 20 => ("MistCantonModel", "once", "I", false)
  | 21 => ("MistCantonModel", "lines", "[I", true)
  | 22 => ("MistCantonModel", "facts", "[I", true)
  | 23 => ("MistCantonModel", "pile", "[I", true)
  | 24 => ("MistCantonModel", "state", "[I", true)
  | 25 => ("MistCantonModel", "undos", "I", false)
  | 26 => ("MistCantonModel", "isMarked", "[Z", true)
  | 27 => ("MistCantonModel", "ons", "[I", true)
  | 28 => ("MistCantonModel", "goers", "I", false)
  | 29 => ("MistCantonModel", "alike", "[I", true)
  | _ => ("MistCantonModel", "g", "J", false)
def tyX11 : Nat → FieldType := fun k => match k with
  | 0 => .int
  | 1 => .array .int
  | 2 => .int
  | 3 => .int
  | 4 => .array .int
  | 5 => .array .int
  | 6 => .array .long
  | 7 => .int
  | 8 => .int
  | 9 => .array .long
  | 10 => .array .int
  | 11 => .array .int
  | 12 => .array .int
  | 13 => .int
  | 14 => .array .long
  | 15 => .array .long
  | 16 => .array .int
  | 17 => .array .int
  | 18 => .int
  | 19 => .int
  | 20 => .int
  | 21 => .array .int
  | 22 => .array .int
  | 23 => .array .int
  | 24 => .array .int
  | 25 => .int
  | 26 => .array .boolean
  | 27 => .array .int
  | 28 => .int
  | 29 => .array .int
  | _ => .long
theorem nmX11 : ∀ a, a < 31 → ∀ b, b < 31 → a ≠ b → (TX11 a).2.1 ≠ (TX11 b).2.1 := by decide +kernel
theorem tyX11_ok : ∀ k, k < 31 → parseFieldDescriptor (TX11 k).2.2.1 = some (tyX11 k) := by decide +kernel
abbrev vwCl : List vw_C := [(RX0, TX0, 13), (RX1, TX1, 2), (RX2, TX2, 3), (RX3, TX3, 3), (RX4, TX4, 1), (RX5, TX5, 4), (RX6, TX6, 6), (RX7, TX7, 8), (RX8, TX8, 4), (RX9, TX9, 1), (RX10, TX10, 14), (RX11, TX11, 31)]
def am_kds : List (List Nat) := [[0, 2, 2, 2, 0, 2, 2, 2, 2, 0, 0, 0, 2], [2, 2], [2, 0, 0], [2, 2, 0], [2], [0, 2, 0, 0], [0, 0, 2, 2, 2, 2], [2, 0, 0, 0, 0, 1, 0, 0], [2, 2, 2, 0], [2], [2, 2, 2, 2, 2, 2, 2, 2, 2, 2, 2, 2, 0, 0], [0, 2, 0, 0, 2, 2, 2, 0, 0, 2, 2, 2, 2, 0, 2, 2, 2, 2, 0, 0, 0, 2, 2, 2, 2, 0, 2, 2, 0, 2, 1]]
def am_kd (ci k : Nat) : Nat := (am_kds.getD ci []).getD k 0
/-- a word of the tables by its kind -/
def am_isCode : Cond → Option (MethodName × ByteArray × Nat × Option FieldType)
  | .code y b n r => some (y, b, n, r)
  | _ => none
def am_isML : Cond → Option (String × Nat × MethodName)
  | .methodLink a i y => some (a, i, y)
  | _ => none
def am_isFL : Cond → Option (String × Nat × String × String × String)
  | .fieldLink a i b c d => some (a, i, b, c, d)
  | _ => none
def am_isCL : Cond → Option (String × Nat × Int64)
  | .constantLong a i v => some (a, i, v)
  | _ => none
def am_isCI : Cond → Option (String × Nat × Int32)
  | .constant a i v => some (a, i, v)
  | _ => none
def am_isSt : Cond → Option MethodName
  | .static y => some y
  | _ => none
def am_isIn : Cond → Option MethodName
  | .instanceMethod y => some y
  | _ => none
def am_isSe : Cond → Option MethodName
  | .selects c y z => bif (decide (c = y.cls) && decide (y = z)) then some y else none
  | _ => none
def am_isIi : Cond → Option String
  | .initialized c => some c
  | _ => none
/-- all methods of the tables, numbered -/
def am_mi_0 : List (MethodName × ByteArray × Nat × Option FieldType) := [(⟨"MistCanton", "<init>", "()V"⟩, prog_1_method_1_code, 2, (Option.none : Option Jvm.ClassFile.FieldType)),
  (⟨"java/lang/Object", "<init>", "()V"⟩, object_method_1_code, 1, (Option.none : Option Jvm.ClassFile.FieldType)),
  (⟨"MistCanton$Tape", "<init>", "()V"⟩, prog_9_method_1_code, 1, (Option.none : Option Jvm.ClassFile.FieldType)),
  (⟨"MistCanton$CantonReader", "<init>", "(LMistCanton$Tape;)V"⟩, prog_3_method_1_code, 2, (Option.none : Option Jvm.ClassFile.FieldType)),
  (⟨"MistCanton$LawReader", "<init>", "(LMistCanton$Tape;)V"⟩, prog_6_method_1_code, 2, (Option.none : Option Jvm.ClassFile.FieldType)),
  (⟨"MistCanton$WeekReader", "<init>", "(LMistCanton$Tape;)V"⟩, prog_11_method_1_code, 2, (Option.none : Option Jvm.ClassFile.FieldType)),
  (⟨"MistCanton$Canton", "<init>", "()V"⟩, prog_2_method_1_code, 1, (Option.none : Option Jvm.ClassFile.FieldType)),
  (⟨"MistCanton$Law", "<init>", "()V"⟩, prog_5_method_1_code, 1, (Option.none : Option Jvm.ClassFile.FieldType)),
  (⟨"MistCanton$Week", "<init>", "()V"⟩, prog_10_method_1_code, 1, (Option.none : Option Jvm.ClassFile.FieldType)),
  (⟨"MistCanton$State", "<init>", "()V"⟩, prog_8_method_1_code, 1, (Option.none : Option Jvm.ClassFile.FieldType)),
  (⟨"MistCanton$History", "<init>", "()V"⟩, prog_4_method_1_code, 2, (Option.none : Option Jvm.ClassFile.FieldType)),
  (⟨"MistCanton$Mark", "<init>", "()V"⟩, prog_7_method_1_code, 1, (Option.none : Option Jvm.ClassFile.FieldType)),
  (⟨"MistCanton", "feed", "(JJJ)I"⟩, prog_1_method_2_code, 7, (Option.some Jvm.ClassFile.FieldType.int)),
  (⟨"MistCanton$Tape", "append", "(J)V"⟩, prog_9_method_2_code, 6, (Option.none : Option Jvm.ClassFile.FieldType)),
  (⟨"MistCanton", "canton", "()I"⟩, prog_1_method_3_code, 3, (Option.some Jvm.ClassFile.FieldType.int)),
  (⟨"MistCanton$CantonReader", "readInto", "(LMistCanton$Canton;)I"⟩, prog_3_method_2_code, 4, (Option.some Jvm.ClassFile.FieldType.int)),
  (⟨"MistCanton$Canton", "clear", "()V"⟩, prog_2_method_2_code, 1, (Option.none : Option Jvm.ClassFile.FieldType)),
  (⟨"MistCanton$Tape", "begin", "()V"⟩, prog_9_method_3_code, 1, (Option.none : Option Jvm.ClassFile.FieldType)),
  (⟨"MistCanton$Tape", "step", "()V"⟩, prog_9_method_4_code, 1, (Option.none : Option Jvm.ClassFile.FieldType)),
  (⟨"MistCanton$Tape", "stepWord", "()V"⟩, prog_9_method_5_code, 1, (Option.none : Option Jvm.ClassFile.FieldType)),
  (⟨"MistCanton$Tape", "stepNumber", "()V"⟩, prog_9_method_6_code, 1, (Option.none : Option Jvm.ClassFile.FieldType)),
  (⟨"java/lang/String", "indexOf", "(I)I"⟩, prog_22_method_79_code, 2, (Option.some Jvm.ClassFile.FieldType.int)),
  (⟨"java/lang/String", "indexOf", "(II)I"⟩, prog_22_method_80_code, 3, (Option.some Jvm.ClassFile.FieldType.int)),
  (⟨"java/lang/String", "isLatin1", "()Z"⟩, prog_22_method_154_code, 1, (Option.some Jvm.ClassFile.FieldType.boolean)),
  (⟨"java/lang/String", "length", "()I"⟩, prog_22_method_54_code, 1, (Option.some Jvm.ClassFile.FieldType.int)),
  (⟨"java/lang/String", "coder", "()B"⟩, prog_22_method_152_code, 1, (Option.some Jvm.ClassFile.FieldType.byte)),
  (⟨"java/lang/StringLatin1", "indexOf", "([BIII)I"⟩, prog_23_method_22_code, 4, (Option.some Jvm.ClassFile.FieldType.int)),
  (⟨"java/lang/StringLatin1", "canEncode", "(I)Z"⟩, prog_23_method_4_code, 1, (Option.some Jvm.ClassFile.FieldType.boolean)),
  (⟨"java/lang/Math", "max", "(II)I"⟩, prog_20_method_65_code, 2, (Option.some Jvm.ClassFile.FieldType.int)),
  (⟨"java/lang/Math", "min", "(II)I"⟩, prog_20_method_69_code, 2, (Option.some Jvm.ClassFile.FieldType.int)),
  (⟨"java/lang/StringLatin1", "indexOfChar", "([BIII)I"⟩, prog_23_method_23_code, 6, (Option.some Jvm.ClassFile.FieldType.int)),
  (⟨"java/lang/StringUTF16", "indexOf", "([BIII)I"⟩, prog_24_method_40_code, 4, (Option.some Jvm.ClassFile.FieldType.int)),
  (⟨"java/lang/StringUTF16", "indexOfChar", "([BIII)I"⟩, prog_24_method_47_code, 4, (Option.some Jvm.ClassFile.FieldType.int)),
  (⟨"java/lang/StringUTF16", "checkBoundsBeginEnd", "(II[B)V"⟩, prog_24_method_93_code, 3, (Option.none : Option Jvm.ClassFile.FieldType)),
  (⟨"java/lang/StringUTF16", "length", "([B)I"⟩, prog_24_method_6_code, 1, (Option.some Jvm.ClassFile.FieldType.int)),
  (⟨"java/lang/String", "checkBoundsBeginEnd", "(III)V"⟩, prog_22_method_158_code, 3, (Option.none : Option Jvm.ClassFile.FieldType)),
  (⟨"jdk/internal/util/Preconditions", "checkFromToIndex", "(IIILjava/util/function/BiFunction;)I"⟩, prog_29_method_12_code, 4, (Option.some Jvm.ClassFile.FieldType.int)),
  (⟨"java/lang/StringUTF16", "indexOfCharUnsafe", "([BIII)I"⟩, prog_24_method_48_code, 5, (Option.some Jvm.ClassFile.FieldType.int)),
  (⟨"java/lang/StringUTF16", "getChar", "([BI)C"⟩, prog_24_method_5_code, 2, (Option.some Jvm.ClassFile.FieldType.char)),
  (⟨"java/lang/StringUTF16", "indexOfSupplementary", "([BIII)I"⟩, prog_24_method_49_code, 7, (Option.some Jvm.ClassFile.FieldType.int))]
def am_mi_1 : List (MethodName × ByteArray × Nat × Option FieldType) := [(⟨"java/lang/Character", "isValidCodePoint", "(I)Z"⟩, prog_16_method_11_code, 2, (Option.some Jvm.ClassFile.FieldType.boolean)),
  (⟨"java/lang/Character", "highSurrogate", "(I)C"⟩, prog_16_method_28_code, 1, (Option.some Jvm.ClassFile.FieldType.char)),
  (⟨"java/lang/Character", "lowSurrogate", "(I)C"⟩, prog_16_method_29_code, 1, (Option.some Jvm.ClassFile.FieldType.char)),
  (⟨"MistCanton$CantonReader", "readLine", "(LMistCanton$Canton;)Z"⟩, prog_3_method_3_code, 2, (Option.some Jvm.ClassFile.FieldType.boolean)),
  (⟨"MistCanton$Tape", "isWord", "(Ljava/lang/String;)Z"⟩, prog_9_method_7_code, 5, (Option.some Jvm.ClassFile.FieldType.boolean)),
  (⟨"java/lang/String", "charAt", "(I)C"⟩, prog_22_method_56_code, 2, (Option.some Jvm.ClassFile.FieldType.char)),
  (⟨"java/lang/StringLatin1", "charAt", "([BI)C"⟩, prog_23_method_2_code, 2, (Option.some Jvm.ClassFile.FieldType.char)),
  (⟨"java/lang/String", "checkIndex", "(II)V"⟩, prog_22_method_155_code, 2, (Option.none : Option Jvm.ClassFile.FieldType)),
  (⟨"jdk/internal/util/Preconditions", "checkIndex", "(IILjava/util/function/BiFunction;)I"⟩, prog_29_method_11_code, 3, (Option.some Jvm.ClassFile.FieldType.int)),
  (⟨"java/lang/StringUTF16", "charAt", "([BI)C"⟩, prog_24_method_83_code, 2, (Option.some Jvm.ClassFile.FieldType.char)),
  (⟨"java/lang/StringUTF16", "checkIndex", "(I[B)V"⟩, prog_24_method_91_code, 2, (Option.none : Option Jvm.ClassFile.FieldType)),
  (⟨"MistCanton$CantonReader", "readPerson", "(LMistCanton$Canton;)Z"⟩, prog_3_method_5_code, 4, (Option.some Jvm.ClassFile.FieldType.boolean)),
  (⟨"MistCanton$Tape", "refuse", "(I)Z"⟩, prog_9_method_10_code, 2, (Option.some Jvm.ClassFile.FieldType.boolean)),
  (⟨"MistCanton$CantonReader", "findFreshName", "(LMistCanton$Canton;)Z"⟩, prog_3_method_4_code, 3, (Option.some Jvm.ClassFile.FieldType.boolean)),
  (⟨"MistCanton$Tape", "isName", "()Z"⟩, prog_9_method_9_code, 4, (Option.some Jvm.ClassFile.FieldType.boolean)),
  (⟨"MistCanton$Canton", "personNamed", "(J)I"⟩, prog_2_method_3_code, 4, (Option.some Jvm.ClassFile.FieldType.int)),
  (⟨"MistCanton$Canton", "eventNamed", "(J)I"⟩, prog_2_method_4_code, 4, (Option.some Jvm.ClassFile.FieldType.int)),
  (⟨"MistCanton$CantonReader", "kindAtHand", "()I"⟩, prog_3_method_6_code, 1, (Option.some Jvm.ClassFile.FieldType.int)),
  (⟨"MistCanton$Tape", "takeWord", "(Ljava/lang/String;)Z"⟩, prog_9_method_11_code, 2, (Option.some Jvm.ClassFile.FieldType.boolean)),
  (⟨"MistCanton$Tape", "findNumber", "(II)Z"⟩, prog_9_method_13_code, 3, (Option.some Jvm.ClassFile.FieldType.boolean)),
  (⟨"MistCanton", "isWithin", "(III)Z"⟩, prog_1_method_11_code, 3, (Option.some Jvm.ClassFile.FieldType.boolean)),
  (⟨"MistCanton$Tape", "takeSign", "(C)Z"⟩, prog_9_method_12_code, 2, (Option.some Jvm.ClassFile.FieldType.boolean)),
  (⟨"MistCanton$Tape", "isSign", "(C)Z"⟩, prog_9_method_8_code, 2, (Option.some Jvm.ClassFile.FieldType.boolean)),
  (⟨"MistCanton$CantonReader", "readEvent", "(LMistCanton$Canton;)Z"⟩, prog_3_method_7_code, 3, (Option.some Jvm.ClassFile.FieldType.boolean)),
  (⟨"MistCanton$CantonReader", "readComes", "(LMistCanton$Canton;)Z"⟩, prog_3_method_8_code, 4, (Option.some Jvm.ClassFile.FieldType.boolean)),
  (⟨"MistCanton", "hasBit", "(II)Z"⟩, prog_1_method_12_code, 2, (Option.some Jvm.ClassFile.FieldType.boolean)),
  (⟨"MistCanton$CantonReader", "readSnow", "(LMistCanton$Canton;)Z"⟩, prog_3_method_9_code, 4, (Option.some Jvm.ClassFile.FieldType.boolean)),
  (⟨"MistCanton$CantonReader", "readSnowDay", "(LMistCanton$Canton;)Z"⟩, prog_3_method_10_code, 3, (Option.some Jvm.ClassFile.FieldType.boolean)),
  (⟨"MistCanton$Canton", "snows", "(I)Z"⟩, prog_2_method_5_code, 2, (Option.some Jvm.ClassFile.FieldType.boolean)),
  (⟨"java/lang/Integer", "bitCount", "(I)I"⟩, prog_19_method_49_code, 1, (Option.some Jvm.ClassFile.FieldType.int)),
  (⟨"MistCanton$LawReader", "readGoes", "(LMistCanton$Canton;)Z"⟩, prog_6_method_2_code, 2, (Option.some Jvm.ClassFile.FieldType.boolean)),
  (⟨"MistCanton$LawReader", "readLaw", "(LMistCanton$Law;I)Z"⟩, prog_6_method_3_code, 6, (Option.some Jvm.ClassFile.FieldType.boolean)),
  (⟨"MistCanton$LawReader", "readTest", "(LMistCanton$Law;I)Z"⟩, prog_6_method_4_code, 5, (Option.some Jvm.ClassFile.FieldType.boolean)),
  (⟨"MistCanton$LawReader", "readSum", "(LMistCanton$Law;I)Z"⟩, prog_6_method_5_code, 6, (Option.some Jvm.ClassFile.FieldType.boolean)),
  (⟨"MistCanton$LawReader", "readProduct", "(LMistCanton$Law;I)Z"⟩, prog_6_method_6_code, 5, (Option.some Jvm.ClassFile.FieldType.boolean)),
  (⟨"MistCanton$LawReader", "readPart", "(LMistCanton$Law;I)Z"⟩, prog_6_method_7_code, 7, (Option.some Jvm.ClassFile.FieldType.boolean)),
  (⟨"MistCanton$LawReader", "factAtHand", "()I"⟩, prog_6_method_8_code, 1, (Option.some Jvm.ClassFile.FieldType.int)),
  (⟨"MistCanton$Law", "add", "(I)V"⟩, prog_5_method_2_code, 2, (Option.none : Option Jvm.ClassFile.FieldType)),
  (⟨"MistCanton", "beginAnew", "()V"⟩, prog_1_method_5_code, 2, (Option.none : Option Jvm.ClassFile.FieldType)),
  (⟨"MistCanton$State", "begin", "(LMistCanton$Canton;)V"⟩, prog_8_method_2_code, 3, (Option.none : Option Jvm.ClassFile.FieldType))]
def am_mi_2 : List (MethodName × ByteArray × Nat × Option FieldType) := [(⟨"MistCanton", "week", "()I"⟩, prog_1_method_4_code, 3, (Option.some Jvm.ClassFile.FieldType.int)),
  (⟨"MistCanton$WeekReader", "readInto", "(LMistCanton$Week;LMistCanton$Canton;)I"⟩, prog_11_method_2_code, 5, (Option.some Jvm.ClassFile.FieldType.int)),
  (⟨"MistCanton$WeekReader", "readLine", "(LMistCanton$Week;LMistCanton$Canton;)Z"⟩, prog_11_method_3_code, 5, (Option.some Jvm.ClassFile.FieldType.boolean)),
  (⟨"MistCanton$WeekReader", "actAtHand", "()I"⟩, prog_11_method_4_code, 1, (Option.some Jvm.ClassFile.FieldType.int)),
  (⟨"MistCanton$WeekReader", "readPerson", "(LMistCanton$Week;LMistCanton$Canton;)Z"⟩, prog_11_method_5_code, 4, (Option.some Jvm.ClassFile.FieldType.boolean)),
  (⟨"MistCanton$WeekReader", "readLot", "(LMistCanton$Week;)Z"⟩, prog_11_method_6_code, 2, (Option.some Jvm.ClassFile.FieldType.boolean)),
  (⟨"MistCanton", "person", "(II)I"⟩, prog_1_method_6_code, 3, (Option.some Jvm.ClassFile.FieldType.int)),
  (⟨"MistCanton", "isPerson", "(I)Z"⟩, prog_1_method_9_code, 2, (Option.some Jvm.ClassFile.FieldType.boolean)),
  (⟨"MistCanton$Canton", "weekdayTo", "(ILMistCanton$State;Z)I"⟩, prog_2_method_7_code, 5, (Option.some Jvm.ClassFile.FieldType.int)),
  (⟨"MistCanton$Canton", "offOf", "(ILMistCanton$State;)I"⟩, prog_2_method_6_code, 3, (Option.some Jvm.ClassFile.FieldType.int)),
  (⟨"java/lang/Math", "floorMod", "(II)I"⟩, prog_20_method_50_code, 3, (Option.some Jvm.ClassFile.FieldType.int)),
  (⟨"MistCanton$Canton", "eventsOf", "(I)I"⟩, prog_2_method_8_code, 4, (Option.some Jvm.ClassFile.FieldType.int)),
  (⟨"MistCanton", "event", "(II)I"⟩, prog_1_method_7_code, 3, (Option.some Jvm.ClassFile.FieldType.int)),
  (⟨"MistCanton", "isEvent", "(I)Z"⟩, prog_1_method_10_code, 2, (Option.some Jvm.ClassFile.FieldType.boolean)),
  (⟨"MistCanton", "count", "(I)I"⟩, prog_1_method_8_code, 2, (Option.some Jvm.ClassFile.FieldType.int)),
  (⟨"MistCanton$State", "heldInAll", "()I"⟩, prog_8_method_7_code, 3, (Option.some Jvm.ClassFile.FieldType.int)),
  (⟨"MistCanton$State", "pairsMet", "()I"⟩, prog_8_method_8_code, 3, (Option.some Jvm.ClassFile.FieldType.int)),
  (⟨"MistCanton", "day", "()I"⟩, prog_1_method_13_code, 1, (Option.some Jvm.ClassFile.FieldType.int)),
  (⟨"MistCanton$History", "keep", "(LMistCanton$State;)V"⟩, prog_4_method_2_code, 2, (Option.none : Option Jvm.ClassFile.FieldType)),
  (⟨"MistCanton$State", "copy", "(LMistCanton$State;)V"⟩, prog_8_method_3_code, 3, (Option.none : Option Jvm.ClassFile.FieldType)),
  (⟨"MistCanton$Canton", "passDay", "(LMistCanton$State;Z)I"⟩, prog_2_method_11_code, 5, (Option.some Jvm.ClassFile.FieldType.int)),
  (⟨"MistCanton$Canton", "gather", "(LMistCanton$State;Z)V"⟩, prog_2_method_12_code, 6, (Option.none : Option Jvm.ClassFile.FieldType)),
  (⟨"MistCanton$Canton", "drawing", "(II)I"⟩, prog_2_method_13_code, 5, (Option.some Jvm.ClassFile.FieldType.int)),
  (⟨"MistCanton$Canton", "isDayOf", "(III)Z"⟩, prog_2_method_14_code, 3, (Option.some Jvm.ClassFile.FieldType.boolean)),
  (⟨"MistCanton$Canton", "goesOut", "(ILMistCanton$State;Z)Z"⟩, prog_2_method_15_code, 5, (Option.some Jvm.ClassFile.FieldType.boolean)),
  (⟨"MistCanton$Law", "value", "(IIII)I"⟩, prog_5_method_3_code, 8, (Option.some Jvm.ClassFile.FieldType.int)),
  (⟨"MistCanton$Law", "fact", "(IIIII)I"⟩, prog_5_method_4_code, 5, (Option.some Jvm.ClassFile.FieldType.int)),
  (⟨"MistCanton$Law", "joined", "(III)I"⟩, prog_5_method_5_code, 3, (Option.some Jvm.ClassFile.FieldType.int)),
  (⟨"MistCanton$State", "introduce", "(I)V"⟩, prog_8_method_5_code, 3, (Option.none : Option Jvm.ClassFile.FieldType)),
  (⟨"MistCanton", "lot", "(II)I"⟩, prog_1_method_14_code, 4, (Option.some Jvm.ClassFile.FieldType.int)),
  (⟨"MistCanton", "ask", "(I)I"⟩, prog_1_method_15_code, 2, (Option.some Jvm.ClassFile.FieldType.int)),
  (⟨"MistCanton$State", "answer", "(I)V"⟩, prog_8_method_4_code, 2, (Option.none : Option Jvm.ClassFile.FieldType)),
  (⟨"MistCanton", "undo", "()Z"⟩, prog_1_method_16_code, 1, (Option.some Jvm.ClassFile.FieldType.boolean)),
  (⟨"MistCanton$History", "bringBack", "(LMistCanton$State;)Z"⟩, prog_4_method_3_code, 2, (Option.some Jvm.ClassFile.FieldType.boolean)),
  (⟨"MistCanton", "mark", "(IZ)Z"⟩, prog_1_method_17_code, 4, (Option.some Jvm.ClassFile.FieldType.boolean)),
  (⟨"MistCanton$Mark", "lay", "(LMistCanton$State;II)V"⟩, prog_7_method_2_code, 4, (Option.none : Option Jvm.ClassFile.FieldType)),
  (⟨"MistCanton", "judged", "(I)I"⟩, prog_1_method_18_code, 6, (Option.some Jvm.ClassFile.FieldType.int)),
  (⟨"MistCanton", "followLine", "(I)I"⟩, prog_1_method_19_code, 3, (Option.some Jvm.ClassFile.FieldType.int)),
  (⟨"MistCanton", "passAhead", "()I"⟩, prog_1_method_20_code, 1, (Option.some Jvm.ClassFile.FieldType.int)),
  (⟨"MistCanton", "attends", "(II)I"⟩, prog_1_method_21_code, 4, (Option.some Jvm.ClassFile.FieldType.int))]
def am_mi_3 : List (MethodName × ByteArray × Nat × Option FieldType) := [(⟨"MistCanton", "next", "(II)I"⟩, prog_1_method_22_code, 4, (Option.some Jvm.ClassFile.FieldType.int)),
  (⟨"MistCanton", "quorum", "(I)I"⟩, prog_1_method_23_code, 3, (Option.some Jvm.ClassFile.FieldType.int)),
  (⟨"MistCanton", "held", "(II)I"⟩, prog_1_method_24_code, 3, (Option.some Jvm.ClassFile.FieldType.int)),
  (⟨"MistCanton", "timesHeld", "(II)I"⟩, prog_1_method_25_code, 4, (Option.some Jvm.ClassFile.FieldType.int)),
  (⟨"MistCanton", "last", "(I)I"⟩, prog_1_method_26_code, 4, (Option.some Jvm.ClassFile.FieldType.int)),
  (⟨"MistCanton", "meet", "(II)I"⟩, prog_1_method_27_code, 4, (Option.some Jvm.ClassFile.FieldType.int)),
  (⟨"MistCanton", "idle", "(I)I"⟩, prog_1_method_28_code, 4, (Option.some Jvm.ClassFile.FieldType.int)),
  (⟨"MistCanton$State", "comings", "()I"⟩, prog_8_method_9_code, 3, (Option.some Jvm.ClassFile.FieldType.int)),
  (⟨"MistCanton", "busy", "()I"⟩, prog_1_method_29_code, 5, (Option.some Jvm.ClassFile.FieldType.int)),
  (⟨"MistCanton", "family", "(I)I"⟩, prog_1_method_30_code, 4, (Option.some Jvm.ClassFile.FieldType.int)),
  (⟨"MistCanton", "lonely", "()I"⟩, prog_1_method_31_code, 3, (Option.some Jvm.ClassFile.FieldType.int)),
  (⟨"MistCanton", "move", "(I)I"⟩, prog_1_method_32_code, 7, (Option.some Jvm.ClassFile.FieldType.int)),
  (⟨"MistCanton", "twins", "()I"⟩, prog_1_method_33_code, 4, (Option.some Jvm.ClassFile.FieldType.int)),
  (⟨"MistCanton$State", "othersThan", "(I)I"⟩, prog_8_method_6_code, 4, (Option.some Jvm.ClassFile.FieldType.int)),
  (⟨"MistCanton", "chance", "(III)I"⟩, prog_1_method_34_code, 6, (Option.some Jvm.ClassFile.FieldType.int)),
  (⟨"MistCanton", "isHeldUnder", "(III)Z"⟩, prog_1_method_35_code, 5, (Option.some Jvm.ClassFile.FieldType.boolean)),
  (⟨"MistCanton", "weight", "(III)I"⟩, prog_1_method_36_code, 5, (Option.some Jvm.ClassFile.FieldType.int)),
  (⟨"MistCanton", "years", "(III)I"⟩, prog_1_method_37_code, 7, (Option.some Jvm.ClassFile.FieldType.int)),
  (⟨"MistCanton", "drawLots", "(J)J"⟩, prog_1_method_38_code, 7, (Option.some Jvm.ClassFile.FieldType.long)),
  (⟨"MistCanton", "drawn", "(J)J"⟩, prog_1_method_39_code, 2, (Option.some Jvm.ClassFile.FieldType.long)),
  (⟨"MistCanton", "below", "(JI)I"⟩, prog_1_method_40_code, 3, (Option.some Jvm.ClassFile.FieldType.int)),
  (⟨"MistCanton", "group", "(I)I"⟩, prog_1_method_41_code, 5, (Option.some Jvm.ClassFile.FieldType.int)),
  (⟨"MistCanton", "personsOf", "(I)I"⟩, prog_1_method_42_code, 4, (Option.some Jvm.ClassFile.FieldType.int)),
  (⟨"MistCanton", "least", "(II)I"⟩, prog_1_method_43_code, 7, (Option.some Jvm.ClassFile.FieldType.int)),
  (⟨"MistCanton", "costOf", "(II)I"⟩, prog_1_method_44_code, 7, (Option.some Jvm.ClassFile.FieldType.int)),
  (⟨"MistCanton", "guestsAt", "(III)I"⟩, prog_1_method_45_code, 7, (Option.some Jvm.ClassFile.FieldType.int)),
  (⟨"java/lang/Math", "abs", "(I)I"⟩, prog_20_method_59_code, 1, (Option.some Jvm.ClassFile.FieldType.int)),
  (⟨"MistCanton", "leads", "(I)I"⟩, prog_1_method_46_code, 2, (Option.some Jvm.ClassFile.FieldType.int)),
  (⟨"MistCanton", "see", "(IIZ)Z"⟩, prog_1_method_47_code, 5, (Option.some Jvm.ClassFile.FieldType.boolean)),
  (⟨"MistCanton$Canton", "lotsComing", "(II)I"⟩, prog_2_method_10_code, 6, (Option.some Jvm.ClassFile.FieldType.int)),
  (⟨"MistCanton", "lots", "()I"⟩, prog_1_method_48_code, 1, (Option.some Jvm.ClassFile.FieldType.int)),
  (⟨"MistCanton", "look", "()I"⟩, prog_1_method_49_code, 8, (Option.some Jvm.ClassFile.FieldType.int)),
  (⟨"MistCanton", "guess", "()I"⟩, prog_1_method_51_code, 5, (Option.some Jvm.ClassFile.FieldType.int)),
  (⟨"MistCanton", "personsAt", "(I)I"⟩, prog_1_method_50_code, 5, (Option.some Jvm.ClassFile.FieldType.int)),
  (⟨"MistCanton", "wrong", "()I"⟩, prog_1_method_52_code, 2, (Option.some Jvm.ClassFile.FieldType.int)),
  (⟨"MistCanton", "spread", "()I"⟩, prog_1_method_53_code, 3, (Option.some Jvm.ClassFile.FieldType.int)),
  (⟨"MistCanton", "pairs", "()I"⟩, prog_1_method_54_code, 4, (Option.some Jvm.ClassFile.FieldType.int)),
  (⟨"MistCanton", "right", "()I"⟩, prog_1_method_55_code, 1, (Option.some Jvm.ClassFile.FieldType.int)),
  (⟨"MistCanton", "steady", "()I"⟩, prog_1_method_56_code, 5, (Option.some Jvm.ClassFile.FieldType.int)),
  (⟨"MistCanton", "daysRight", "(I)I"⟩, prog_1_method_57_code, 4, (Option.some Jvm.ClassFile.FieldType.int))]
def am_mi_4 : List (MethodName × ByteArray × Nat × Option FieldType) := [(⟨"MistCanton", "through", "(II)I"⟩, prog_1_method_58_code, 5, (Option.some Jvm.ClassFile.FieldType.int)),
  (⟨"MistCanton", "withTheirs", "(I)I"⟩, prog_1_method_59_code, 4, (Option.some Jvm.ClassFile.FieldType.int)),
  (⟨"MistCanton", "wedded", "()I"⟩, prog_1_method_60_code, 3, (Option.some Jvm.ClassFile.FieldType.int)),
  (⟨"MistCanton", "circles", "()I"⟩, prog_1_method_61_code, 4, (Option.some Jvm.ClassFile.FieldType.int)),
  (⟨"MistCanton", "circleOf", "(I)I"⟩, prog_1_method_62_code, 4, (Option.some Jvm.ClassFile.FieldType.int)),
  (⟨"MistCanton", "shared", "(II)I"⟩, prog_1_method_63_code, 3, (Option.some Jvm.ClassFile.FieldType.int)),
  (⟨"MistCanton", "cover", "()I"⟩, prog_1_method_64_code, 4, (Option.some Jvm.ClassFile.FieldType.int)),
  (⟨"MistCanton$Canton", "guestsOf", "(I)I"⟩, prog_2_method_9_code, 4, (Option.some Jvm.ClassFile.FieldType.int)),
  (⟨"MistCanton", "rests", "(IIII)I"⟩, prog_1_method_65_code, 9, (Option.some Jvm.ClassFile.FieldType.int)),
  (⟨"java/lang/Throwable", "<init>", "()V"⟩, prog_25_method_1_code, 1, (Option.none : Option Jvm.ClassFile.FieldType)),
  (⟨"java/util/NoSuchElementException", "<init>", "(Ljava/lang/String;)V"⟩, prog_28_method_4_code, 2, (Option.none : Option Jvm.ClassFile.FieldType)),
  (⟨"java/lang/RuntimeException", "<init>", "(Ljava/lang/String;)V"⟩, prog_21_method_2_code, 2, (Option.none : Option Jvm.ClassFile.FieldType)),
  (⟨"java/lang/Exception", "<init>", "(Ljava/lang/String;)V"⟩, prog_18_method_2_code, 2, (Option.none : Option Jvm.ClassFile.FieldType)),
  (⟨"java/lang/Throwable", "<init>", "(Ljava/lang/String;)V"⟩, prog_25_method_2_code, 2, (Option.none : Option Jvm.ClassFile.FieldType)),
  (⟨"MistCanton", "staysWith", "(IIIII)Z"⟩, prog_1_method_66_code, 5, (Option.some Jvm.ClassFile.FieldType.boolean)),
  (⟨"MistCanton", "gain", "(IIIII)I"⟩, prog_1_method_67_code, 5, (Option.some Jvm.ClassFile.FieldType.int)),
  (⟨"MistCantonModel", "thrown", "()I"⟩, prog_13_method_1_code, 1, (Option.some Jvm.ClassFile.FieldType.int)),
  (⟨"MistCantonModel", "feed", "(JJJ)I"⟩, prog_13_method_2_code, 7, (Option.some Jvm.ClassFile.FieldType.int)),
  (⟨"MistCantonModel", "lay", "(J)V"⟩, prog_13_method_3_code, 5, (Option.none : Option Jvm.ClassFile.FieldType)),
  (⟨"MistCantonModel", "<init>", "()V"⟩, prog_13_method_4_code, 1, (Option.none : Option Jvm.ClassFile.FieldType)),
  (⟨"MistCantonModel", "standsAsAlways", "(I)V"⟩, prog_13_method_18_code, 3, (Option.none : Option Jvm.ClassFile.FieldType)),
  (⟨"MistCantonModel", "begins", "()V"⟩, prog_13_method_43_code, 2, (Option.none : Option Jvm.ClassFile.FieldType)),
  (⟨"MistCantonModel", "onsAsTold", "()V"⟩, prog_13_method_42_code, 2, (Option.none : Option Jvm.ClassFile.FieldType)),
  (⟨"MistCantonModel", "events", "()I"⟩, prog_13_method_46_code, 1, (Option.some Jvm.ClassFile.FieldType.int)),
  (⟨"MistCantonModel", "eventOf", "(II)I"⟩, prog_13_method_48_code, 3, (Option.some Jvm.ClassFile.FieldType.int)),
  (⟨"MistCantonModel", "starts", "(I)V"⟩, prog_13_method_41_code, 3, (Option.none : Option Jvm.ClassFile.FieldType)),
  (⟨"MistCantonModel", "persons", "()I"⟩, prog_13_method_45_code, 1, (Option.some Jvm.ClassFile.FieldType.int)),
  (⟨"MistCantonModel", "personOf", "(II)I"⟩, prog_13_method_47_code, 3, (Option.some Jvm.ClassFile.FieldType.int)),
  (⟨"MistCantonModel", "canton", "()I"⟩, prog_13_method_26_code, 2, (Option.some Jvm.ClassFile.FieldType.int)),
  (⟨"MistCantonModel", "cutAll", "()V"⟩, prog_13_method_9_code, 7, (Option.none : Option Jvm.ClassFile.FieldType)),
  (⟨"MistCantonModel", "isLetter", "(I)Z"⟩, prog_13_method_5_code, 1, (Option.some Jvm.ClassFile.FieldType.boolean)),
  (⟨"MistCantonModel", "rank", "(I)I"⟩, prog_13_method_7_code, 1, (Option.some Jvm.ClassFile.FieldType.int)),
  (⟨"MistCantonModel", "isDigit", "(I)Z"⟩, prog_13_method_6_code, 1, (Option.some Jvm.ClassFile.FieldType.boolean)),
  (⟨"MistCantonModel", "isSignOf", "(I)Z"⟩, prog_13_method_8_code, 1, (Option.some Jvm.ClassFile.FieldType.boolean)),
  (⟨"MistCantonModel", "readLine", "()V"⟩, prog_13_method_27_code, 4, (Option.none : Option Jvm.ClassFile.FieldType)),
  (⟨"MistCantonModel", "isWord", "(I)Z"⟩, prog_13_method_12_code, 2, (Option.some Jvm.ClassFile.FieldType.boolean)),
  (⟨"MistCantonModel", "readName", "(III)V"⟩, prog_13_method_28_code, 5, (Option.none : Option Jvm.ClassFile.FieldType)),
  (⟨"MistCantonModel", "wrong", "(I)V"⟩, prog_13_method_10_code, 2, (Option.none : Option Jvm.ClassFile.FieldType)),
  (⟨"MistCantonModel", "isName", "()Z"⟩, prog_13_method_23_code, 1, (Option.some Jvm.ClassFile.FieldType.boolean)),
  (⟨"MistCantonModel", "wordHere", "(II)I"⟩, prog_13_method_21_code, 5, (Option.some Jvm.ClassFile.FieldType.int))]
def am_mi_5 : List (MethodName × ByteArray × Nat × Option FieldType) := [(⟨"MistCantonModel", "nameAt", "(Z)I"⟩, prog_13_method_24_code, 3, (Option.some Jvm.ClassFile.FieldType.int)),
  (⟨"MistCantonModel", "takeOne", "(II)I"⟩, prog_13_method_22_code, 4, (Option.some Jvm.ClassFile.FieldType.int)),
  (⟨"MistCantonModel", "takeAfter", "(III)I"⟩, prog_13_method_20_code, 4, (Option.some Jvm.ClassFile.FieldType.int)),
  (⟨"MistCantonModel", "takeWord", "(I)V"⟩, prog_13_method_16_code, 2, (Option.none : Option Jvm.ClassFile.FieldType)),
  (⟨"MistCantonModel", "hasWord", "(I)Z"⟩, prog_13_method_15_code, 3, (Option.some Jvm.ClassFile.FieldType.boolean)),
  (⟨"MistCantonModel", "takeNumber", "(II)I"⟩, prog_13_method_19_code, 3, (Option.some Jvm.ClassFile.FieldType.int)),
  (⟨"MistCantonModel", "takeTold", "(ZII)I"⟩, prog_13_method_25_code, 5, (Option.some Jvm.ClassFile.FieldType.int)),
  (⟨"MistCantonModel", "within", "(III)Z"⟩, prog_13_method_17_code, 3, (Option.some Jvm.ClassFile.FieldType.boolean)),
  (⟨"MistCantonModel", "readOnce", "()V"⟩, prog_13_method_29_code, 2, (Option.none : Option Jvm.ClassFile.FieldType)),
  (⟨"MistCantonModel", "readSnow", "()V"⟩, prog_13_method_30_code, 3, (Option.none : Option Jvm.ClassFile.FieldType)),
  (⟨"MistCantonModel", "whole", "(I)V"⟩, prog_13_method_33_code, 3, (Option.none : Option Jvm.ClassFile.FieldType)),
  (⟨"MistCantonModel", "test", "(I)V"⟩, prog_13_method_34_code, 3, (Option.none : Option Jvm.ClassFile.FieldType)),
  (⟨"MistCantonModel", "sums", "(I)V"⟩, prog_13_method_35_code, 3, (Option.none : Option Jvm.ClassFile.FieldType)),
  (⟨"MistCantonModel", "products", "(I)V"⟩, prog_13_method_36_code, 2, (Option.none : Option Jvm.ClassFile.FieldType)),
  (⟨"MistCantonModel", "takePart", "(I)V"⟩, prog_13_method_37_code, 4, (Option.none : Option Jvm.ClassFile.FieldType)),
  (⟨"MistCantonModel", "isSign", "(I)Z"⟩, prog_13_method_11_code, 2, (Option.some Jvm.ClassFile.FieldType.boolean)),
  (⟨"MistCantonModel", "emit", "(II)V"⟩, prog_13_method_32_code, 3, (Option.none : Option Jvm.ClassFile.FieldType)),
  (⟨"MistCantonModel", "hasSign", "(I)Z"⟩, prog_13_method_14_code, 3, (Option.some Jvm.ClassFile.FieldType.boolean)),
  (⟨"MistCantonModel", "takeSign", "(I)V"⟩, prog_13_method_13_code, 2, (Option.none : Option Jvm.ClassFile.FieldType)),
  (⟨"MistCantonModel", "week", "()I"⟩, prog_13_method_31_code, 4, (Option.some Jvm.ClassFile.FieldType.int)),
  (⟨"MistCantonModel", "person", "(II)I"⟩, prog_13_method_63_code, 3, (Option.some Jvm.ClassFile.FieldType.int)),
  (⟨"MistCantonModel", "isPerson", "(I)Z"⟩, prog_13_method_49_code, 2, (Option.some Jvm.ClassFile.FieldType.boolean)),
  (⟨"MistCantonModel", "toOne", "(I)I"⟩, prog_13_method_62_code, 2, (Option.some Jvm.ClassFile.FieldType.int)),
  (⟨"MistCantonModel", "offOf", "(II)I"⟩, prog_13_method_53_code, 3, (Option.some Jvm.ClassFile.FieldType.int)),
  (⟨"MistCantonModel", "snowOn", "(I)I"⟩, prog_13_method_52_code, 2, (Option.some Jvm.ClassFile.FieldType.int)),
  (⟨"MistCantonModel", "dayTo", "(III)I"⟩, prog_13_method_54_code, 3, (Option.some Jvm.ClassFile.FieldType.int)),
  (⟨"MistCantonModel", "event", "(II)I"⟩, prog_13_method_64_code, 3, (Option.some Jvm.ClassFile.FieldType.int)),
  (⟨"MistCantonModel", "isEvent", "(I)Z"⟩, prog_13_method_50_code, 2, (Option.some Jvm.ClassFile.FieldType.boolean)),
  (⟨"MistCantonModel", "invitedTo", "(I)I"⟩, prog_13_method_56_code, 4, (Option.some Jvm.ClassFile.FieldType.int)),
  (⟨"MistCantonModel", "isToCome", "(II)Z"⟩, prog_13_method_55_code, 3, (Option.some Jvm.ClassFile.FieldType.boolean)),
  (⟨"MistCantonModel", "day", "()I"⟩, prog_13_method_65_code, 1, (Option.some Jvm.ClassFile.FieldType.int)),
  (⟨"MistCantonModel", "keeps", "()V"⟩, prog_13_method_44_code, 2, (Option.none : Option Jvm.ClassFile.FieldType)),
  (⟨"MistCantonModel", "copies", "(III)V"⟩, prog_13_method_40_code, 5, (Option.none : Option Jvm.ClassFile.FieldType)),
  (⟨"MistCantonModel", "passes", "(I)I"⟩, prog_13_method_59_code, 2, (Option.some Jvm.ClassFile.FieldType.int)),
  (⟨"MistCantonModel", "passes", "(II)I"⟩, prog_13_method_58_code, 8, (Option.some Jvm.ClassFile.FieldType.int)),
  (⟨"MistCantonModel", "bits", "(I)I"⟩, prog_13_method_51_code, 3, (Option.some Jvm.ClassFile.FieldType.int)),
  (⟨"MistCantonModel", "worthAt", "(I)I"⟩, prog_13_method_38_code, 5, (Option.some Jvm.ClassFile.FieldType.int)),
  (⟨"MistCantonModel", "both", "(III)I"⟩, prog_13_method_39_code, 3, (Option.some Jvm.ClassFile.FieldType.int)),
  (⟨"MistCantonModel", "doesCome", "(IIII)Z"⟩, prog_13_method_57_code, 8, (Option.some Jvm.ClassFile.FieldType.boolean)),
  (⟨"MistCantonModel", "lot", "(II)I"⟩, prog_13_method_66_code, 4, (Option.some Jvm.ClassFile.FieldType.int))]
def am_mi_6 : List (MethodName × ByteArray × Nat × Option FieldType) := [(⟨"MistCantonModel", "ask", "(I)I"⟩, prog_13_method_68_code, 2, (Option.some Jvm.ClassFile.FieldType.int)),
  (⟨"MistCantonModel", "asks", "(II)V"⟩, prog_13_method_67_code, 3, (Option.none : Option Jvm.ClassFile.FieldType)),
  (⟨"MistCantonModel", "undo", "()Z"⟩, prog_13_method_69_code, 1, (Option.some Jvm.ClassFile.FieldType.boolean)),
  (⟨"MistCantonModel", "judged", "(I)I"⟩, prog_13_method_70_code, 9, (Option.some Jvm.ClassFile.FieldType.int)),
  (⟨"MistCantonModel", "pairsMet", "(I)I"⟩, prog_13_method_61_code, 4, (Option.some Jvm.ClassFile.FieldType.int)),
  (⟨"MistCantonModel", "sumOf", "(II)I"⟩, prog_13_method_60_code, 5, (Option.some Jvm.ClassFile.FieldType.int)),
  (⟨"MistCantonModel", "attends", "(II)I"⟩, prog_13_method_72_code, 4, (Option.some Jvm.ClassFile.FieldType.int)),
  (⟨"MistCantonModel", "triesNow", "()V"⟩, prog_13_method_71_code, 1, (Option.none : Option Jvm.ClassFile.FieldType)),
  (⟨"MistCantonModel", "next", "(II)I"⟩, prog_13_method_73_code, 4, (Option.some Jvm.ClassFile.FieldType.int)),
  (⟨"MistCantonModel", "quorum", "(I)I"⟩, prog_13_method_74_code, 3, (Option.some Jvm.ClassFile.FieldType.int)),
  (⟨"MistCantonModel", "held", "(II)I"⟩, prog_13_method_75_code, 4, (Option.some Jvm.ClassFile.FieldType.int)),
  (⟨"MistCantonModel", "meet", "(II)I"⟩, prog_13_method_76_code, 4, (Option.some Jvm.ClassFile.FieldType.int)),
  (⟨"MistCantonModel", "idle", "(I)I"⟩, prog_13_method_78_code, 4, (Option.some Jvm.ClassFile.FieldType.int)),
  (⟨"MistCantonModel", "comersOf", "(I)I"⟩, prog_13_method_77_code, 4, (Option.some Jvm.ClassFile.FieldType.int)),
  (⟨"MistCantonModel", "busy", "()I"⟩, prog_13_method_79_code, 5, (Option.some Jvm.ClassFile.FieldType.int)),
  (⟨"MistCantonModel", "family", "(I)I"⟩, prog_13_method_80_code, 4, (Option.some Jvm.ClassFile.FieldType.int)),
  (⟨"MistCantonModel", "lonely", "()I"⟩, prog_13_method_81_code, 3, (Option.some Jvm.ClassFile.FieldType.int)),
  (⟨"MistCantonModel", "move", "(I)I"⟩, prog_13_method_82_code, 6, (Option.some Jvm.ClassFile.FieldType.int)),
  (⟨"MistCantonModel", "last", "(I)I"⟩, prog_13_method_83_code, 4, (Option.some Jvm.ClassFile.FieldType.int)),
  (⟨"MistCantonModel", "twins", "()I"⟩, prog_13_method_84_code, 4, (Option.some Jvm.ClassFile.FieldType.int)),
  (⟨"MistCantonModel", "steady", "()I"⟩, prog_13_method_85_code, 7, (Option.some Jvm.ClassFile.FieldType.int)),
  (⟨"MistCantonModel", "group", "(I)I"⟩, prog_13_method_87_code, 5, (Option.some Jvm.ClassFile.FieldType.int)),
  (⟨"MistCantonModel", "ofOff", "(I)I"⟩, prog_13_method_86_code, 4, (Option.some Jvm.ClassFile.FieldType.int)),
  (⟨"MistCantonModel", "least", "(II)I"⟩, prog_13_method_90_code, 8, (Option.some Jvm.ClassFile.FieldType.int)),
  (⟨"MistCantonModel", "costOf", "(II)I"⟩, prog_13_method_89_code, 9, (Option.some Jvm.ClassFile.FieldType.int)),
  (⟨"MistCantonModel", "apart", "(II)I"⟩, prog_13_method_88_code, 2, (Option.some Jvm.ClassFile.FieldType.int)),
  (⟨"MistCantonModel", "see", "(IIZ)Z"⟩, prog_13_method_91_code, 5, (Option.some Jvm.ClassFile.FieldType.boolean)),
  (⟨"MistCantonModel", "lots", "()I"⟩, prog_13_method_94_code, 1, (Option.some Jvm.ClassFile.FieldType.int)),
  (⟨"MistCantonModel", "lotsNow", "()I"⟩, prog_13_method_93_code, 6, (Option.some Jvm.ClassFile.FieldType.int)),
  (⟨"MistCantonModel", "doesLotCome", "(III)Z"⟩, prog_13_method_92_code, 5, (Option.some Jvm.ClassFile.FieldType.boolean)),
  (⟨"MistCantonModel", "look", "()I"⟩, prog_13_method_95_code, 9, (Option.some Jvm.ClassFile.FieldType.int)),
  (⟨"MistCantonModel", "guess", "()I"⟩, prog_13_method_98_code, 1, (Option.some Jvm.ClassFile.FieldType.int)),
  (⟨"MistCantonModel", "guessOf", "()I"⟩, prog_13_method_97_code, 4, (Option.some Jvm.ClassFile.FieldType.int)),
  (⟨"MistCantonModel", "toHow", "(I)I"⟩, prog_13_method_96_code, 4, (Option.some Jvm.ClassFile.FieldType.int)),
  (⟨"MistCantonModel", "wrong", "()I"⟩, prog_13_method_99_code, 3, (Option.some Jvm.ClassFile.FieldType.int)),
  (⟨"MistCantonModel", "leads", "(I)I"⟩, prog_13_method_100_code, 2, (Option.some Jvm.ClassFile.FieldType.int)),
  (⟨"MistCantonModel", "spread", "()I"⟩, prog_13_method_101_code, 3, (Option.some Jvm.ClassFile.FieldType.int)),
  (⟨"MistCantonModel", "pairs", "()I"⟩, prog_13_method_102_code, 3, (Option.some Jvm.ClassFile.FieldType.int)),
  (⟨"MistCantonModel", "right", "()I"⟩, prog_13_method_103_code, 3, (Option.some Jvm.ClassFile.FieldType.int)),
  (⟨"MistCantonModel", "through", "(II)I"⟩, prog_13_method_105_code, 4, (Option.some Jvm.ClassFile.FieldType.int))]
def am_mi_7 : List (MethodName × ByteArray × Nat × Option FieldType) := [(⟨"MistCantonModel", "around", "(II)I"⟩, prog_13_method_104_code, 7, (Option.some Jvm.ClassFile.FieldType.int)),
  (⟨"MistCantonModel", "wedded", "()I"⟩, prog_13_method_106_code, 3, (Option.some Jvm.ClassFile.FieldType.int)),
  (⟨"MistCantonModel", "circles", "()I"⟩, prog_13_method_107_code, 3, (Option.some Jvm.ClassFile.FieldType.int)),
  (⟨"MistCantonModel", "cover", "()I"⟩, prog_13_method_108_code, 5, (Option.some Jvm.ClassFile.FieldType.int)),
  (⟨"MistCantonModel", "shared", "(II)I"⟩, prog_13_method_109_code, 3, (Option.some Jvm.ClassFile.FieldType.int)),
  (⟨"MistCantonModel", "chance", "(III)I"⟩, prog_13_method_110_code, 14, (Option.some Jvm.ClassFile.FieldType.int)),
  (⟨"MistCantonModel", "rests", "(IIII)I"⟩, prog_13_method_112_code, 12, (Option.some Jvm.ClassFile.FieldType.int)),
  (⟨"MistCantonModel", "getsBy", "(IIIII)I"⟩, prog_13_method_111_code, 5, (Option.some Jvm.ClassFile.FieldType.int)),
  (⟨"MistCantonModel", "years", "(III)I"⟩, prog_13_method_115_code, 5, (Option.some Jvm.ClassFile.FieldType.int)),
  (⟨"MistCantonModel", "drawsDeed", "()V"⟩, prog_13_method_114_code, 3, (Option.none : Option Jvm.ClassFile.FieldType)),
  (⟨"MistCantonModel", "draw", "(I)I"⟩, prog_13_method_113_code, 2, (Option.some Jvm.ClassFile.FieldType.int)),
  (⟨"MistCantonModel", "mark", "(IZ)Z"⟩, prog_13_method_116_code, 3, (Option.some Jvm.ClassFile.FieldType.boolean)),
  (⟨"MistCantonModel", "count", "(I)I"⟩, prog_13_method_117_code, 2, (Option.some Jvm.ClassFile.FieldType.int))]
def am_mi : List (MethodName × ByteArray × Nat × Option FieldType) := am_mi_0 ++ (am_mi_1 ++ (am_mi_2 ++ (am_mi_3 ++ (am_mi_4 ++ (am_mi_5 ++ (am_mi_6 ++ (am_mi_7)))))))
set_option maxRecDepth 100000 in
set_option maxHeartbeats 4000000 in
theorem am_mi_eq : lw_tbl.filterMap am_isCode = am_mi := by rfl
def am_ml : List (String × Nat × Nat) := [("MistCantonLaw", 15, 0), ("MistCanton", 1, 1), ("MistCanton", 9, 2), ("MistCanton$Tape", 3, 1), ("MistCanton", 18, 3), ("MistCanton$CantonReader", 3, 1), ("MistCanton$CantonReader", 17, 4), ("MistCanton$LawReader", 3, 1), ("MistCanton", 27, 5), ("MistCanton$WeekReader", 3, 1), ("MistCanton", 34, 6), ("MistCanton$Canton", 3, 1), ("MistCanton$Canton", 36, 7), ("MistCanton$Law", 3, 1), ("MistCanton", 44, 8), ("MistCanton$Week", 3, 1), ("MistCanton", 54, 9), ("MistCanton$State", 3, 1), ("MistCanton", 68, 10), ("MistCanton$History", 3, 1), ("MistCanton$History", 17, 9), ("MistCanton", 79, 11), ("MistCanton$Mark", 1, 1), ("MistCanton$Mark", 9, 9), ("MistCantonLaw", 21, 12), ("MistCanton", 87, 13), ("MistCantonLaw", 26, 14), ("MistCanton", 94, 15), ("MistCanton$CantonReader", 24, 16), ("MistCanton$CantonReader", 29, 17), ("MistCanton$Tape", 27, 18), ("MistCanton$Tape", 36, 19), ("MistCanton$Tape", 39, 20), ("MistCanton$Tape", 44, 21), ("java/lang/String", 633, 22), ("java/lang/String", 492, 23), ("java/lang/String", 505, 24), ("java/lang/String", 335, 25), ("java/lang/String", 637, 26), ("java/lang/StringLatin1", 88, 27), ("java/lang/StringLatin1", 92, 28), ("java/lang/StringLatin1", 38, 29), ("java/lang/StringLatin1", 95, 30), ("java/lang/String", 640, 31), ("java/lang/StringUTF16", 224, 28), ("java/lang/StringUTF16", 183, 29), ("java/lang/StringUTF16", 228, 32), ("java/lang/StringUTF16", 96, 33), ("java/lang/StringUTF16", 48, 34), ("java/lang/StringUTF16", 241, 35), ("java/lang/String", 1062, 36), ("java/lang/StringUTF16", 244, 37), ("java/lang/StringUTF16", 71, 38), ("java/lang/StringUTF16", 232, 39), ("java/lang/StringUTF16", 164, 40), ("java/lang/StringUTF16", 157, 41), ("java/lang/StringUTF16", 161, 42), ("MistCanton$CantonReader", 38, 43), ("MistCanton$CantonReader", 47, 44), ("MistCanton$Tape", 57, 24), ("MistCanton$Tape", 60, 45), ("java/lang/String", 495, 46), ("java/lang/StringLatin1", 9, 47), ("java/lang/String", 1059, 48), ("java/lang/String", 498, 49), ("java/lang/StringUTF16", 67, 50), ("java/lang/StringUTF16", 414, 47), ("MistCanton$CantonReader", 51, 51), ("MistCanton$CantonReader", 74, 52), ("MistCanton$CantonReader", 96, 18), ("MistCanton$CantonReader", 99, 53), ("MistCanton$CantonReader", 78, 54), ("MistCanton$CantonReader", 86, 55), ("MistCanton$CantonReader", 90, 56), ("MistCanton$CantonReader", 106, 57), ("MistCanton$CantonReader", 116, 58), ("MistCanton$Tape", 66, 44), ("MistCanton$Tape", 70, 52), ("MistCanton$CantonReader", 119, 59), ("MistCanton$CantonReader", 129, 61), ("MistCanton$Tape", 74, 62), ("MistCanton$CantonReader", 56, 63), ("MistCanton$CantonReader", 61, 64), ("MistCanton$CantonReader", 66, 66), ("MistCanton$CantonReader", 166, 67), ("MistCanton$CantonReader", 169, 68), ("MistCanton$CantonReader", 174, 69), ("MistCanton$CantonReader", 71, 70), ("MistCanton$LawReader", 23, 52), ("MistCanton$LawReader", 27, 18), ("MistCanton$LawReader", 34, 71), ("MistCanton$LawReader", 42, 72), ("MistCanton$LawReader", 59, 73), ("MistCanton$LawReader", 65, 74), ("MistCanton$LawReader", 68, 75), ("MistCanton$LawReader", 71, 76), ("MistCanton$LawReader", 47, 44), ("MistCanton$LawReader", 62, 62), ("MistCanton$LawReader", 55, 77), ("MistCanton$LawReader", 38, 61), ("MistCanton", 98, 78), ("MistCanton", 104, 79), ("MistCantonLaw", 31, 80), ("MistCanton", 101, 81), ("MistCanton$WeekReader", 21, 17), ("MistCanton$WeekReader", 29, 82), ("MistCanton$WeekReader", 36, 83), ("MistCanton$WeekReader", 70, 44), ("MistCanton$WeekReader", 40, 52), ("MistCanton$WeekReader", 54, 18), ("MistCanton$WeekReader", 57, 84), ("MistCanton$WeekReader", 78, 54), ("MistCanton$WeekReader", 86, 55), ("MistCanton$WeekReader", 60, 85), ("MistCanton$WeekReader", 92, 59), ("MistCanton$WeekReader", 64, 61), ("MistCantonLaw", 35, 86), ("MistCanton", 114, 87), ("MistCanton", 127, 68), ("MistCanton", 130, 88), ("MistCanton$Canton", 68, 89), ("MistCanton$Canton", 75, 90), ("MistCanton", 134, 91), ("MistCantonLaw", 40, 92), ("MistCanton", 141, 93), ("MistCantonLaw", 206, 94), ("MistCanton", 165, 95), ("MistCanton", 169, 96), ("MistCanton$State", 38, 69), ("MistCantonLaw", 44, 97), ("MistCanton", 175, 98), ("MistCanton$History", 22, 99), ("MistCanton$History", 29, 29), ("MistCanton", 179, 100), ("MistCanton$Canton", 85, 101), ("MistCanton$Canton", 105, 88), ("MistCanton$Canton", 109, 102), ("MistCanton$Canton", 116, 103), ("MistCanton$Canton", 112, 104), ("MistCanton$Canton", 96, 69), ("MistCanton$Canton", 123, 105), ("MistCanton$Law", 22, 106), ("MistCanton$Law", 26, 107), ("MistCanton$Canton", 92, 108), ("MistCantonLaw", 48, 109), ("MistCanton", 183, 60), ("MistCantonLaw", 52, 110), ("MistCanton", 187, 111), ("MistCantonLaw", 57, 112), ("MistCanton", 191, 113), ("MistCantonLaw", 201, 114), ("MistCanton", 195, 115), ("MistCanton$Mark", 20, 99), ("MistCanton", 202, 99), ("MistCantonLaw", 62, 116), ("MistCanton", 207, 117), ("MistCanton", 216, 118), ("MistCantonLaw", 66, 119), ("MistCantonLaw", 70, 120), ("MistCanton", 219, 65), ("MistCantonLaw", 74, 121), ("MistCantonLaw", 78, 122), ("MistCanton", 223, 123), ("MistCantonLaw", 175, 124), ("MistCantonLaw", 82, 125), ("MistCantonLaw", 86, 126), ("MistCanton", 227, 127), ("MistCantonLaw", 90, 128), ("MistCantonLaw", 135, 129), ("MistCantonLaw", 159, 130), ("MistCantonLaw", 167, 131), ("MistCantonLaw", 171, 132), ("MistCanton", 230, 133), ("MistCanton", 233, 69), ("MistCantonLaw", 183, 134), ("MistCanton", 238, 135), ("MistCanton", 241, 136), ("MistCantonLaw", 197, 137), ("MistCanton", 245, 138), ("MistCanton", 249, 139), ("MistCanton", 252, 140), ("MistCantonLaw", 94, 141), ("MistCanton", 264, 142), ("MistCanton", 267, 89), ("MistCantonLaw", 98, 143), ("MistCanton", 271, 144), ("MistCanton", 274, 145), ("MistCanton", 282, 146), ("MistCanton", 277, 29), ("MistCantonLaw", 123, 147), ("MistCantonLaw", 102, 148), ("MistCanton", 285, 149), ("MistCanton$Canton", 81, 68), ("MistCantonLaw", 107, 150), ("MistCantonLaw", 111, 151), ("MistCanton", 288, 28), ("MistCantonLaw", 115, 152), ("MistCanton", 291, 153), ("MistCantonLaw", 119, 154), ("MistCanton", 294, 152), ("MistCanton", 297, 90), ("MistCantonLaw", 127, 155), ("MistCantonLaw", 131, 156), ("MistCantonLaw", 163, 157), ("MistCantonLaw", 179, 158), ("MistCanton", 300, 159), ("MistCantonLaw", 139, 160), ("MistCanton", 303, 161), ("MistCantonLaw", 143, 162), ("MistCantonLaw", 147, 163), ("MistCanton", 306, 164), ("MistCantonLaw", 155, 165), ("MistCantonLaw", 151, 166), ("MistCanton", 309, 167), ("MistCantonLaw", 188, 999), ("MistCantonLaw", 7, 168), ("java/lang/Throwable", 1, 1), ("java/lang/Throwable", 27, 999), ("java/lang/Throwable", 202, 999), ("MistCanton", 316, 170), ("java/util/NoSuchElementException", 13, 171), ("java/lang/RuntimeException", 7, 172), ("java/lang/Exception", 7, 173), ("MistCanton", 319, 174), ("MistCanton", 325, 175), ("MistCantonLaw", 194, 176), ("MistCantonLaw", 25, 177), ("MistCantonModel", 7, 178), ("MistCantonLaw", 18, 179), ("MistCantonModel", 18, 1), ("MistCantonModel", 122, 180), ("MistCantonModel", 126, 181), ("MistCantonModel", 272, 182), ("MistCantonModel", 266, 183), ("MistCantonModel", 269, 184), ("MistCantonModel", 275, 185), ("MistCantonModel", 259, 186), ("MistCantonModel", 263, 187), ("MistCantonLaw", 30, 188), ("MistCantonModel", 198, 189), ("MistCantonModel", 129, 190), ("MistCantonModel", 138, 191), ("MistCantonModel", 142, 192), ("MistCantonModel", 149, 193), ("MistCantonModel", 207, 194), ("MistCantonModel", 164, 195), ("MistCantonModel", 213, 196), ("MistCantonModel", 161, 197), ("MistCantonModel", 186, 198), ("MistCantonModel", 177, 199), ("MistCantonModel", 190, 200), ("MistCantonModel", 217, 201), ("MistCantonModel", 220, 202), ("MistCantonModel", 170, 203), ("MistCantonModel", 167, 204), ("MistCantonModel", 173, 205), ("MistCantonModel", 224, 206), ("MistCantonModel", 194, 207), ("MistCantonModel", 228, 208), ("MistCantonModel", 231, 209), ("MistCantonModel", 234, 210), ("MistCantonModel", 241, 211), ("MistCantonModel", 244, 212), ("MistCantonModel", 250, 213), ("MistCantonModel", 253, 214), ("MistCantonModel", 158, 215), ("MistCantonModel", 237, 216), ("MistCantonModel", 247, 217), ("MistCantonModel", 210, 218), ("MistCantonLaw", 34, 219), ("MistCantonLaw", 39, 220), ("MistCantonModel", 313, 221), ("MistCantonModel", 316, 222), ("MistCantonModel", 288, 223), ("MistCantonModel", 307, 224), ("MistCantonModel", 291, 225), ("MistCantonLaw", 43, 226), ("MistCantonModel", 319, 227), ("MistCantonModel", 322, 228), ("MistCantonModel", 284, 229), ("MistCantonLaw", 47, 230), ("MistCantonModel", 325, 231), ("MistCantonModel", 281, 232), ("MistCantonModel", 328, 233), ("MistCantonModel", 310, 234), ("MistCantonModel", 297, 235), ("MistCantonModel", 300, 236), ("MistCantonModel", 256, 237), ("MistCantonModel", 303, 238), ("MistCantonLaw", 51, 239), ("MistCantonLaw", 56, 240), ("MistCantonModel", 330, 241), ("MistCantonLaw", 61, 242), ("MistCantonLaw", 65, 243), ("MistCantonModel", 333, 244), ("MistCantonModel", 336, 245), ("MistCantonLaw", 69, 246), ("MistCantonModel", 339, 247), ("MistCantonLaw", 73, 248), ("MistCantonLaw", 77, 249), ("MistCantonLaw", 81, 250), ("MistCantonLaw", 85, 251), ("MistCantonLaw", 89, 252), ("MistCantonModel", 342, 253), ("MistCantonLaw", 93, 254), ("MistCantonLaw", 138, 255), ("MistCantonLaw", 162, 256), ("MistCantonLaw", 170, 257), ("MistCantonLaw", 178, 258), ("MistCantonLaw", 174, 259), ("MistCantonLaw", 182, 260), ("MistCantonLaw", 97, 261), ("MistCantonModel", 345, 262), ("MistCantonLaw", 101, 263), ("MistCantonModel", 351, 264), ("MistCantonModel", 348, 265), ("MistCantonLaw", 106, 266), ("MistCantonLaw", 110, 267), ("MistCantonModel", 357, 268), ("MistCantonModel", 354, 269), ("MistCantonLaw", 114, 270), ("MistCantonLaw", 118, 271), ("MistCantonModel", 363, 272), ("MistCantonModel", 360, 273), ("MistCantonLaw", 122, 274), ("MistCantonLaw", 126, 275), ("MistCantonLaw", 130, 276), ("MistCantonLaw", 134, 277), ("MistCantonLaw", 166, 278), ("MistCantonLaw", 142, 279), ("MistCantonModel", 366, 280), ("MistCantonLaw", 146, 281), ("MistCantonLaw", 150, 282), ("MistCantonLaw", 154, 283), ("MistCantonLaw", 158, 284), ("MistCantonLaw", 187, 285), ("MistCantonLaw", 193, 286), ("MistCantonModel", 371, 287), ("MistCantonLaw", 200, 288), ("MistCantonModel", 390, 289), ("MistCantonModel", 387, 290), ("MistCantonLaw", 205, 291), ("MistCantonLaw", 209, 292)]
def am_y (n : Nat) : MethodName := match am_mi[n]? with
  | some q => q.1
  | none => ⟨"", "", ""⟩
def am_fl : List (String × Nat × String × String × String) := [("MistCanton$Tape", 9, "MistCanton$Tape", "signs", "[C"), ("MistCanton", 91, "MistCanton$Tape", "length", "I"), ("MistCanton$Tape", 17, "MistCanton$Tape", "length", "I"), ("MistCanton$CantonReader", 34, "MistCanton$Tape", "kind", "I"), ("MistCanton$WeekReader", 26, "MistCanton$Tape", "kind", "I"), ("MistCanton$Tape", 33, "MistCanton$Tape", "kind", "I"), ("MistCanton$LawReader", 75, "MistCanton$Tape", "kind", "I"), ("MistCanton$Tape", 30, "MistCanton$Tape", "place", "I"), ("MistCanton$Tape", 24, "MistCanton$Tape", "behind", "I"), ("MistCanton$CantonReader", 82, "MistCanton$Tape", "word", "J"), ("MistCanton$Tape", 50, "MistCanton$Tape", "word", "J"), ("MistCanton$WeekReader", 82, "MistCanton$Tape", "word", "J"), ("MistCanton$CantonReader", 126, "MistCanton$Tape", "number", "I"), ("MistCanton$Tape", 54, "MistCanton$Tape", "number", "I"), ("MistCanton$WeekReader", 96, "MistCanton$Tape", "number", "I"), ("MistCanton$LawReader", 81, "MistCanton$Tape", "number", "I"), ("MistCanton$CantonReader", 42, "MistCanton$Tape", "fault", "I"), ("MistCanton$WeekReader", 33, "MistCanton$Tape", "fault", "I"), ("MistCanton$Tape", 21, "MistCanton$Tape", "fault", "I"), ("MistCanton$LawReader", 9, "MistCanton$LawReader", "tape", "LMistCanton$Tape;"), ("MistCanton$CantonReader", 9, "MistCanton$CantonReader", "tape", "LMistCanton$Tape;"), ("MistCanton$CantonReader", 20, "MistCanton$CantonReader", "lawReader", "LMistCanton$LawReader;"), ("MistCanton$WeekReader", 9, "MistCanton$WeekReader", "tape", "LMistCanton$Tape;"), ("MistCanton$Law", 9, "MistCanton$Law", "parts", "[I"), ("MistCanton$Law", 15, "MistCanton$Law", "stack", "[I"), ("MistCanton$Law", 18, "MistCanton$Law", "length", "I"), ("MistCanton$Canton", 58, "MistCanton$Law", "length", "I"), ("MistCanton$Canton", 41, "MistCanton$Canton", "persons", "I"), ("MistCanton$CantonReader", 93, "MistCanton$Canton", "persons", "I"), ("MistCanton", 159, "MistCanton$Canton", "persons", "I"), ("MistCanton$Canton", 9, "MistCanton$Canton", "names", "[J"), ("MistCanton$CantonReader", 102, "MistCanton$Canton", "names", "[J"), ("MistCanton$Canton", 15, "MistCanton$Canton", "kinds", "[I"), ("MistCanton$CantonReader", 110, "MistCanton$Canton", "kinds", "[I"), ("MistCanton", 118, "MistCanton$Canton", "kinds", "[I"), ("MistCanton$Canton", 19, "MistCanton$Canton", "lots", "[I"), ("MistCanton$State", 31, "MistCanton$Canton", "lots", "[I"), ("MistCanton$CantonReader", 123, "MistCanton$Canton", "lots", "[I"), ("MistCanton$Canton", 45, "MistCanton$Canton", "events", "I"), ("MistCanton$CantonReader", 141, "MistCanton$Canton", "events", "I"), ("MistCanton", 162, "MistCanton$Canton", "events", "I"), ("MistCanton$Canton", 22, "MistCanton$Canton", "titles", "[J"), ("MistCanton$CantonReader", 144, "MistCanton$Canton", "titles", "[J"), ("MistCanton$Canton", 25, "MistCanton$Canton", "weekdays", "[I"), ("MistCanton", 144, "MistCanton$Canton", "weekdays", "[I"), ("MistCanton$CantonReader", 149, "MistCanton$Canton", "weekdays", "[I"), ("MistCanton$Canton", 28, "MistCanton$Canton", "needs", "[I"), ("MistCanton", 147, "MistCanton$Canton", "needs", "[I"), ("MistCanton$CantonReader", 154, "MistCanton$Canton", "needs", "[I"), ("MistCanton$Canton", 31, "MistCanton$Canton", "guests", "[I"), ("MistCanton", 150, "MistCanton$Canton", "guests", "[I"), ("MistCanton$CantonReader", 156, "MistCanton$Canton", "guests", "[I"), ("MistCanton$Canton", 48, "MistCanton$Canton", "snowTold", "Z"), ("MistCanton$CantonReader", 162, "MistCanton$Canton", "snowTold", "Z"), ("MistCanton$Canton", 52, "MistCanton$Canton", "snow", "I"), ("MistCanton$CantonReader", 172, "MistCanton$Canton", "snow", "I"), ("MistCanton$LawReader", 15, "MistCanton$Canton", "lawTold", "Z"), ("MistCanton$Canton", 55, "MistCanton$Canton", "lawTold", "Z"), ("MistCanton$Canton", 37, "MistCanton$Canton", "law", "LMistCanton$Law;"), ("MistCanton$LawReader", 30, "MistCanton$Canton", "law", "LMistCanton$Law;"), ("MistCanton$Week", 9, "MistCanton$Week", "acts", "[I"), ("MistCanton$WeekReader", 44, "MistCanton$Week", "acts", "[I"), ("MistCanton", 212, "MistCanton$Week", "acts", "[I"), ("MistCanton$Week", 15, "MistCanton$Week", "persons", "[I"), ("MistCanton$WeekReader", 48, "MistCanton$Week", "persons", "[I"), ("MistCanton", 210, "MistCanton$Week", "persons", "[I"), ("MistCanton$Week", 18, "MistCanton$Week", "lots", "[I"), ("MistCanton$WeekReader", 51, "MistCanton$Week", "lots", "[I"), ("MistCanton", 215, "MistCanton$Week", "lots", "[I"), ("MistCanton$WeekReader", 15, "MistCanton$Week", "length", "I"), ("MistCanton", 108, "MistCanton$Week", "length", "I"), ("MistCanton$State", 24, "MistCanton$State", "day", "I"), ("MistCanton", 124, "MistCanton$State", "day", "I"), ("MistCanton$Canton", 72, "MistCanton$State", "day", "I"), ("MistCanton$State", 28, "MistCanton$State", "crimes", "I"), ("MistCanton", 172, "MistCanton$State", "crimes", "I"), ("MistCanton$State", 9, "MistCanton$State", "lots", "[I"), ("MistCanton$Canton", 65, "MistCanton$State", "lots", "[I"), ("MistCanton", 121, "MistCanton$State", "lots", "[I"), ("MistCanton$State", 15, "MistCanton$State", "met", "[I"), ("MistCanton", 138, "MistCanton$State", "met", "[I"), ("MistCanton$Canton", 120, "MistCanton$State", "met", "[I"), ("MistCanton$State", 18, "MistCanton$State", "held", "[I"), ("MistCanton", 153, "MistCanton$State", "held", "[I"), ("MistCanton$Canton", 102, "MistCanton$State", "held", "[I"), ("MistCanton$State", 21, "MistCanton$State", "came", "[I"), ("MistCanton", 156, "MistCanton$State", "came", "[I"), ("MistCanton$Canton", 89, "MistCanton$State", "came", "[I"), ("MistCanton$History", 11, "MistCanton$History", "ring", "[LMistCanton$State;"), ("MistCanton$History", 18, "MistCanton$History", "newest", "I"), ("MistCanton$History", 26, "MistCanton$History", "length", "I"), ("MistCanton", 109, "MistCanton$History", "length", "I"), ("MistCanton$Mark", 16, "MistCanton$Mark", "laid", "Z"), ("MistCanton", 110, "MistCanton$Mark", "laid", "Z"), ("MistCanton$Mark", 10, "MistCanton$Mark", "state", "LMistCanton$State;"), ("MistCanton", 199, "MistCanton$Mark", "state", "LMistCanton$State;"), ("MistCanton$Mark", 24, "MistCanton$Mark", "sights", "I"), ("MistCanton", 205, "MistCanton$Mark", "sights", "I"), ("MistCanton$Mark", 28, "MistCanton$Mark", "sightLots", "I"), ("MistCanton", 206, "MistCanton$Mark", "sightLots", "I"), ("MistCanton", 10, "MistCanton", "tape", "LMistCanton$Tape;"), ("MistCanton", 21, "MistCanton", "cantonReader", "LMistCanton$CantonReader;"), ("MistCanton", 28, "MistCanton", "weekReader", "LMistCanton$WeekReader;"), ("MistCanton", 35, "MistCanton", "told", "LMistCanton$Canton;"), ("MistCanton", 39, "MistCanton", "spareCanton", "LMistCanton$Canton;"), ("MistCanton", 45, "MistCanton", "toldWeek", "LMistCanton$Week;"), ("MistCanton", 49, "MistCanton", "spareWeek", "LMistCanton$Week;"), ("MistCanton", 55, "MistCanton", "now", "LMistCanton$State;"), ("MistCanton", 59, "MistCanton", "ahead", "LMistCanton$State;"), ("MistCanton", 62, "MistCanton", "unlike", "[I"), ("MistCanton", 69, "MistCanton", "history", "LMistCanton$History;"), ("MistCanton", 75, "MistCanton", "marks", "[LMistCanton$Mark;"), ("MistCanton", 80, "MistCanton", "sights", "I"), ("MistCanton", 84, "MistCanton", "sightLots", "I"), ("java/lang/String", 38, "java/lang/String", "COMPACT_STRINGS", "Z"), ("java/lang/String", 1053, "jdk/internal/util/Preconditions", "SIOOBE_FORMATTER", "Ljava/util/function/BiFunction;"), ("java/lang/StringUTF16", 44, "java/lang/StringUTF16", "$assertionsDisabled", "Z"), ("java/lang/StringUTF16", 59, "java/lang/StringUTF16", "HI_BYTE_SHIFT", "I"), ("java/lang/StringUTF16", 63, "java/lang/StringUTF16", "LO_BYTE_SHIFT", "I"), ("java/lang/Throwable", 198, "java/lang/Throwable", "backtrace", "Ljava/lang/Object;"), ("java/lang/Throwable", 13, "java/lang/Throwable", "UNASSIGNED_STACK", "[Ljava/lang/StackTraceElement;"), ("java/lang/Throwable", 20, "java/lang/Throwable", "SUPPRESSED_SENTINEL", "Ljava/util/List;"), ("java/lang/Throwable", 198, "java/lang/Throwable", "backtrace", "Ljava/lang/Object;"), ("java/lang/Throwable", 31, "java/lang/Throwable", "detailMessage", "Ljava/lang/String;"), ("java/lang/Throwable", 7, "java/lang/Throwable", "cause", "Ljava/lang/Throwable;"), ("java/lang/Throwable", 17, "java/lang/Throwable", "stackTrace", "[Ljava/lang/StackTraceElement;"), ("java/lang/Throwable", 24, "java/lang/Throwable", "suppressedExceptions", "Ljava/util/List;"), ("MistCantonModel", 1, "MistCantonModel", "thrown", "I"), ("MistCantonModel", 14, "MistCantonModel", "tape", "[I"), ("MistCantonModel", 11, "MistCantonModel", "taped", "I"), ("MistCantonModel", 133, "MistCantonModel", "size", "I"), ("MistCantonModel", 24, "MistCantonModel", "sort", "[I"), ("MistCantonModel", 27, "MistCantonModel", "place", "[I"), ("MistCantonModel", 30, "MistCantonModel", "value", "[J"), ("MistCantonModel", 152, "MistCantonModel", "at", "I"), ("MistCantonModel", 155, "MistCantonModel", "fault", "I"), ("MistCantonModel", 76, "MistCantonModel", "words", "[J"), ("MistCantonModel", 79, "MistCantonModel", "cantons", "[I"), ("MistCantonModel", 82, "MistCantonModel", "op", "[I"), ("MistCantonModel", 85, "MistCantonModel", "arg", "[I"), ("MistCantonModel", 201, "MistCantonModel", "codes", "I"), ("MistCantonModel", 88, "MistCantonModel", "names", "[J"), ("MistCantonModel", 91, "MistCantonModel", "readNames", "[J"), ("MistCantonModel", 94, "MistCantonModel", "nameOf", "[I"), ("MistCantonModel", 97, "MistCantonModel", "readNameOf", "[I"), ("MistCantonModel", 183, "MistCantonModel", "namesMany", "I"), ("MistCantonModel", 180, "MistCantonModel", "readMany", "I"), ("MistCantonModel", 204, "MistCantonModel", "once", "I"), ("MistCantonModel", 100, "MistCantonModel", "lines", "[I"), ("MistCantonModel", 103, "MistCantonModel", "facts", "[I"), ("MistCantonModel", 106, "MistCantonModel", "pile", "[I"), ("MistCantonModel", 109, "MistCantonModel", "state", "[I"), ("MistCantonModel", 278, "MistCantonModel", "undos", "I"), ("MistCantonModel", 112, "MistCantonModel", "isMarked", "[Z"), ("MistCantonModel", 116, "MistCantonModel", "ons", "[I"), ("MistCantonModel", 294, "MistCantonModel", "goers", "I"), ("MistCantonModel", 119, "MistCantonModel", "alike", "[I"), ("MistCantonModel", 375, "MistCantonModel", "g", "J"), ("java/lang/String", 15, "java/lang/String", "coder", "B"), ("java/lang/String", 9, "java/lang/String", "value", "[B")]
set_option maxRecDepth 100000 in
theorem am_fl_eq : lw_tbl.filterMap am_isFL = am_fl := by decide +kernel
def am_cl : List (String × Nat × Int64) := [("MistCanton$Tape", 15, 255), ("MistCanton", 256, 1103515245), ("MistCanton", 258, 12345), ("MistCanton", 260, 2147483648), ("MistCanton", 262, 65536), ("MistCantonModel", 34, 1119812451), ("MistCantonModel", 36, 17003), ("MistCantonModel", 38, 10492554), ("MistCantonModel", 40, 569), ("MistCantonModel", 42, 26498531), ("MistCantonModel", 44, 6400279), ("MistCantonModel", 46, 982151), ("MistCantonModel", 48, 375310), ("MistCantonModel", 50, 5538), ("MistCantonModel", 52, 2083), ("MistCantonModel", 54, 30596128), ("MistCantonModel", 56, 43567634), ("MistCantonModel", 58, 37900956), ("MistCantonModel", 60, 488058286), ("MistCantonModel", 62, 19741), ("MistCantonModel", 64, 1891), ("MistCantonModel", 66, 573), ("MistCantonModel", 68, 20763), ("MistCantonModel", 70, 1172060), ("MistCantonModel", 72, 18002), ("MistCantonModel", 74, 43523993), ("MistCantonModel", 136, 37), ("MistCantonModel", 145, 10), ("MistCantonModel", 147, 48), ("MistCantonModel", 369, 1000000), ("MistCantonModel", 379, 1103515245), ("MistCantonModel", 381, 12345), ("MistCantonModel", 383, 2147483648), ("MistCantonModel", 385, 65536), ("MistCantonLaw", 19, 4294967295)]
set_option maxRecDepth 100000 in
theorem am_cl_eq : lw_tbl.filterMap am_isCL = am_cl := by decide +kernel
def am_ci : List (String × Nat × Int32) := [("java/lang/StringUTF16", 227, 65536), ("java/lang/Character", 110, 55232), ("java/lang/Character", 76, 56320), ("java/lang/Integer", 265, 1431655765), ("java/lang/Integer", 266, 858993459), ("java/lang/Integer", 267, 252645135)]
set_option maxRecDepth 100000 in
theorem am_ci_eq : lw_tbl.filterMap am_isCI = am_ci := by decide +kernel
/-- nest links: (own, index, method); the host is MistCanton -/
def am_nl : List (String × Nat × Nat) := [("MistCanton$Tape", 78, 60), ("MistCanton$CantonReader", 159, 65), ("MistCanton$Canton", 61, 65), ("MistCanton$State", 34, 65)]
def am_mlq : List (String × Nat × MethodName) := lw_tbl.filterMap am_isML
set_option maxRecDepth 100000 in
set_option maxHeartbeats 4000000 in
theorem am_ml_eq : (am_ml.zip am_mlq).all (fun q => decide (q.1.1 = q.2.1) && (decide (q.1.2.1 = q.2.2.1) && (decide (am_y q.1.2.2 = q.2.2.2) || decide (q.1.2.2 = 999)))) = true ∧ am_ml.length = am_mlq.length := by decide +kernel
/-- constructors (number, parameters) -/
def am_ils : List (Nat × Nat) := [(0, 0), (2, 0), (3, 1), (4, 1), (5, 1), (6, 0), (7, 0), (8, 0), (9, 0), (10, 0), (11, 0), (179, 0)]
def am_isCk : Cond → Option (String × Nat × String)
  | .classLink a i b => some (a, i, b)
  | _ => none
def am_ck : List (String × Nat × String) := [("MistCantonLaw", 8, "MistCanton"), ("MistCanton", 7, "MistCanton$Tape"), ("MistCanton", 16, "MistCanton$CantonReader"), ("MistCanton$CantonReader", 15, "MistCanton$LawReader"), ("MistCanton", 25, "MistCanton$WeekReader"), ("MistCanton", 32, "MistCanton$Canton"), ("MistCanton$Canton", 34, "MistCanton$Law"), ("MistCanton", 42, "MistCanton$Week"), ("MistCanton", 52, "MistCanton$State"), ("MistCanton", 66, "MistCanton$History"), ("MistCanton$History", 9, "MistCanton$State"), ("MistCanton", 73, "MistCanton$Mark"), ("MistCanton$Mark", 7, "MistCanton$State"), ("MistCantonLaw", 13, "java/util/NoSuchElementException"), ("MistCanton", 312, "java/util/NoSuchElementException"), ("MistCantonLaw", 16, "MistCantonModel")]
set_option maxRecDepth 100000 in
theorem am_ck_eq : lw_tbl.filterMap am_isCk = am_ck := by decide +kernel
def am_isIa : Cond → Option (String × Nat)
  | .instantiable a i => some (a, i)
  | _ => none
/-- methods called on an object (number, parameters, class), and static ones (number, parameters) -/
def am_vls : List (Nat × Nat × Nat) := [(12, 3, 10), (13, 1, 7), (14, 0, 10), (15, 1, 1), (16, 0, 0), (17, 0, 7), (18, 0, 7), (19, 0, 7), (20, 0, 7), (43, 1, 1), (44, 1, 7), (51, 1, 1), (52, 1, 7), (53, 1, 1), (54, 0, 7), (55, 1, 0), (56, 1, 0), (57, 0, 1), (58, 1, 7), (59, 2, 7), (61, 1, 7), (62, 1, 7), (63, 1, 1), (64, 1, 1), (66, 1, 1), (67, 1, 1), (68, 1, 0), (70, 1, 4), (71, 2, 4), (72, 2, 4), (73, 2, 4), (74, 2, 4), (75, 2, 4), (76, 0, 4), (77, 1, 3), (78, 0, 10), (79, 1, 6), (80, 0, 10), (81, 2, 9), (82, 2, 9), (83, 0, 9), (84, 2, 9), (85, 1, 9), (86, 2, 10), (87, 1, 10), (88, 3, 0), (89, 2, 0), (91, 1, 0), (92, 2, 10), (93, 1, 10), (94, 1, 10), (95, 0, 6), (96, 0, 6), (97, 0, 10), (98, 1, 2), (99, 1, 6), (100, 2, 0), (101, 2, 0), (102, 2, 0), (104, 3, 0), (105, 4, 3), (108, 1, 6), (109, 2, 10), (110, 1, 10), (111, 1, 6), (112, 0, 10), (113, 1, 2), (114, 2, 10), (115, 3, 5), (116, 1, 10), (117, 1, 10), (118, 0, 10), (119, 2, 10), (120, 2, 10), (121, 1, 10), (122, 2, 10), (123, 2, 10), (124, 1, 10), (125, 2, 10), (126, 1, 10), (127, 0, 6), (128, 0, 10), (129, 1, 10), (130, 0, 10), (131, 1, 10), (132, 0, 10), (133, 1, 6), (134, 3, 10), (135, 3, 10), (137, 3, 10), (138, 1, 10), (141, 1, 10), (142, 1, 10), (143, 2, 10), (144, 2, 10), (145, 3, 10), (147, 1, 10), (148, 3, 10), (149, 2, 0), (150, 0, 10), (151, 0, 10), (152, 0, 10), (153, 1, 10), (154, 0, 10), (155, 0, 10), (156, 0, 10), (157, 0, 10), (158, 0, 10), (159, 1, 10), (160, 2, 10), (161, 1, 10), (162, 0, 10), (163, 0, 10), (164, 1, 10), (165, 2, 10), (166, 0, 10), (167, 1, 0), (168, 4, 10), (176, 0, 11), (177, 3, 11), (178, 1, 11), (180, 1, 11), (181, 0, 11), (182, 0, 11), (183, 0, 11), (184, 2, 11), (185, 1, 11), (186, 0, 11), (187, 2, 11), (188, 0, 11), (189, 0, 11), (194, 0, 11), (195, 1, 11), (196, 3, 11), (197, 1, 11), (198, 0, 11), (199, 2, 11), (200, 1, 11), (201, 2, 11), (202, 3, 11), (203, 1, 11), (204, 1, 11), (205, 2, 11), (206, 3, 11), (208, 0, 11), (209, 0, 11), (210, 1, 11), (211, 1, 11), (212, 1, 11), (213, 1, 11), (214, 1, 11), (215, 1, 11), (216, 2, 11), (217, 1, 11), (218, 1, 11), (219, 0, 11), (220, 2, 11), (221, 1, 11), (222, 1, 11), (223, 2, 11), (224, 1, 11), (226, 2, 11), (227, 1, 11), (228, 1, 11), (229, 2, 11), (230, 0, 11), (231, 0, 11), (232, 3, 11), (233, 1, 11), (234, 2, 11), (236, 1, 11), (238, 4, 11), (239, 2, 11), (240, 1, 11), (241, 2, 11), (242, 0, 11), (243, 1, 11), (244, 1, 11), (245, 2, 11), (246, 2, 11), (247, 0, 11), (248, 2, 11), (249, 1, 11), (250, 2, 11), (251, 2, 11), (252, 1, 11), (253, 1, 11), (254, 0, 11), (255, 1, 11), (256, 0, 11), (257, 1, 11), (258, 1, 11), (259, 0, 11), (260, 0, 11), (261, 1, 11), (262, 1, 11), (263, 2, 11), (264, 2, 11), (266, 3, 11), (267, 0, 11), (268, 0, 11), (269, 3, 11), (270, 0, 11), (271, 0, 11), (272, 0, 11), (273, 1, 11), (274, 0, 11), (275, 1, 11), (276, 0, 11), (277, 0, 11), (278, 0, 11), (279, 2, 11), (280, 2, 11), (281, 0, 11), (282, 0, 11), (283, 0, 11), (284, 2, 11), (285, 3, 11), (286, 4, 11), (288, 3, 11), (289, 0, 11), (290, 1, 11), (291, 2, 11), (292, 1, 11)]
/-- String constants: where they stand; how long; their bytes -/
def am_stt : List (String × Nat × String) := [("MistCanton$Tape", 42, "()<=+-*;"), ("MistCanton$CantonReader", 45, "person"), ("MistCanton$Tape", 64, "person lot event on needs comes snow goes day ask plain widow thief gaoler not and or "), ("MistCanton$CantonReader", 133, "plain"), ("MistCanton$CantonReader", 135, "widow"), ("MistCanton$CantonReader", 137, "thief"), ("MistCanton$CantonReader", 139, "gaoler"), ("MistCanton$CantonReader", 114, "lot"), ("MistCanton$CantonReader", 54, "event"), ("MistCanton$CantonReader", 147, "on"), ("MistCanton$CantonReader", 152, "needs"), ("MistCanton$CantonReader", 59, "comes"), ("MistCanton$CantonReader", 64, "snow"), ("MistCanton$CantonReader", 69, "goes"), ("MistCanton$LawReader", 84, "off"), ("MistCanton$LawReader", 86, "week"), ("MistCanton$LawReader", 88, "met"), ("MistCanton$LawReader", 90, "white"), ("MistCanton$LawReader", 79, "not"), ("MistCanton$LawReader", 45, "and"), ("MistCanton$LawReader", 53, "or"), ("MistCanton$WeekReader", 68, "day"), ("MistCanton$WeekReader", 74, "lot"), ("MistCanton$WeekReader", 76, "ask"), ("MistCanton", 314, "a stake is 0 to 9"), ("MistCanton", 323, "no such rest")]
def am_sln : List Nat := [8, 6, 86, 5, 5, 5, 6, 3, 5, 2, 5, 5, 4, 4, 3, 4, 3, 5, 3, 3, 2, 3, 3, 3, 17, 12]
def am_sby : List (List Int32) := [[40, 41, 60, 61, 43, 45, 42, 59], [112, 101, 114, 115, 111, 110], [112, 101, 114, 115, 111, 110, 32, 108, 111, 116, 32, 101, 118, 101, 110, 116, 32, 111, 110, 32, 110, 101, 101, 100, 115, 32, 99, 111, 109, 101, 115, 32, 115, 110, 111, 119, 32, 103, 111, 101, 115, 32, 100, 97, 121, 32, 97, 115, 107, 32, 112, 108, 97, 105, 110, 32, 119, 105, 100, 111, 119, 32, 116, 104, 105, 101, 102, 32, 103, 97, 111, 108, 101, 114, 32, 110, 111, 116, 32, 97, 110, 100, 32, 111, 114, 32], [112, 108, 97, 105, 110], [119, 105, 100, 111, 119], [116, 104, 105, 101, 102], [103, 97, 111, 108, 101, 114], [108, 111, 116], [101, 118, 101, 110, 116], [111, 110], [110, 101, 101, 100, 115], [99, 111, 109, 101, 115], [115, 110, 111, 119], [103, 111, 101, 115], [111, 102, 102], [119, 101, 101, 107], [109, 101, 116], [119, 104, 105, 116, 101], [110, 111, 116], [97, 110, 100], [111, 114], [100, 97, 121], [108, 111, 116], [97, 115, 107], [97, 32, 115, 116, 97, 107, 101, 32, 105, 115, 32, 48, 32, 116, 111, 32, 57], [110, 111, 32, 115, 117, 99, 104, 32, 114, 101, 115, 116]]
def am_svl : List (Nat × Nat) := [(21, 1), (22, 2), (23, 0), (24, 0), (25, 0), (45, 1)]
def am_sls : List (Nat × Nat) := [(26, 4), (27, 1), (28, 2), (29, 2), (30, 4), (31, 4), (32, 4), (33, 3), (34, 1), (35, 3), (36, 4), (37, 4), (38, 2), (39, 4), (40, 1), (41, 1), (42, 1), (46, 2), (47, 2), (48, 3), (49, 2), (50, 2), (60, 3), (65, 2), (69, 1), (90, 2), (103, 3), (106, 5), (107, 3), (136, 3), (139, 1), (140, 2), (146, 1), (174, 5), (175, 5), (190, 1), (191, 1), (192, 1), (193, 1), (207, 3), (225, 3), (235, 1), (237, 3), (265, 2), (287, 5)]
end
section
/-! THE ABSTRACT MACHINE: one heap of ints, longs, references by object number and place (and the script's length); the rules of one instruction as a predicate; wp as the least predicate that is closed under them -/
abbrev am_V : Type := List (Nat × Value)
/-- ints, longs, references; the script's length; how many objects there are -/
abbrev am_H : Type := (Nat → Nat → Int32) × (Nat → Nat → Int64) × (Nat → Nat → Option Nat) × Nat × Nat
abbrev am_R : Type := Instr × Nat × Nat × Nat × Nat × Nat
abbrev am_Q : Type := Option Value → am_H → Prop
abbrev am_P : Type := Nat → List Value → am_H → am_Q → Prop
def am_wI (h : am_H) (o k : Nat) (v : Int32) : am_H := (fun a b => if a = o ∧ b = k then v else h.1 a b, h.2.1, h.2.2.1, h.2.2.2)
def am_wL (h : am_H) (o k : Nat) (v : Int64) : am_H := (h.1, fun a b => if a = o ∧ b = k then v else h.2.1 a b, h.2.2.1, h.2.2.2)
def am_wR (h : am_H) (o k : Nat) (v : Option Nat) : am_H := (h.1, h.2.1, fun a b => if a = o ∧ b = k then v else h.2.2.1 a b, h.2.2.2)
def am_lk : am_V → Nat → Option Value
  | [], _ => none
  | q :: r, i => bif Nat.beq q.1 i then some q.2 else am_lk r i
def am_s1 (lv : am_V) (i : Nat) (v : Value) : am_V := (i, v) :: lv.filter (fun q => !(q.1 == i) && !(q.1 + 1 == i && q.2.category == 2))
def am_s2 (lv : am_V) (i : Nat) (v : Value) : am_V := (i, v) :: lv.filter (fun q => !(q.1 == i) && (!(q.1 == i + 1) && !(q.1 + 1 == i && q.2.category == 2)))
def am_rf (r : Option Nat) : Value := match r with
  | some a => .ref a
  | none => .null
def am_pI (st : List Value) (k : Int32 → List Value → Prop) : Prop := match st with
  | .int x :: r => k x r
  | _ => False
def am_pL (st : List Value) (k : Int64 → List Value → Prop) : Prop := match st with
  | .long x :: r => k x r
  | _ => False
def am_pR (st : List Value) (k : Nat → List Value → Prop) : Prop := match st with
  | .ref x :: r => k x r
  | _ => False
def am_pV (st : List Value) (k : Value → List Value → Prop) : Prop := match st with
  | v :: r => k v r
  | [] => False
def am_li (lv : am_V) (i : Nat) (k : Int32 → Prop) : Prop := match am_lk lv i with
  | some (.int x) => k x
  | _ => False
def am_ll (lv : am_V) (i : Nat) (k : Int64 → Prop) : Prop := match am_lk lv i with
  | some (.long x) => k x
  | _ => False
def am_la (lv : am_V) (i : Nat) (k : Nat → Prop) : Prop := match am_lk lv i with
  | some (.ref x) => k x
  | _ => False
def am_pop : Nat → List Value → List Value → Option (List Value × List Value)
  | 0, acc, st => some (acc, st)
  | n + 1, acc, v :: st => am_pop n (v :: acc) st
  | _ + 1, _, [] => none
def am_c (c : Jvm.ClassFile.Cond) (x y : Int32) : Prop := match c with
  | .eq => x = y
  | .ne => ¬ x = y
  | .lt => x < y
  | .ge => y ≤ x
  | .gt => y < x
  | .le => x ≤ y
def am_gv (h : am_H) (ci k o : Nat) : Value := match am_kd ci k with
  | 0 => .int (h.1 o k)
  | 1 => .long (h.2.1 o k)
  | _ => am_rf (h.2.2.1 o k)
def am_fty (ci k : Nat) : FieldType := match vwCl[ci]? with
  | some q => (parseFieldDescriptor (q.2.1 k).2.2.1).getD .int
  | none => .int
def am_kl (c : Nat) : Int64 := match am_cl[c]? with
  | some q => q.2.2
  | none => 0
def am_ki (c : Nat) : Int32 := match am_ci[c]? with
  | some q => q.2.2
  | none => 0
/-- the shape of each object: (number of its class, 0), or (12 chars, 13 ints, 14 longs, 15 booleans, 16 Marks, 17 States, the length) -/
def am_st1 : List (Nat × Nat) := [(6, 0), (13, 6), (13, 6), (13, 5), (13, 5)]
def am_ca1 : List (Nat × Nat) := [(0, 0), (14, 6), (13, 6), (13, 6), (14, 5), (13, 5), (13, 5), (13, 5), (3, 0), (13, 1000), (13, 32)]
def am_we1 : List (Nat × Nat) := [(8, 0), (13, 40), (13, 40), (13, 40)]
def am_shl : List (Nat × Nat) := [(10, 0), (7, 0), (12, 1000), (1, 0), (4, 0), (9, 0)] ++ (am_ca1 ++ (am_ca1 ++ (am_we1 ++ (am_we1 ++ (am_st1 ++ (am_st1 ++ ([(13, 6), (2, 0), (17, 16)] ++ (
  am_st1 ++ (am_st1 ++ (am_st1 ++ (am_st1 ++ (am_st1 ++ (am_st1 ++ (am_st1 ++ (am_st1 ++ (am_st1 ++ (am_st1 ++ (am_st1 ++ (am_st1 ++ (am_st1 ++ (am_st1 ++ (am_st1 ++ (am_st1 ++ (
  [(16, 4)] ++ ((5, 0) :: (am_st1 ++ ((5, 0) :: (am_st1 ++ ((5, 0) :: (am_st1 ++ ((5, 0) :: (am_st1 ++
  [(11, 0), (13, 1000), (13, 1002), (13, 1002), (14, 1002), (14, 21), (13, 80), (13, 2200), (13, 2200), (14, 11), (14, 11), (13, 11), (13, 11), (13, 250), (13, 4), (13, 1100), (13, 1127), (15, 4), (13, 5), (13, 6), (14, 1)]
  ))))))))))))))))))))))))))))))))
def am_so (h : am_H) (o : Nat) : Option (Nat × Nat) := bif Nat.blt o h.2.2.2.2 then am_shl[o]? else none
def am_sh (h : am_H) (o : Nat) : Option (Nat × Nat) := bif Nat.beq o 3000000 then some (13, h.2.2.2.1) else am_so h o
/-- a receiver: one of the objects, or a String constant -/
def am_rc (h : am_H) (o d : Nat) : Prop := (¬ d = 20 ∧ am_sh h o = some (d, 0)) ∨ (d = 20 ∧ ∃ q : Nat, q < 26 ∧ o = 4000000 + q)
/-- the next object, all 0 and null -/
def am_nx (h : am_H) : am_H := (fun a b => if a = h.2.2.2.2 then 0 else h.1 a b, fun a b => if a = h.2.2.2.2 then 0 else h.2.1 a b, fun a b => if a = h.2.2.2.2 then none else h.2.2.1 a b, h.2.2.2.1, h.2.2.2.2 + 1)
/-- how many objects a constructor makes -/
def am_al (n : Nat) : Nat := ([153, 0, 1, 1, 0, 0, 10, 2, 3, 4, 81, 5] : List Nat).getD n (bif Nat.beq n 179 then 19 else 0)
def am_stp (cp : am_P) (nL lim : Nat) (rt : Option FieldType) (pc : Nat) (r : am_R) (lv : am_V) (st : List Value) (h : am_H) (K : Nat → am_V → List Value → am_H → Prop) (Q : am_Q) : Prop :=
  match r with
  | (i, nx, a, b, c, d) => match i with
    | .iconst n => K nx lv (.int (Int32.ofInt n) :: st) h
    | .bipush n => K nx lv (.int (Int8.ofInt n).toInt32 :: st) h
    | .sipush n => K nx lv (.int (Int16.ofInt n).toInt32 :: st) h
    | .lconst n => K nx lv (.long (Int64.ofNat n) :: st) h
    | .ldc2_w _ => K nx lv (.long (am_kl c) :: st) h
    | .ldc_w _ => bif Nat.beq b 1 then K nx lv (.ref (4000000 + c) :: st) h else K nx lv (.int (am_ki c) :: st) h
    | .ldc _ => bif Nat.beq b 1 then K nx lv (.ref (4000000 + c) :: st) h else K nx lv (.int (am_ki c) :: st) h
    | .getstatic _ => bif Nat.beq b 1 then K nx lv (.ref 6000000 :: st) h else K nx lv (.int 1 :: st) h
    | .i2b => am_pI st fun x r => K nx lv (.int x.toInt8.toInt32 :: r) h
    | .iload_n k => am_li lv k.val fun x => K nx lv (.int x :: st) h
    | .iload k => am_li lv k fun x => K nx lv (.int x :: st) h
    | .lload_n k => am_ll lv k.val fun x => K nx lv (.long x :: st) h
    | .lload k => am_ll lv k fun x => K nx lv (.long x :: st) h
    | .aload_n k => am_la lv k.val fun x => K nx lv (.ref x :: st) h
    | .aload k => am_la lv k fun x => K nx lv (.ref x :: st) h
    | .istore_n k => am_pI st fun x r => k.val < nL ∧ K nx (am_s1 lv k.val (.int x)) r h
    | .istore k => am_pI st fun x r => k < nL ∧ K nx (am_s1 lv k (.int x)) r h
    | .lstore_n k => am_pL st fun x r => k.val + 1 < nL ∧ K nx (am_s2 lv k.val (.long x)) r h
    | .lstore k => am_pL st fun x r => k + 1 < nL ∧ K nx (am_s2 lv k (.long x)) r h
    | .astore_n k => am_pR st fun x r => k.val < nL ∧ K nx (am_s1 lv k.val (.ref x)) r h
    | .astore k => am_pR st fun x r => k < nL ∧ K nx (am_s1 lv k (.ref x)) r h
    | .iinc k n => am_li lv k fun x => k < nL ∧ K nx (am_s1 lv k (.int (x + Int32.ofInt n))) st h
    | .iadd => am_pI st fun y r => am_pI r fun x r => K nx lv (.int (x + y) :: r) h
    | .isub => am_pI st fun y r => am_pI r fun x r => K nx lv (.int (x - y) :: r) h
    | .imul => am_pI st fun y r => am_pI r fun x r => K nx lv (.int (x * y) :: r) h
    | .iand => am_pI st fun y r => am_pI r fun x r => K nx lv (.int (x &&& y) :: r) h
    | .ior => am_pI st fun y r => am_pI r fun x r => K nx lv (.int (x ||| y) :: r) h
    | .ixor => am_pI st fun y r => am_pI r fun x r => K nx lv (.int (x ^^^ y) :: r) h
    | .idiv => am_pI st fun y r => am_pI r fun x r => ¬ y = 0 ∧ K nx lv (.int (x / y) :: r) h
    | .irem => am_pI st fun y r => am_pI r fun x r => ¬ y = 0 ∧ K nx lv (.int (x - x / y * y) :: r) h
    | .ineg => am_pI st fun x r => K nx lv (.int (-x) :: r) h
    | .ishl => am_pI st fun y r => am_pI r fun x r => K nx lv (.int (x <<< (y &&& 31)) :: r) h
    | .ishr => am_pI st fun y r => am_pI r fun x r => K nx lv (.int (x >>> (y &&& 31)) :: r) h
    | .iushr => am_pI st fun y r => am_pI r fun x r => K nx lv (.int (x.toUInt32 >>> (y.toUInt32 &&& Int32.toUInt32 31)).toInt32 :: r) h
    | .ladd => am_pL st fun y r => am_pL r fun x r => K nx lv (.long (x + y) :: r) h
    | .lsub => am_pL st fun y r => am_pL r fun x r => K nx lv (.long (x - y) :: r) h
    | .lmul => am_pL st fun y r => am_pL r fun x r => K nx lv (.long (x * y) :: r) h
    | .land => am_pL st fun y r => am_pL r fun x r => K nx lv (.long (x &&& y) :: r) h
    | .lor => am_pL st fun y r => am_pL r fun x r => K nx lv (.long (x ||| y) :: r) h
    | .ldiv => am_pL st fun y r => am_pL r fun x r => ¬ y = 0 ∧ K nx lv (.long (x / y) :: r) h
    | .lrem => am_pL st fun y r => am_pL r fun x r => ¬ y = 0 ∧ K nx lv (.long (x - x / y * y) :: r) h
    | .lshl => am_pI st fun y r => am_pL r fun x r => K nx lv (.long (x <<< (y.toInt64 &&& 63)) :: r) h
    | .lshr => am_pI st fun y r => am_pL r fun x r => K nx lv (.long (x >>> (y.toInt64 &&& 63)) :: r) h
    | .lushr => am_pI st fun y r => am_pL r fun x r => K nx lv (.long (x.toUInt64 >>> (y.toInt64.toUInt64 &&& Int64.toUInt64 63)).toInt64 :: r) h
    | .lcmp => am_pL st fun y r => am_pL r fun x r => K nx lv (.int (lg_cmp x y) :: r) h
    | .i2l => am_pI st fun x r => K nx lv (.long x.toInt64 :: r) h
    | .l2i => am_pL st fun x r => K nx lv (.int x.toInt32 :: r) h
    | .i2c => am_pI st fun x r => K nx lv (.int (x.toUInt32 % 65536).toInt32 :: r) h
    | .dup => am_pV st fun v r => v.category = 1 ∧ K nx lv (v :: v :: r) h
    | .dup2 => am_pV st fun v r => am_pV r fun w r => v.category = 1 ∧ w.category = 1 ∧ K nx lv (v :: w :: v :: w :: r) h
    | .pop => am_pV st fun v r => v.category = 1 ∧ K nx lv r h
    | .goto _ => K a lv st h
    | .if_icmp q _ => am_pI st fun y r => am_pI r fun x r => (am_c q x y → K a lv r h) ∧ (¬ am_c q x y → K nx lv r h)
    | .ifCond q _ => am_pI st fun x r => (am_c q x 0 → K a lv r h) ∧ (¬ am_c q x 0 → K nx lv r h)
    | .tableswitch df lo hi os => am_pI st fun x r => ((x.toInt < lo ∨ hi < x.toInt) → K ((pc : Int) + df).toNat lv r h) ∧ (∀ j : Nat, x.toInt = lo + j → lo + j ≤ hi → K ((pc : Int) + (os[j]?).getD 0).toNat lv r h)
    | .lookupswitch df ps => am_pI st fun x r => K ((pc : Int) + Op.lookupswitch.offset ps.toList df x.toInt).toNat lv r h
    | .getfield _ => bif Nat.beq b 20 then am_pR st fun o r => ∃ q : Nat, q < 26 ∧ o = 4000000 + q ∧ K nx lv ((bif Nat.beq a 0 then .ref (5000000 + q) else .int 0) :: r) h else am_pR st fun o r => am_sh h o = some (b, 0) ∧ K nx lv (am_gv h b a o :: r) h
    | .putfield _ => match am_kd b a with
      | 0 => am_pI st fun x r => am_pR r fun o r => am_sh h o = some (b, 0) ∧ narrow (am_fty b a) (.int x) = .int x ∧ fits (am_fty b a) (.int x) = true ∧ K nx lv r (am_wI h o a x)
      | 1 => am_pL st fun x r => am_pR r fun o r => am_sh h o = some (b, 0) ∧ K nx lv r (am_wL h o a x)
      | _ => am_pR st fun x r => am_pR r fun o r => am_sh h o = some (b, 0) ∧ K nx lv r (am_wR h o a (some x))
    | .iaload => am_pI st fun i r => am_pR r fun o r => ∃ j n : Nat, am_sh h o = some (13, n) ∧ j < n ∧ i = nI j ∧ K nx lv (.int (h.1 o j) :: r) h
    | .caload => am_pI st fun i r => am_pR r fun o r => ∃ j n : Nat, am_sh h o = some (12, n) ∧ j < n ∧ i = nI j ∧ K nx lv (.int (h.1 o j) :: r) h
    | .baload => am_pI st fun i r => am_pR r fun o r => (∃ j n : Nat, am_sh h o = some (15, n) ∧ j < n ∧ i = nI j ∧ K nx lv (.int (h.1 o j) :: r) h) ∨ (∃ q j : Nat, q < 26 ∧ o = 5000000 + q ∧ j < am_sln.getD q 0 ∧ i = nI j ∧ K nx lv (.int ((am_sby.getD q []).getD j 0) :: r) h)
    | .laload => am_pI st fun i r => am_pR r fun o r => ∃ j n : Nat, am_sh h o = some (14, n) ∧ j < n ∧ i = nI j ∧ K nx lv (.long (h.2.1 o j) :: r) h
    | .aaload => am_pI st fun i r => am_pR r fun o r => ∃ j n : Nat, (am_sh h o = some (16, n) ∨ am_sh h o = some (17, n)) ∧ j < n ∧ i = nI j ∧ K nx lv (am_rf (h.2.2.1 o j) :: r) h
    | .iastore => am_pI st fun x r => am_pI r fun i r => am_pR r fun o r => ∃ j n : Nat, am_so h o = some (13, n) ∧ j < n ∧ i = nI j ∧ K nx lv r (am_wI h o j x)
    | .castore => am_pI st fun x r => am_pI r fun i r => am_pR r fun o r => ∃ j n : Nat, am_so h o = some (12, n) ∧ j < n ∧ i = nI j ∧ K nx lv r (am_wI h o j (vp_nar .char x))
    | .bastore => am_pI st fun x r => am_pI r fun i r => am_pR r fun o r => ∃ j n : Nat, am_so h o = some (15, n) ∧ j < n ∧ i = nI j ∧ K nx lv r (am_wI h o j (vp_nar .boolean x))
    | .lastore => am_pL st fun x r => am_pI r fun i r => am_pR r fun o r => ∃ j n : Nat, am_so h o = some (14, n) ∧ j < n ∧ i = nI j ∧ K nx lv r (am_wL h o j x)
    | .aastore => am_pR st fun x r => am_pI r fun i r => am_pR r fun o r => ∃ j n : Nat, ((am_so h o = some (16, n) ∧ am_so h x = some (5, 0)) ∨ (am_so h o = some (17, n) ∧ am_so h x = some (6, 0))) ∧ j < n ∧ i = nI j ∧ K nx lv r (am_wR h o j (some x))
    | .new _ => am_shl[h.2.2.2.2]? = some (b, 0) ∧ h.2.2.2.2 + 1 ≤ lim ∧ K nx lv (.ref h.2.2.2.2 :: st) (am_nx h)
    | .newarray _ => am_pI st fun i r => ∃ n : Nat, am_shl[h.2.2.2.2]? = some (b, n) ∧ i = nI n ∧ h.2.2.2.2 + 1 ≤ lim ∧ K nx lv (.ref h.2.2.2.2 :: r) (am_nx h)
    | .anewarray _ => am_pI st fun i r => ∃ n : Nat, am_shl[h.2.2.2.2]? = some (b, n) ∧ i = nI n ∧ h.2.2.2.2 + 1 ≤ lim ∧ K nx lv (.ref h.2.2.2.2 :: r) (am_nx h)
    | .arraylength => am_pR st fun o r => (∃ t n : Nat, am_sh h o = some (t, n) ∧ 12 ≤ t ∧ K nx lv (.int (nI n) :: r) h) ∨ (∃ q : Nat, q < 26 ∧ o = 5000000 + q ∧ K nx lv (.int (nI (am_sln.getD q 0)) :: r) h)
    | .invokevirtual _ => match am_pop b [] st with
      | some (As, .ref o :: r) => am_rc h o d ∧ (r.map fun v => v.category).sum ≤ 8 ∧ h.2.2.2.2 + am_al a ≤ lim ∧ cp a (.ref o :: As) h (fun v h' => K nx lv (v.toList ++ r) h')
      | _ => False
    | .invokespecial _ => match am_pop b [] st with
      | some (As, .ref o :: r) => (r.map fun v => v.category).sum ≤ 8 ∧ (bif Nat.beq a 1 then As = [] ∧ K nx lv r h else h.2.2.2.2 + am_al a ≤ lim ∧ cp a (.ref o :: As) h (fun v h' => K nx lv (v.toList ++ r) h'))
      | _ => False
    | .invokestatic _ => match am_pop b [] st with
      | some (As, r) => (r.map fun v => v.category).sum ≤ 8 ∧ h.2.2.2.2 + am_al a ≤ lim ∧ cp a As h (fun v h' => K nx lv (v.toList ++ r) h')
      | _ => False
    | .ireturn => match st with
      | [.int x] => (∃ ty, rt = some ty ∧ narrow ty (.int x) = .int x) ∧ Q (some (.int x)) h
      | _ => False
    | .lreturn => match st with
      | [.long x] => rt = some .long ∧ Q (some (.long x)) h
      | _ => False
    | .return_ => match st with
      | [] => rt = none ∧ Q none h
      | _ => False
    | _ => False
/-- wp: least predicate closed under the rules, weakening built in; E: exits -/
def am_X (cp : am_P) (nL lim : Nat) (rt : Option FieldType) (cod : Nat → Option am_R) (E : Nat → am_V → List Value → am_H → Prop) (Q : am_Q) (pc : Nat) (lv : am_V) (st : List Value) (h : am_H) : Prop :=
  ∀ P : Nat → am_V → List Value → am_H → Prop, (∀ pc lv st h, E pc lv st h → P pc lv st h) → (∀ pc lv st h r K0 Q0, cod pc = some r → am_stp cp nL lim rt pc r lv st h K0 Q0 → (∀ pc lv st h, K0 pc lv st h → P pc lv st h) → (∀ v h, Q0 v h → Q v h) → P pc lv st h) → P pc lv st h
def am_W (cp : am_P) (nL lim : Nat) (rt : Option FieldType) (cod : Nat → Option am_R) (Q : am_Q) (pc : Nat) (lv : am_V) (st : List Value) (h : am_H) : Prop := am_X cp nL lim rt cod (fun _ _ _ _ => False) Q pc lv st h
theorem am_xstep {cp : am_P} {nL lim : Nat} {rt : Option FieldType} {cod : Nat → Option am_R} {E : Nat → am_V → List Value → am_H → Prop} {Q : am_Q} {pc : Nat} {lv : am_V} {st : List Value} {h : am_H} {r : am_R} (hc : cod pc = some r) (hs : am_stp cp nL lim rt pc r lv st h (am_X cp nL lim rt cod E Q) Q) : am_X cp nL lim rt cod E Q pc lv st h :=
  fun P hE hP => hP _ _ _ _ r _ Q hc hs (fun _ _ _ _ k => k P hE hP) (fun _ _ q => q)
theorem am_xexit {cp : am_P} {nL lim : Nat} {rt : Option FieldType} {cod : Nat → Option am_R} {E : Nat → am_V → List Value → am_H → Prop} {Q : am_Q} {pc : Nat} {lv : am_V} {st : List Value} {h : am_H} (he : E pc lv st h) : am_X cp nL lim rt cod E Q pc lv st h :=
  fun _ hE _ => hE _ _ _ _ he
theorem am_step {cp : am_P} {nL lim : Nat} {rt : Option FieldType} {cod : Nat → Option am_R} {Q : am_Q} {pc : Nat} {lv : am_V} {st : List Value} {h : am_H} {r : am_R} (hc : cod pc = some r) (hs : am_stp cp nL lim rt pc r lv st h (am_W cp nL lim rt cod Q) Q) : am_W cp nL lim rt cod Q pc lv st h := am_xstep hc hs
theorem am_X.mono {cp : am_P} {nL lim : Nat} {rt : Option FieldType} {cod : Nat → Option am_R} {E E' : Nat → am_V → List Value → am_H → Prop} {Q Q' : am_Q} {pc : Nat} {lv : am_V} {st : List Value} {h : am_H} (hE : ∀ pc lv st h, E pc lv st h → am_X cp nL lim rt cod E' Q' pc lv st h) (hQ : ∀ v h, Q v h → Q' v h) (k : am_X cp nL lim rt cod E Q pc lv st h) : am_X cp nL lim rt cod E' Q' pc lv st h :=
  fun P hE' hP => k P (fun pc lv st h he => hE pc lv st h he P hE' hP) fun pc lv st h r K0 Q0 hc hs hk hq => hP pc lv st h r K0 Q0 hc hs hk fun v h x => hQ v h (hq v h x)
theorem am_W.mono {cp : am_P} {nL lim : Nat} {rt : Option FieldType} {cod : Nat → Option am_R} {Q Q' : am_Q} {pc : Nat} {lv : am_V} {st : List Value} {h : am_H} (hQ : ∀ v h, Q v h → Q' v h) (k : am_W cp nL lim rt cod Q pc lv st h) : am_W cp nL lim rt cod Q' pc lv st h :=
  am_X.mono (fun _ _ _ _ q => q.elim) hQ k
/-- the locals at a method's entry -/
def am_nL (n : Nat) : Nat := match am_mi[n]? with
  | some q => q.2.2.1
  | none => 0
def am_rt (n : Nat) : Option FieldType := match am_mi[n]? with
  | some q => q.2.2.2
  | none => none
def am_by (n : Nat) : ByteArray := match am_mi[n]? with
  | some q => q.2.1
  | none => ⟨#[]⟩
/-- calls of depth at most d -/
def am_call (cods : Nat → Nat → Option am_R) : Nat → am_P
  | 0 => fun _ _ _ _ => False
  | d + 1 => fun n args h Q => am_call cods d n args h Q ∨ ((lg_sl args).length ≤ am_nL n ∧ am_W (am_call cods d) (am_nL n) (h.2.2.2.2 + am_al n) (am_rt n) (cods n) (fun v h' => h'.2.2.2.2 = h.2.2.2.2 + am_al n ∧ Q v h') 0 (lv_args 0 args) [] h)
theorem am_call.up {cods : Nat → Nat → Option am_R} {d e n : Nat} {args : List Value} {h : am_H} {Q : am_Q} (k : am_call cods d n args h Q) (hd : d ≤ e) : am_call cods e n args h Q := by
  induction hd with
  | refl => exact k
  | step _ ih => exact Or.inl ih
theorem am_call.mono {cods : Nat → Nat → Option am_R} {d n : Nat} {args : List Value} {h : am_H} {Q Q' : am_Q} (hQ : ∀ v h, Q v h → Q' v h) (k : am_call cods d n args h Q) : am_call cods d n args h Q' := by
  induction d with
  | zero => exact k
  | succ d ih => exact k.elim (fun k => Or.inl (ih k)) (fun k => Or.inr ⟨k.1, k.2.mono (fun v h q => ⟨q.1, hQ v h q.2⟩)⟩)
end
section
/-! WORDS, ROWS, WORLD: what the tables give, when a row is right, the cells that an abstract heap stands for -/
theorem am_mem_of {α : Type} {f : Cond → Option α} {L : List α} (h : lw_tbl.filterMap f = L) {k : Nat} {x : α} (hk : L[k]? = some x) : ∃ w, w ∈ lw_tbl ∧ f w = some x := by
  have h1 := List.mem_of_getElem? hk
  rw [← h] at h1
  exact List.mem_filterMap.mp h1
theorem am_mem_in {α : Type} {f : Cond → Option α} {x : α} (h1 : x ∈ lw_tbl.filterMap f) : ∃ w, w ∈ lw_tbl ∧ f w = some x := List.mem_filterMap.mp h1
def am_gw : List Cond := lw_tbl.filter goodWord
theorem am_gw_of {w : Cond} (h : w ∈ lw_tbl) (hg : goodWord w = true) : w ∈ am_gw := List.mem_filter.mpr ⟨h, hg⟩
theorem am_gw_code {n : Nat} {q : MethodName × ByteArray × Nat × Option FieldType} (h : am_mi[n]? = some q) : Cond.code q.1 q.2.1 q.2.2.1 q.2.2.2 ∈ am_gw := by
  obtain ⟨w, h1, h2⟩ := am_mem_of am_mi_eq h
  unfold am_isCode at h2
  split at h2
  · cases h2
    exact am_gw_of h1 rfl
  · cases h2
theorem am_gw_fl {k : Nat} {a b c d : String} {i : Nat} (h : am_fl[k]? = some (a, i, b, c, d)) : Cond.fieldLink a i b c d ∈ am_gw := by
  obtain ⟨w, h1, h2⟩ := am_mem_of am_fl_eq h
  unfold am_isFL at h2
  split at h2
  · cases h2
    exact am_gw_of h1 rfl
  · cases h2
theorem am_gw_cl {k : Nat} {a : String} {i : Nat} {v : Int64} (h : am_cl[k]? = some (a, i, v)) : Cond.constantLong a i v ∈ am_gw := by
  obtain ⟨w, h1, h2⟩ := am_mem_of am_cl_eq h
  unfold am_isCL at h2
  split at h2
  · cases h2
    exact am_gw_of h1 rfl
  · cases h2
theorem am_gw_ci {k : Nat} {a : String} {i : Nat} {v : Int32} (h : am_ci[k]? = some (a, i, v)) : Cond.constant a i v ∈ am_gw := by
  obtain ⟨w, h1, h2⟩ := am_mem_of am_ci_eq h
  unfold am_isCI at h2
  split at h2
  · cases h2
    exact am_gw_of h1 rfl
  · cases h2
theorem am_gw_ml {k n : Nat} {a : String} {i : Nat} (h : am_ml[k]? = some (a, i, n)) (hn : ¬ n = 999) : Cond.methodLink a i (am_y n) ∈ am_gw := by
  have hk : k < am_ml.length := (List.getElem?_eq_some_iff.mp h).1
  have hk2 : k < am_mlq.length := am_ml_eq.2 ▸ hk
  have hz : (am_ml.zip am_mlq)[k]? = some ((a, i, n), am_mlq[k]) := by
    rw [List.getElem?_zip_eq_some]
    exact ⟨h, List.getElem?_eq_getElem hk2⟩
  have h1 := List.all_eq_true.mp am_ml_eq.1 _ (List.mem_of_getElem? hz)
  simp only [Bool.and_eq_true, decide_eq_true_eq, Bool.or_eq_true] at h1
  obtain ⟨e1, e2, e3⟩ := h1
  have e3 := e3.resolve_right hn
  obtain ⟨w, w1, w2⟩ := am_mem_in (f := am_isML) (x := am_mlq[k]) (List.getElem_mem hk2)
  unfold am_isML at w2
  split at w2
  · have w2 := (Option.some.inj w2)
    rw [← w2] at e1 e2 e3
    rw [e1, e2, e3]
    exact am_gw_of w1 rfl
  · cases w2
def am_stw : List MethodName := lw_tbl.filterMap am_isSt
def am_inw : List MethodName := lw_tbl.filterMap am_isIn
def am_sew : List MethodName := lw_tbl.filterMap am_isSe
def am_iiw : List String := lw_tbl.filterMap am_isIi
theorem am_gw_st {y : MethodName} (h : y ∈ am_stw) : Cond.static y ∈ am_gw := by
  obtain ⟨w, h1, h2⟩ := am_mem_in h
  unfold am_isSt at h2
  split at h2
  · cases h2
    exact am_gw_of h1 rfl
  · cases h2
theorem am_gw_in {y : MethodName} (h : y ∈ am_inw) : Cond.instanceMethod y ∈ am_gw := by
  obtain ⟨w, h1, h2⟩ := am_mem_in h
  unfold am_isIn at h2
  split at h2
  · cases h2
    exact am_gw_of h1 rfl
  · cases h2
theorem am_gw_ii {y : String} (h : y ∈ am_iiw) : Cond.initialized y ∈ am_gw := by
  obtain ⟨w, h1, h2⟩ := am_mem_in h
  unfold am_isIi at h2
  split at h2
  · cases h2
    exact am_gw_of h1 rfl
  · cases h2
theorem am_gw_se {y : MethodName} (h : y ∈ am_sew) : Cond.selects y.cls y y ∈ am_gw := by
  obtain ⟨w, h1, h2⟩ := am_mem_in h
  unfold am_isSe at h2
  split at h2
  · rename_i c y' z
    by_cases hc : (decide (c = y'.cls) && decide (y' = z)) = true
    · rw [hc] at h2
      simp only [Bool.and_eq_true, decide_eq_true_eq] at hc
      obtain ⟨rfl, rfl⟩ := hc
      cases h2
      exact am_gw_of h1 rfl
    · rw [Bool.not_eq_true] at hc
      rw [hc] at h2
      cases h2
  · cases h2
/-- the length of an instruction; 0 for a switch -/
def am_len : Instr → Nat
  | .bipush _ | .ldc _ | .iload _ | .lload _ | .aload _ | .istore _ | .lstore _ | .astore _ | .newarray _ => 2
  | .sipush _ | .ldc_w _ | .ldc2_w _ | .iinc _ _ | .goto _ | .if_icmp _ _ | .ifCond _ _ | .getfield _ | .putfield _ | .getstatic _ | .invokevirtual _ | .invokestatic _ | .invokespecial _ | .new _ | .anewarray _ => 3
  | .tableswitch _ _ _ _ | .lookupswitch _ _ => 0
  | _ => 1
def am_nf (ci : Nat) : Nat := (am_kds.getD ci []).length
def am_fd (ci k : Nat) : String × String × String × Bool := match vwCl[ci]? with
  | some q => q.2.1 k
  | none => ("", "", "", false)
def am_cn (ci : Nat) : String := match vwCl[ci]? with
  | some q => q.1
  | none => ""
def am_prm (y : MethodName) : Option Nat := (parseMethodDescriptor y.desc).map (fun d => d.parameters.length)
def am_hd (y : MethodName) : Bool := decide (y.cls ≠ "java/lang/invoke/MethodHandle") && decide (y.cls ≠ "java/lang/invoke/VarHandle")
def am_tc : List FieldType := [.char, .int, .long, .boolean]
def am_atc : ArrayType → Nat
  | .char => 12
  | .int => 13
  | .long => 14
  | .boolean => 15
  | _ => 99
def am_ex (ini : Bool) (own : String) (pc : Nat) (i : Instr) (a b c d : Nat) : Bool := match i with
  | .goto o | .if_icmp _ o | .ifCond _ o => decide ((pc : Int) + o = (a : Int))
  | .getstatic k => (Nat.beq b 0 && decide (am_fl[c]? = some (own, k, "java/lang/String", "COMPACT_STRINGS", "Z")))
  | .getfield k => bif Nat.beq b 20 then (Nat.beq a 0 && decide (am_fl[c]? = some (own, k, "java/lang/String", "value", "[B"))) || (Nat.beq a 1 && decide (am_fl[c]? = some (own, k, "java/lang/String", "coder", "B"))) else decide (am_fl[c]? = some (own, k, (am_fd b a).1, (am_fd b a).2.1, (am_fd b a).2.2.1)) && (decide (b < 12) && decide (a < am_nf b))
  | .putfield k => decide (am_fl[c]? = some (own, k, (am_fd b a).1, (am_fd b a).2.1, (am_fd b a).2.2.1)) && (decide (b < 12) && (decide (a < am_nf b) && (!(am_fd b a).2.2.2 || (ini && decide ((am_fd b a).1 = own)))))
  | .ldc2_w k => decide ((am_cl[c]?).map (fun q => (q.1, q.2.1)) = some (own, k))
  | .ldc k => bif Nat.beq b 1 then decide ((am_stt[c]?).map (fun q => (q.1, q.2.1)) = some (own, k)) else decide ((am_ci[c]?).map (fun q => (q.1, q.2.1)) = some (own, k))
  | .ldc_w k => !(Nat.beq b 1) && decide ((am_ci[c]?).map (fun q => (q.1, q.2.1)) = some (own, k))
  | .new k => decide (am_ck[c]? = some (own, k, am_cn b)) && (decide (b < 12) && decide (am_cn b ∈ am_iiw))
  | .newarray t => Nat.beq b (am_atc t) && Nat.ble b 15
  | .anewarray k => (Nat.beq b 16 && decide (am_ck[c]? = some (own, k, "MistCanton$Mark"))) || (Nat.beq b 17 && decide (am_ck[c]? = some (own, k, "MistCanton$State")))
  | .invokespecial k => decide (am_ml[c]? = some (own, k, a)) && ((Nat.beq a 1 && Nat.beq b 0) || decide ((a, b) ∈ am_ils))
  | .invokevirtual k => decide (am_ml[c]? = some (own, k, a)) && (bif Nat.beq d 20 then decide ((a, b) ∈ am_svl) else decide ((a, b, d) ∈ am_vls))
  | .invokestatic k => (bif Nat.beq d 1 then decide (am_nl[c]? = some (own, k, a)) else decide (am_ml[c]? = some (own, k, a))) && decide ((a, b) ∈ am_sls)
  | _ => true
def am_okB (ini : Bool) (own : String) (cc : ByteArray) (pc : Nat) (r : am_R) : Bool := match r with
  | (i, nx, a, b, c, d) => match i with
    | .tableswitch df lo hi os => (match decode cc pc with
      | .ok (i', _) => decide (i' = .tableswitch df lo hi os)
      | _ => false) && (decide (0 ≤ (pc : Int) + df) && (os.toList.all (fun o => decide (0 ≤ (pc : Int) + o)) && decide ((os.size : Int) = hi - lo + 1)))
    | .lookupswitch df ps => (match decode cc pc with
      | .ok (i', _) => decide (i' = .lookupswitch df ps)
      | _ => false) && (decide (0 ≤ (pc : Int) + df) && (ps.toList.all (fun o => decide (0 ≤ (pc : Int) + o.2)) && (ps.toList.zip (ps.toList.drop 1)).all (fun (a, next) => a.1 < next.1)))
    | i => decide (decode cc pc = .ok (i, am_len i)) && (decide (nx = pc + am_len i) && am_ex ini own pc i a b c d)
/-- what the tables say of the methods that are called -/
def am_mok (n : Nat) : Bool := decide ((am_y n).cls ∈ am_iiw) && (decide (n < am_mi.length) && (decide (am_nL n ≤ 21) && (am_hd (am_y n) && !(Nat.beq n 999))))
theorem am_vls_ok : am_vls.all (fun q => decide (am_y q.1 ∈ am_inw) && (decide (am_y q.1 ∈ am_sew) && (decide (am_prm (am_y q.1) = some q.2.1) && (decide (am_cn q.2.2 = (am_y q.1).cls) && (decide (q.2.2 < 12) && am_mok q.1))))) = true := by decide +kernel
theorem am_svl_ok : am_svl.all (fun q => decide (am_y q.1 ∈ am_inw) && (decide (am_y q.1 ∈ am_sew) && (decide (am_prm (am_y q.1) = some q.2) && (decide ((am_y q.1).cls = "java/lang/String") && am_mok q.1)))) = true := by decide +kernel
theorem am_sls_ok : am_sls.all (fun q => decide (am_y q.1 ∈ am_stw) && (decide (am_prm (am_y q.1) = some q.2) && am_mok q.1)) = true := by decide +kernel
theorem am_ils_ok : am_ils.all (fun q => decide (am_y q.1 ∈ am_inw) && (decide (am_prm (am_y q.1) = some q.2) && (decide ((am_y q.1).name = "<init>") && (decide (am_rt q.1 = none) && am_mok q.1)))) = true := by decide +kernel
theorem am_iaw_ok : (List.range 12).all (fun ci => decide ((am_cn ci, am_nf ci) ∈ lw_tbl.filterMap am_isIa)) = true := by decide +kernel
theorem am_gw_ck {k : Nat} {a b : String} {i : Nat} (h : am_ck[k]? = some (a, i, b)) : Cond.classLink a i b ∈ am_gw := by
  obtain ⟨w, h1, h2⟩ := am_mem_of am_ck_eq h
  unfold am_isCk at h2
  split at h2
  · cases h2
    exact am_gw_of h1 rfl
  · cases h2
theorem am_gw_ia {a : String} {i : Nat} (h : (a, i) ∈ lw_tbl.filterMap am_isIa) : Cond.instantiable a i ∈ am_gw := by
  obtain ⟨w, h1, h2⟩ := am_mem_in h
  unfold am_isIa at h2
  split at h2
  · cases h2
    exact am_gw_of h1 rfl
  · cases h2
/-- values and cells -/
def am_cv (ad : Nat → Nat) : Value → Value
  | .ref a => .ref (ad a)
  | v => v
theorem am_cv_cat (ad : Nat → Nat) (v : Value) : (am_cv ad v).category = v.category := by cases v <;> rfl
def am_cl2 (ad : Nat → Nat) (lv : am_V) : am_V := lv.map (fun q => (q.1, am_cv ad q.2))
def am_cell (cA : Nat → ClassId) (ad : Nat → Nat) (h : am_H) (o : Nat) (e : Nat × Nat) : va_E :=
  if e.1 < 12 then .inr (e.1, (List.range (am_nf e.1)).map (fun k => am_cv ad (am_gv h e.1 k o)))
  else if e.1 = 14 then .inl (cA 14, e.2, .inr (.inl (h.2.1 o)))
  else if e.1 = 16 ∨ e.1 = 17 then .inl (cA e.1, e.2, .inr (.inr (.inr (.inr (fun j => (h.2.2.1 o j).map ad)))))
  else .inl (cA e.1, e.2, .inl (h.1 o))
def am_cc (cA : Nat → ClassId) (ad : Nat → Nat) (h : am_H) : va_W := (List.range h.2.2.2.2).map (fun o => (ad o, am_cell cA ad h o (am_shl.getD o (99, 0))))
theorem am_so_lt {h : am_H} {o : Nat} {e : Nat × Nat} (he : am_so h o = some e) : o < h.2.2.2.2 ∧ am_shl[o]? = some e := by
  unfold am_so at he
  cases hq : Nat.blt o h.2.2.2.2 with
  | true =>
    rw [hq] at he
    exact ⟨Nat.le_of_ble_eq_true hq, he⟩
  | false =>
    rw [hq] at he
    cases he
theorem am_cc_at {cA : Nat → ClassId} {ad : Nat → Nat} {h : am_H} {o : Nat} {e : Nat × Nat} (he : am_so h o = some e) : (am_cc cA ad h)[o]? = some (ad o, am_cell cA ad h o e) := by
  obtain ⟨hlt, he⟩ := am_so_lt he
  obtain ⟨hlt2, hv⟩ := List.getElem?_eq_some_iff.mp he
  simp [am_cc, hlt, hlt2, hv]
theorem am_cc_in {cA : Nat → ClassId} {ad : Nat → Nat} {h : am_H} {o : Nat} {q : Nat × va_E} (hq : (am_cc cA ad h)[o]? = some q) : o < h.2.2.2.2 ∧ q.1 = ad o := by
  unfold am_cc at hq
  rw [List.getElem?_map] at hq
  cases hr : (List.range h.2.2.2.2)[o]? with
  | none => rw [hr] at hq; cases hq
  | some x =>
    rw [hr] at hq
    obtain ⟨h1, h2⟩ := List.getElem?_eq_some_iff.mp hr
    have h3 : x = o := by rw [← h2]; simp
    cases hq
    exact ⟨by simpa using h1, by rw [h3]⟩
theorem am_cc_D {cA : Nat → ClassId} {ad : Nat → Nat} {base : Nat} {h : am_H} (hc : h.2.2.2.2 ≤ am_shl.length) (had : ∀ o, o < am_shl.length → ad o = base + o) : va_D (fun q => base ≤ q) (am_cc cA ad h) := by
  refine ⟨fun i j p q hi hj e => ?_, fun k q hk => ?_⟩
  · obtain ⟨a1, a2⟩ := am_cc_in hi
    obtain ⟨b1, b2⟩ := am_cc_in hj
    rw [a2, b2, had i (by omega), had j (by omega)] at e
    omega
  · obtain ⟨a1, a2⟩ := am_cc_in hk
    show base ≤ q.1
    rw [a2, had k (by omega)]
    omega
theorem am_cc_set {cA : Nat → ClassId} {ad : Nat → Nat} {h h' : am_H} {o : Nat} {e : Nat × Nat} (he : am_so h o = some e) (hn : h'.2.2.2.2 = h.2.2.2.2) (hs : ∀ o' e', o' ≠ o → am_cell cA ad h' o' e' = am_cell cA ad h o' e') :
    am_cc cA ad h' = (am_cc cA ad h).set o (ad o, am_cell cA ad h' o e) := by
  have he' : am_so h' o = some e := by unfold am_so; rw [hn]; exact he
  have hlt : o < h.2.2.2.2 := (am_so_lt he).1
  apply List.ext_getElem?
  intro k
  by_cases hk : k = o
  · subst hk
    rw [am_cc_at he', List.getElem?_set_self (by simp [am_cc, hlt])]
  · rw [List.getElem?_set_ne (fun q => hk q.symm)]
    simp only [am_cc, List.getElem?_map, hn]
    cases hr : (List.range h.2.2.2.2)[k]? with
    | none => rfl
    | some x =>
      obtain ⟨h1, h2⟩ := List.getElem?_eq_some_iff.mp hr
      have h3 : x = k := by rw [← h2]; simp
      subst h3
      simp only [Option.map_some]
      rw [hs _ _ hk]
theorem am_gv_new {h : am_H} {ci j o' : Nat} (hn : o' ≠ h.2.2.2.2) : am_gv (am_nx h) ci j o' = am_gv h ci j o' := by
  unfold am_gv am_nx
  split <;> simp [hn]
theorem am_cell_new {cA : Nat → ClassId} {ad : Nat → Nat} {h : am_H} (o' : Nat) (e' : Nat × Nat) (hn : o' ≠ h.2.2.2.2) : am_cell cA ad (am_nx h) o' e' = am_cell cA ad h o' e' := by
  unfold am_cell
  simp only [am_gv_new hn]
  simp [am_nx, hn]
theorem am_cc_new {cA : Nat → ClassId} {ad : Nat → Nat} {h : am_H} {e : Nat × Nat} (he : am_shl[h.2.2.2.2]? = some e) : am_cc cA ad (am_nx h) = am_cc cA ad h ++ [(ad h.2.2.2.2, am_cell cA ad (am_nx h) h.2.2.2.2 e)] := by
  obtain ⟨hlt2, hv⟩ := List.getElem?_eq_some_iff.mp he
  have h1 : (am_nx h).2.2.2.2 = h.2.2.2.2 + 1 := rfl
  unfold am_cc
  rw [h1, List.range_succ, List.map_append]
  congr 1
  · apply List.map_congr_left
    intro o ho
    have : o ≠ h.2.2.2.2 := by
      have := List.mem_range.mp ho
      omega
    rw [am_cell_new o _ this]
  · simp [hlt2, hv]
theorem am_gv_oI {h : am_H} {o k : Nat} {v : Int32} {ci j o' : Nat} (hn : o' ≠ o) : am_gv (am_wI h o k v) ci j o' = am_gv h ci j o' := by
  unfold am_gv am_wI
  split <;> simp [hn]
theorem am_gv_oL {h : am_H} {o k : Nat} {v : Int64} {ci j o' : Nat} (hn : o' ≠ o) : am_gv (am_wL h o k v) ci j o' = am_gv h ci j o' := by
  unfold am_gv am_wL
  split <;> simp [hn]
theorem am_gv_oR {h : am_H} {o k : Nat} {v : Option Nat} {ci j o' : Nat} (hn : o' ≠ o) : am_gv (am_wR h o k v) ci j o' = am_gv h ci j o' := by
  unfold am_gv am_wR
  split <;> simp [hn]
theorem am_cell_oI {cA : Nat → ClassId} {ad : Nat → Nat} {h : am_H} {o k : Nat} {v : Int32} (o' : Nat) (e' : Nat × Nat) (hn : o' ≠ o) : am_cell cA ad (am_wI h o k v) o' e' = am_cell cA ad h o' e' := by
  unfold am_cell
  simp only [am_gv_oI hn]
  simp [am_wI, hn]
theorem am_cell_oL {cA : Nat → ClassId} {ad : Nat → Nat} {h : am_H} {o k : Nat} {v : Int64} (o' : Nat) (e' : Nat × Nat) (hn : o' ≠ o) : am_cell cA ad (am_wL h o k v) o' e' = am_cell cA ad h o' e' := by
  unfold am_cell
  simp only [am_gv_oL hn]
  simp [am_wL, hn]
theorem am_cell_oR {cA : Nat → ClassId} {ad : Nat → Nat} {h : am_H} {o k : Nat} {v : Option Nat} (o' : Nat) (e' : Nat × Nat) (hn : o' ≠ o) : am_cell cA ad (am_wR h o k v) o' e' = am_cell cA ad h o' e' := by
  unfold am_cell
  simp only [am_gv_oR hn]
  simp [am_wR, hn]
end
section
/-! SOUNDNESS: a step of the abstract machine is a step of the machine -/
/-- the array classes in their order -/
def am_tys (cA : Nat → ClassId) : List (ClassId × FieldType) := [(cA 12, .char), (cA 13, .int), (cA 14, .long), (cA 15, .boolean), (cA 16, .object "MistCanton$Mark"), (cA 17, .object "MistCanton$State")]
def am_nw (U : State) : Prop := ∀ (k i n : Nat) (a : String), am_nl[k]? = some (a, i, n) → va_Nw (.methodLinkNest a i (am_y n) "MistCanton") U
/-- String constants, and the statics that their methods read -/
def am_SE (ad : Nat → Nat) (A : Nat → Prop) (U : State) (H : Heap) : Prop := (∀ i : Nat, i < 26 → vk_S 1 [am_sln.getD i 0] [am_sby.getD i []] (fun _ => ad (4000000 + i)) (fun _ => ad (5000000 + i)) A U H) ∧ (∀ (i k : Nat) (own tx : String), am_stt[i]? = some (own, k, tx) → vk_R own k tx (ad (4000000 + i)) U) ∧ va_Z "java/lang/String" "COMPACT_STRINGS" "Z" (.int 1) A U H ∧ (va_Z "jdk/internal/util/Preconditions" "SIOOBE_FORMATTER" "Ljava/util/function/BiFunction;" .null A U H ∨ va_Z "jdk/internal/util/Preconditions" "SIOOBE_FORMATTER" "Ljava/util/function/BiFunction;" (.ref (ad 6000000)) A U H)
def am_E (D : va_G) (cA : Nat → ClassId) (ad : Nat → Nat) (base b L : Nat) (xs : Nat → Int32) (U : State) : Prop := va_K D vwCl (am_tys cA) U ∧ am_nw U ∧ va_X b L xs U U.heap ∧ va_AO "MistCanton$Mark" U ∧ va_AO "MistCanton$State" U ∧ am_SE ad (fun q => base ≤ q) U U.heap
def am_ro (L : Nat) (xs : Nat → Int32) (h : am_H) : Prop := h.2.2.2.1 = L ∧ ∀ j, j < L → h.1 3000000 j = xs j
def am_G (ad : Nat → Nat) (base b L : Nat) : Prop := (∀ o, o < am_shl.length → ad o = base + o) ∧ ad 3000000 = b ∧ b < base ∧ L < 2 ^ 31
theorem am_SE.warm {ad : Nat → Nat} {A : Nat → Prop} {s U : State} (hW : s.WarmedH U.vm) (hq : ∀ a : Nat, a < s.heap.size → ¬ A a → U.heap[a]? = s.heap[a]?) (h : am_SE ad A s s.heap) : am_SE ad A U U.heap :=
  ⟨fun i hi => ((h.1 i hi).moved hW.alike).kept hq, fun i k own tx hk => (h.2.1 i k own tx hk).warm hW, (h.2.2.1.moved hW.alike).kept hq, h.2.2.2.imp (fun z => (z.moved hW.alike).kept hq) (fun z => (z.moved hW.alike).kept hq)⟩
theorem am_SE.calling {ad : Nat → Nat} {A : Nat → Prop} {U : State} {g : JFrame} {mk : MethodId} {a : Array Value} (h : am_SE ad A U U.heap) : am_SE ad A (U.calling g mk a) (U.calling g mk a).heap :=
  ⟨fun i hi => vk_S.moved (u := U) (U := U.calling g mk a) (Vm.Alike.refl U.vm) (h.1 i hi), fun i k own tx hk => vk_R.same (u := U) rfl (h.2.1 i k own tx hk), va_Z.moved (u := U) (U := U.calling g mk a) (Vm.Alike.refl U.vm) h.2.2.1, h.2.2.2.imp (fun z => va_Z.moved (u := U) (U := U.calling g mk a) (Vm.Alike.refl U.vm) z) (fun z => va_Z.moved (u := U) (U := U.calling g mk a) (Vm.Alike.refl U.vm) z)⟩
theorem am_E.warm {D : va_G} {cA : Nat → ClassId} {ad : Nat → Nat} {base b L : Nat} {xs : Nat → Int32} {s U : State} (hW : s.WarmedH U.vm) (hq : ∀ a : Nat, a < s.heap.size → ¬ base ≤ a → U.heap[a]? = s.heap[a]?) (hb1 : b < s.heap.size) (hb2 : ¬ base ≤ b) (h : am_E D cA ad base b L xs s) : am_E D cA ad base b L xs U :=
  ⟨h.1.moved hW.alike, fun k i n a hk => (h.2.1 k i n a hk).warmM hW, (h.2.2.1.moved hW.alike).kept (hq b hb1 hb2), h.2.2.2.1.moved hW.alike, h.2.2.2.2.1.moved hW.alike, h.2.2.2.2.2.warm hW hq⟩
theorem am_E.calling {D : va_G} {cA : Nat → ClassId} {ad : Nat → Nat} {base b L : Nat} {xs : Nat → Int32} {U : State} {g : JFrame} {mk : MethodId} {a : Array Value} (h : am_E D cA ad base b L xs U) : am_E D cA ad base b L xs (U.calling g mk a) :=
  ⟨va_K.moved (u := U) (U := U.calling g mk a) (Vm.Alike.refl U.vm) h.1, fun k i n x hk => va_Nw.same (u := U) rfl rfl (h.2.1 k i n x hk), va_X.moved (u := U) (U := U.calling g mk a) (Vm.Alike.refl U.vm) h.2.2.1, va_AO.moved (u := U) (U := U.calling g mk a) (Vm.Alike.refl U.vm) h.2.2.2.1, va_AO.moved (u := U) (U := U.calling g mk a) (Vm.Alike.refl U.vm) h.2.2.2.2.1, h.2.2.2.2.2.calling⟩
def am_A (base : Nat) : Nat → Prop := fun q => base ≤ q
def am_ws (n : Nat) : List Cond := Cond.code (am_y n) (am_by n) (am_nL n) (am_rt n) :: am_gw
def am_siz (e : Nat × Nat) : Nat := bif Nat.blt e.1 12 then am_nf e.1 else e.2
/-- the slots of the first k objects -/
def am_ss (k : Nat) : Nat := ((am_shl.take k).map am_siz).sum
theorem am_ss_succ {k : Nat} {e : Nat × Nat} (h : am_shl[k]? = some e) : am_ss (k + 1) = am_ss k + am_siz e := by
  unfold am_ss
  rw [List.take_succ, h]
  simp
theorem am_ss_mono {a b : Nat} (h : a ≤ b) : am_ss a ≤ am_ss b := by
  induction h with
  | refl => exact Nat.le_refl _
  | @step m _ ih =>
    cases hq : am_shl[m]? with
    | none =>
      refine Nat.le_trans ih (Nat.le_of_eq ?_)
      unfold am_ss
      rw [List.take_succ, hq]
      simp
    | some e =>
      rw [am_ss_succ hq]
      omega
def am_rm (d mc ms : Nat) : Room := { frames := d, cells := mc, slots := ms, locals := 40 * d }
def am_ms (n : Nat) (h : am_H) : Nat := am_ss (h.2.2.2.2 + am_al n) - am_ss h.2.2.2.2
/-- while objects are made they lie one behind the other -/
def am_wf (base : Nat) (h : am_H) (H : Heap) : Prop := h.2.2.2.2 ≤ am_shl.length ∧ (h.2.2.2.2 < am_shl.length → H.size = base + h.2.2.2.2)
def am_Pc (D : va_G) (cA : Nat → ClassId) (ad : Nat → Nat) (base b L : Nat) (xs : Nat → Int32) (args : List Value) (h : am_H) : Array Value → State → Prop :=
  va_Pc (args.map (am_cv ad)) (fun U => am_E D cA ad base b L xs U ∧ base ≤ U.heap.size ∧ va_P D vwCl (am_cc cA ad h) U.heap ∧ am_ro L xs h ∧ am_wf base h U.heap)
def am_Qc (D : va_G) (cA : Nat → ClassId) (ad : Nat → Nat) (base L : Nat) (xs : Nat → Int32) (Q : am_Q) : Array Value → State → Outcome → State → Prop := fun _ st o t =>
  (∃ v h', o = .returned (v.map (am_cv ad)) ∧ Q v h' ∧ va_P D vwCl (am_cc cA ad h') t.heap ∧ am_ro L xs h' ∧ h'.2.2.2.2 ≤ am_shl.length) ∧ va_F (am_A base) st t
theorem am_Pc.blind {D : va_G} {cA : Nat → ClassId} {ad : Nat → Nat} {base b L : Nat} {xs : Nat → Int32} {args : List Value} {h : am_H} : FrameBlind (am_Pc D cA ad base b L xs args h) := by
  intro a U g mk hp
  obtain ⟨h1, h2, h3, h4, h5, h6⟩ := hp
  exact ⟨h1, h2.calling, h3, h4, h5, h6⟩
theorem am_pI.inv {st : List Value} {k : Int32 → List Value → Prop} (h : am_pI st k) : ∃ x r, st = .int x :: r ∧ k x r := by
  unfold am_pI at h
  split at h
  · exact ⟨_, _, rfl, h⟩
  · exact h.elim
theorem am_pL.inv {st : List Value} {k : Int64 → List Value → Prop} (h : am_pL st k) : ∃ x r, st = .long x :: r ∧ k x r := by
  unfold am_pL at h
  split at h
  · exact ⟨_, _, rfl, h⟩
  · exact h.elim
theorem am_pR.inv {st : List Value} {k : Nat → List Value → Prop} (h : am_pR st k) : ∃ x r, st = .ref x :: r ∧ k x r := by
  unfold am_pR at h
  split at h
  · exact ⟨_, _, rfl, h⟩
  · exact h.elim
theorem am_pV.inv {st : List Value} {k : Value → List Value → Prop} (h : am_pV st k) : ∃ x r, st = x :: r ∧ k x r := by
  unfold am_pV at h
  split at h
  · exact ⟨_, _, rfl, h⟩
  · exact h.elim
theorem am_li.inv {lv : am_V} {i : Nat} {k : Int32 → Prop} (h : am_li lv i k) : ∃ x, am_lk lv i = some (.int x) ∧ k x := by
  unfold am_li at h
  split at h
  · exact ⟨_, ‹_›, h⟩
  · exact h.elim
theorem am_ll.inv {lv : am_V} {i : Nat} {k : Int64 → Prop} (h : am_ll lv i k) : ∃ x, am_lk lv i = some (.long x) ∧ k x := by
  unfold am_ll at h
  split at h
  · exact ⟨_, ‹_›, h⟩
  · exact h.elim
theorem am_la.inv {lv : am_V} {i : Nat} {k : Nat → Prop} (h : am_la lv i k) : ∃ x, am_lk lv i = some (.ref x) ∧ k x := by
  unfold am_la at h
  split at h
  · exact ⟨_, ‹_›, h⟩
  · exact h.elim
theorem am_lk_mem {lv : am_V} {i : Nat} {v : Value} (h : am_lk lv i = some v) : (i, v) ∈ lv := by
  induction lv with
  | nil => cases h
  | cons q r ih =>
    unfold am_lk at h
    cases hq : Nat.beq q.1 i with
    | true =>
      rw [hq] at h
      have e : q.1 = i := Nat.eq_of_beq_eq_true hq
      have e2 : q.2 = v := Option.some.inj h
      rw [← e, ← e2]
      exact List.mem_cons_self
    | false =>
      rw [hq] at h
      exact List.mem_cons_of_mem _ (ih h)
theorem am_lk_at {ad : Nat → Nat} {ls : Array Slot} {nL : Nat} {lv : am_V} {i : Nat} {v : Value} (hl : lv_has ls nL (am_cl2 ad lv)) (h : am_lk lv i = some v) : ls[i]? = some (.val (am_cv ad v)) :=
  hl.2.2 (i, am_cv ad v) (List.mem_map.mpr ⟨(i, v), am_lk_mem h, rfl⟩)
theorem am_lk_pl {ad : Nat → Nat} {lv : am_V} {i : Nat} {v : Value} (h : am_lk lv i = some v) : ∃ k : Nat, (am_cl2 ad lv)[k]? = some (i, am_cv ad v) := by
  obtain ⟨k, hk, e⟩ := List.getElem_of_mem (am_lk_mem h)
  exact ⟨k, by simp [am_cl2, hk, e]⟩
theorem am_s1_cl (ad : Nat → Nat) (lv : am_V) (i : Nat) (v : Value) : (i, am_cv ad v) :: (am_cl2 ad lv).filter (fun q => !(q.1 == i) && !(q.1 + 1 == i && q.2.category == 2)) = am_cl2 ad (am_s1 lv i v) := by
  simp only [am_cl2, am_s1, List.map_cons, List.filter_map]
  congr 2
  apply List.filter_congr
  intro q _
  simp [am_cv_cat]
theorem am_s2_cl (ad : Nat → Nat) (lv : am_V) (i : Nat) (v : Value) : (i, am_cv ad v) :: (am_cl2 ad lv).filter (fun q => !(q.1 == i) && (!(q.1 == i + 1) && !(q.1 + 1 == i && q.2.category == 2))) = am_cl2 ad (am_s2 lv i v) := by
  simp only [am_cl2, am_s2, List.map_cons, List.filter_map]
  congr 2
  apply List.filter_congr
  intro q _
  simp [am_cv_cat]
theorem am_pop_inv : ∀ {n : Nat} {acc st As r : List Value}, am_pop n acc st = some (As, r) → ∃ B, As = B ++ acc ∧ B.length = n ∧ st = B.reverse ++ r
  | 0, acc, st, As, r, h => by
    cases h
    exact ⟨[], rfl, rfl, rfl⟩
  | n + 1, acc, v :: st, As, r, h => by
    obtain ⟨B, h1, h2, h3⟩ := am_pop_inv (n := n) (acc := v :: acc) (st := st) h
    exact ⟨B ++ [v], by rw [h1]; simp, by simp [h2], by rw [h3]; simp⟩
  | n + 1, acc, [], As, r, h => by cases h
theorem am_len_sh : ∀ e ∈ am_shl, e.2 < 2 ^ 31 := by decide +kernel
theorem am_shl_len : am_shl.length = 175 := by decide +kernel
theorem am_sh_lt {o : Nat} {e : Nat × Nat} (h : am_shl[o]? = some e) : o < 175 := by
  have h1 := (List.getElem?_eq_some_iff.mp h).1
  rw [am_shl_len] at h1
  exact h1
theorem am_sh_cases {h : am_H} {o : Nat} {e : Nat × Nat} (he : am_sh h o = some e) : (o = 3000000 ∧ e = (13, h.2.2.2.1)) ∨ am_so h o = some e := by
  unfold am_sh at he
  cases hq : Nat.beq o 3000000 with
  | true =>
    rw [hq] at he
    exact Or.inl ⟨Nat.eq_of_beq_eq_true hq, (Option.some.inj he).symm⟩
  | false =>
    rw [hq] at he
    exact Or.inr he
theorem am_ro.wI {L : Nat} {xs : Nat → Int32} {h : am_H} {o k : Nat} {v : Int32} (hr : am_ro L xs h) (ho : o < 175) : am_ro L xs (am_wI h o k v) := by
  refine ⟨hr.1, fun j hj => ?_⟩
  show (if 3000000 = o ∧ j = k then v else h.1 3000000 j) = xs j
  rw [if_neg (fun q => by omega)]
  exact hr.2 j hj
end
section
/-! one step -/
/-- where the count began (c0 % 1000), and how many cells more there are (c0 / 1000: made by what threw), none before all objects are there -/
def am_c0 (c0 n : Nat) : Prop := c0 % 1000 ≤ n ∧ (1000 ≤ c0 → n = am_shl.length)
def am_Inv (D : va_G) (cA : Nat → ClassId) (ad : Nat → Nat) (base L : Nat) (xs : Nat → Int32) (s : State) (c0 : Nat) (h : am_H) (H : Heap) (locs : List Loc) : Prop :=
  va_P D vwCl (am_cc cA ad h) H ∧ va_S (am_A base) s.heap H locs ∧ am_ro L xs h ∧ h.2.2.2.2 ≤ am_shl.length ∧ am_c0 c0 h.2.2.2.2
/-- a method's body as it is walked: the machine, the code, the words, what stays -/
def am_Fx (p : Program) (s : State) (m : MethodId) (args : Array Value) (c : Code) (D : va_G) (cA : Nat → ClassId) (ad : Nat → Nat) (base b L : Nat) (xs : Nat → Int32) (own : String) (cc : ByteArray) (nL c0 : Nat) : Prop :=
  p.tables.exec = Jvm.exec ∧ c.code = cc ∧ c.maxLocals = nL ∧ s.vm.findClass own = some m.cls ∧ (∀ w ∈ am_gw, w.before args s = true) ∧ am_E D cA ad base b L xs s ∧ base ≤ s.heap.size ∧ am_G ad base b L ∧ (c0 % 1000 < am_shl.length → s.heap.size = base + c0 % 1000)
/-- what is known of the calls -/
def am_Cs (l : Launch) (R : Room) (D : va_G) (cA : Nat → ClassId) (ad : Nat → Nat) (base b L : Nat) (xs : Nat → Int32) (cp : am_P) : Prop :=
  ∀ n As h Q, cp n As h Q → ∃ d : Nat, Met l (am_y n) (am_ws n) (am_rm d (am_al n) (am_ms n h)) (am_Pc D cA ad base b L xs As h) (am_Qc D cA ad base L xs (fun v h' => h'.2.2.2.2 = h.2.2.2.2 + am_al n ∧ Q v h')) (am_al n) (am_ms n h) (am_A base) ∧ d + 1 ≤ R.frames ∧ 40 + 40 * d ≤ R.locals
theorem am_ok3 {A B : Prop} {C : Bool} [Decidable A] [Decidable B] (h : (decide A && (decide B && C)) = true) : A ∧ B ∧ C = true := by
  simp only [Bool.and_eq_true, decide_eq_true_eq] at h
  exact h
theorem am_ci_ok : ∀ ci, ci < 12 → ∃ (C : String) (T : u_T) (N : Nat), vwCl[ci]? = some (C, T, N) ∧ am_nf ci = N ∧ am_cn ci = C ∧ (∀ k, am_fd ci k = T k) ∧ (∀ w ∈ u_ws C T N, w ∈ am_gw) ∧ ∃ ty : Nat → FieldType, (∀ k, k < N → parseFieldDescriptor (T k).2.2.1 = some (ty k)) ∧ (∀ a, a < N → ∀ b, b < N → a ≠ b → (T a).2.1 ≠ (T b).2.1) ∧ ∀ k, k < N → am_kd ci k = (match ty k with
    | .long => 1
    | .object _ => 2
    | .array _ => 2
    | _ => 0) ∧ am_fty ci k = ty k := by
  intro ci h
  have hci : ci = 0 ∨ ci = 1 ∨ ci = 2 ∨ ci = 3 ∨ ci = 4 ∨ ci = 5 ∨ ci = 6 ∨ ci = 7 ∨ ci = 8 ∨ ci = 9 ∨ ci = 10 ∨ ci = 11 := by omega
  rcases hci with rfl | rfl | rfl | rfl | rfl | rfl | rfl | rfl | rfl | rfl | rfl | rfl
  · exact ⟨RX0, TX0, 13, rfl, by decide +kernel, rfl, fun _ => rfl, by decide +kernel, tyX0, tyX0_ok, nmX0, by decide +kernel⟩
  · exact ⟨RX1, TX1, 2, rfl, by decide +kernel, rfl, fun _ => rfl, by decide +kernel, tyX1, tyX1_ok, nmX1, by decide +kernel⟩
  · exact ⟨RX2, TX2, 3, rfl, by decide +kernel, rfl, fun _ => rfl, by decide +kernel, tyX2, tyX2_ok, nmX2, by decide +kernel⟩
  · exact ⟨RX3, TX3, 3, rfl, by decide +kernel, rfl, fun _ => rfl, by decide +kernel, tyX3, tyX3_ok, nmX3, by decide +kernel⟩
  · exact ⟨RX4, TX4, 1, rfl, by decide +kernel, rfl, fun _ => rfl, by decide +kernel, tyX4, tyX4_ok, nmX4, by decide +kernel⟩
  · exact ⟨RX5, TX5, 4, rfl, by decide +kernel, rfl, fun _ => rfl, by decide +kernel, tyX5, tyX5_ok, nmX5, by decide +kernel⟩
  · exact ⟨RX6, TX6, 6, rfl, by decide +kernel, rfl, fun _ => rfl, by decide +kernel, tyX6, tyX6_ok, nmX6, by decide +kernel⟩
  · exact ⟨RX7, TX7, 8, rfl, by decide +kernel, rfl, fun _ => rfl, by decide +kernel, tyX7, tyX7_ok, nmX7, by decide +kernel⟩
  · exact ⟨RX8, TX8, 4, rfl, by decide +kernel, rfl, fun _ => rfl, by decide +kernel, tyX8, tyX8_ok, nmX8, by decide +kernel⟩
  · exact ⟨RX9, TX9, 1, rfl, by decide +kernel, rfl, fun _ => rfl, by decide +kernel, tyX9, tyX9_ok, nmX9, by decide +kernel⟩
  · exact ⟨RX10, TX10, 14, rfl, by decide +kernel, rfl, fun _ => rfl, by decide +kernel, tyX10, tyX10_ok, nmX10, by decide +kernel⟩
  · exact ⟨RX11, TX11, 31, rfl, by decide +kernel, rfl, fun _ => rfl, by decide +kernel, tyX11, tyX11_ok, nmX11, by decide +kernel⟩
theorem am_cell_obj {cA : Nat → ClassId} {ad : Nat → Nat} {h : am_H} {o ci n : Nat} (hc : ci < 12) : am_cell cA ad h o (ci, n) = .inr (ci, (List.range (am_nf ci)).map (fun k => am_cv ad (am_gv h ci k o))) := by
  simp [am_cell, hc]
theorem am_fs_at {ad : Nat → Nat} {h : am_H} {o ci k : Nat} (hk : k < am_nf ci) : ((List.range (am_nf ci)).map (fun k => am_cv ad (am_gv h ci k o)))[k]? = some (am_cv ad (am_gv h ci k o)) := by
  simp [hk]
theorem am_fs_set {ad : Nat → Nat} {h h' : am_H} {o ci k : Nat} (hk : k < am_nf ci) (hs : ∀ j, j ≠ k → am_gv h' ci j o = am_gv h ci j o) :
    ((List.range (am_nf ci)).map (fun k => am_cv ad (am_gv h ci k o))).set k (am_cv ad (am_gv h' ci k o)) = (List.range (am_nf ci)).map (fun k => am_cv ad (am_gv h' ci k o)) := by
  apply List.ext_getElem?
  intro j
  by_cases hj : j = k
  · subst hj
    rw [List.getElem?_set_self (by simp [hk]), am_fs_at hk]
  · rw [List.getElem?_set_ne (fun q => hj q.symm)]
    simp only [List.getElem?_map]
    cases hr : (List.range (am_nf ci))[j]? with
    | none => rfl
    | some x =>
      obtain ⟨h1, h2⟩ := List.getElem?_eq_some_iff.mp hr
      have h3 : x = j := by rw [← h2]; simp
      subst h3
      simp only [Option.map_some, hs _ hj]
theorem am_rf_cv (ad : Nat → Nat) (r : Option Nat) : am_cv ad (am_rf r) = va_rf (r.map ad) := by cases r <;> rfl
end
section
/-! ONE STEP, SOUND -/
variable {p : Program} {l : Launch} {e : Env} {R : Room} {s : State} {m : MethodId} {args : Array Value} {below : List Frame} {meth : Method} {c : Code} {H : Heap} {locs : List Loc} {cells slots : Nat} {Qw : State → Prop} {D : va_G} {cA : Nat → ClassId} {ad : Nat → Nat} {base b L nL : Nat} {xs : Nat → Int32} {own : String} {cc : ByteArray} {cp : am_P} {rt : Option FieldType} {c0 lim : Nat} {ini : Bool}
/-- behind a continuation the machine goes on -/
def am_ce (c0 : Nat) (h : am_H) : Nat := h.2.2.2.2 - c0 % 1000 + c0 / 1000
def am_sc (c0 : Nat) (h : am_H) : Nat := am_ss h.2.2.2.2 - am_ss (c0 % 1000) + 6 * (c0 / 1000)
def am_Kw (p : Program) (l : Launch) (e : Env) (R : Room) (s : State) (m : MethodId) (args : Array Value) (below : List Frame) (meth : Method) (c : Code) (c0 : Nat) (Qw : State → Prop) (D : va_G) (cA : Nat → ClassId) (ad : Nat → Nat) (base L nL : Nat) (xs : Nat → Int32) (K : Nat → am_V → List Value → am_H → Prop) : Prop :=
  ∀ pc lv st h H locs ls, K pc lv st h → am_Inv D cA ad base L xs s c0 h H locs → lv_has ls nL (am_cl2 ad lv) → W p l e R s m args below meth c H locs (am_ce c0 h) (am_sc c0 h) Qw (F0 m pc ls (st.map (am_cv ad)))
/-- a return's place: the instruction, its stack, its type -/
def am_rk (cc : ByteArray) (rt : Option FieldType) (pc : Nat) (v : Option Value) (st : List Value) : Prop :=
  (∃ x, v = some (.int x) ∧ st = [.int x] ∧ decode cc pc = .ok (.ireturn, 1) ∧ ∃ ty, rt = some ty ∧ narrow ty (.int x) = .int x) ∨ (∃ x, v = some (.long x) ∧ st = [.long x] ∧ decode cc pc = .ok (.lreturn, 1) ∧ rt = some .long) ∨ (v = none ∧ st = [] ∧ decode cc pc = .ok (.return_, 1) ∧ rt = none)
def am_Qr (p : Program) (l : Launch) (e : Env) (R : Room) (s : State) (m : MethodId) (args : Array Value) (below : List Frame) (meth : Method) (c : Code) (c0 : Nat) (Qw : State → Prop) (D : va_G) (cA : Nat → ClassId) (ad : Nat → Nat) (base L : Nat) (xs : Nat → Int32) (cc : ByteArray) (rt : Option FieldType) (Q0 : am_Q) : Prop :=
  ∀ v h H locs pc ls st, Q0 v h → am_Inv D cA ad base L xs s c0 h H locs → am_rk cc rt pc v st → W p l e R s m args below meth c H locs (am_ce c0 h) (am_sc c0 h) Qw (F0 m pc ls st)
theorem am_call_go {Q : am_Q} {h : am_H} {n : Nat} {a : Array Value} {pc : Nat} {ls : Array Slot} {st0 rest : List Value} (hr : va_Run p l e R s m args below meth c H locs (am_ce c0 h) (am_sc c0 h) (am_al n) (am_ms n h) (F0 m pc ls st0) rest (am_Qc D cA ad base L xs (fun v h' => h'.2.2.2.2 = h.2.2.2.2 + am_al n ∧ Q v h') a) (am_A base)) (hS : va_S (am_A base) s.heap H locs) (hc0 : am_c0 c0 h.2.2.2.2)
    (kk : ∀ v h' H1 locs1, Q v h' → am_Inv D cA ad base L xs s c0 h' H1 locs1 → W p l e R s m args below meth c H1 locs1 (am_ce c0 h') (am_sc c0 h') Qw (F0 m (pc + 3) ls ((v.map (am_cv ad)).toList ++ rest))) : W p l e R s m args below meth c H locs (am_ce c0 h) (am_sc c0 h) Qw (F0 m pc ls st0) := by
  intro T hT X
  obtain ⟨v, st₀, t, T', Lc, h0, X', hL, e1, e2, ⟨⟨v', h', hv, ⟨hcn, hp⟩, hP, hro, hwf⟩, hz, hk⟩, st⟩ := hr T hT X
  cases hv
  rw [h0] at hz hk
  have hc1 := hc0.1
  have hc2 := hc0.2
  have g1 : am_ce c0 h + am_al n = am_ce c0 h' := by unfold am_ce; omega
  have g2 : am_sc c0 h + am_ms n h = am_sc c0 h' := by
    have q1 := am_ss_mono hc0.1
    have q2 := am_ss_mono (Nat.le_add_right h.2.2.2.2 (am_al n))
    unfold am_sc am_ms
    rw [hcn]
    omega
  rw [g1, g2] at X'
  obtain ⟨t2, a1, b1⟩ := kk v' h' T'.heap (locs ++ Lc) hp ⟨by rw [e1]; exact hP, ⟨Nat.le_trans hS.1 (by rw [e1]; exact hz), fun q h1 h2 => by rw [e1, hk q (Nat.lt_of_lt_of_le h1 hS.1) h2]; exact hS.2.1 q h1 h2, fun q hq => by
      rcases List.mem_append.mp hq with h | h
      · exact hS.2.2 q h
      · exact hL q h⟩, hro, hwf, by omega, fun z => by have := hc2 z; omega⟩ T' rfl X'
  exact ⟨t2, st t2 a1, b1⟩
theorem am_obj {h : am_H} {o ci : Nat} (hsh : am_sh h o = some (ci, 0)) (hc : ci < 12) : am_so h o = some (ci, 0) := by
  rcases am_sh_cases hsh with ⟨-, h2⟩ | h2
  · have := congrArg Prod.fst h2
    dsimp only at this
    omega
  · exact h2
theorem am_cell_i {h : am_H} {o t n : Nat} (ht : t = 12 ∨ t = 13 ∨ t = 15) : am_cell cA ad h o (t, n) = .inl (cA t, n, .inl (h.1 o)) := by
  rcases ht with rfl | rfl | rfl <;> simp [am_cell]
theorem am_cell_l {h : am_H} {o n : Nat} : am_cell cA ad h o (14, n) = .inl (cA 14, n, .inr (.inl (h.2.1 o))) := by simp [am_cell]
theorem am_cell_r {h : am_H} {o t n : Nat} (ht : t = 16 ∨ t = 17) : am_cell cA ad h o (t, n) = .inl (cA t, n, .inr (.inr (.inr (.inr (fun j => (h.2.2.1 o j).map ad))))) := by
  rcases ht with rfl | rfl <;> simp [am_cell]
theorem am_wI_upd {h : am_H} {o j : Nat} {x : Int32} : (am_wI h o j x).1 o = upd (h.1 o) j x := by
  funext k
  simp [am_wI, upd]
theorem am_wL_upd {h : am_H} {o j : Nat} {x : Int64} : (am_wL h o j x).2.1 o = vp_updL (h.2.1 o) j x := by
  funext k
  simp [am_wL, vp_updL]
theorem am_wR_upd {h : am_H} {o j x : Nat} : (fun k => ((am_wR h o j (some x)).2.2.1 o k).map ad) = va_up (fun k => (h.2.2.1 o k).map ad) j (some (ad x)) := by
  funext k
  by_cases hk : k = j <;> simp [am_wR, va_up, hk]
theorem am_ac_int : Cond.arrayClass .int ∈ lw_tbl := by decide +kernel
theorem am_ac_char : Cond.arrayClass .char ∈ lw_tbl := by decide +kernel
theorem am_ac_long : Cond.arrayClass .long ∈ lw_tbl := by decide +kernel
theorem am_ac_boolean : Cond.arrayClass .boolean ∈ lw_tbl := by decide +kernel
theorem am_sln_le (q : Nat) : am_sln.getD q 0 ≤ 1000 := by
  rcases Nat.lt_or_ge q 26 with h | h
  · have h9 : ∀ q, q < 26 → am_sln.getD q 0 ≤ 1000 := by decide
    exact h9 q h
  · rw [List.getD_eq_getElem?_getD, List.getElem?_eq_none (by exact h)]
    exact Nat.zero_le _
theorem am_lenlt {h : am_H} {o t n : Nat} (hs : am_so h o = some (t, n)) : n < 2 ^ 31 := am_len_sh (t, n) (List.mem_of_getElem? (am_so_lt hs).2)
theorem am_sw_lt {h : am_H} {o : Nat} {e : Nat × Nat} (hs : am_so h o = some e) : o < 175 := am_sh_lt (am_so_lt hs).2
theorem am_good_in {ws : List Cond} (h : ∀ w ∈ ws, w ∈ am_gw) : GoodIn am_gw ws := fun w hw => ⟨h w hw, good_of_word (List.mem_filter.mp (h w hw)).2⟩
theorem am_ws_in {n : Nat} (hn : n < am_mi.length) : ∀ w ∈ am_ws n, w ∈ am_gw := by
  intro w hw
  rcases List.mem_cons.mp hw with rfl | h
  · have h1 : am_mi[n]? = some am_mi[n] := List.getElem?_eq_getElem hn
    have h2 := am_gw_code h1
    unfold am_y am_by am_nL am_rt
    rw [h1]
    exact h2
  · exact h
theorem am_put_gv {h : am_H} {o a ci : Nat} {x : Int32} (hk : am_kd ci a = 0) : am_gv (am_wI h o a x) ci a o = .int x := by simp [am_gv, hk, am_wI]
theorem am_put_gvL {h : am_H} {o a ci : Nat} {x : Int64} (hk : am_kd ci a = 1) : am_gv (am_wL h o a x) ci a o = .long x := by simp [am_gv, hk, am_wL]
theorem am_put_gvR {h : am_H} {o a ci x : Nat} (hk : ¬ am_kd ci a = 0) (hk1 : ¬ am_kd ci a = 1) : am_gv (am_wR h o a (some x)) ci a o = .ref x := by
  unfold am_gv
  split
  · exact absurd ‹_› hk
  · exact absurd ‹_› hk1
  · simp [am_wR, am_rf]
theorem am_put_oI {h : am_H} {o a ci : Nat} {x : Int32} (j : Nat) (hj : j ≠ a) : am_gv (am_wI h o a x) ci j o = am_gv h ci j o := by
  unfold am_gv
  split <;> simp [am_wI, hj]
theorem am_put_oL {h : am_H} {o a ci : Nat} {x : Int64} (j : Nat) (hj : j ≠ a) : am_gv (am_wL h o a x) ci j o = am_gv h ci j o := by
  unfold am_gv
  split <;> simp [am_wL, hj]
theorem am_put_oR {h : am_H} {o a ci : Nat} {x : Option Nat} (j : Nat) (hj : j ≠ a) : am_gv (am_wR h o a x) ci j o = am_gv h ci j o := by
  unfold am_gv
  split <;> simp [am_wR, hj]
theorem am_Wsz {g : JFrame} {cells slots : Nat} (k : H.size ≤ s.heap.size + cells → W p l e R s m args below meth c H locs cells slots Qw g) : W p l e R s m args below meth c H locs cells slots Qw g :=
  fun T hT X => k (by rw [← hT]; exact X.heapSize) T hT X
theorem am_sizeq {h : am_H} (hG : am_G ad base b L) (hsz : c0 % 1000 < am_shl.length → s.heap.size = base + c0 % 1000) (hI : am_Inv D cA ad base L xs s c0 h H locs) (hle : H.size ≤ s.heap.size + am_ce c0 h) : am_wf base h H := by
  refine ⟨hI.2.2.2.1, fun hlt => ?_⟩
  have h0 := hI.2.2.2.2.1
  have h9 : c0 < 1000 := by
    rcases Nat.lt_or_ge c0 1000 with z | z
    · exact z
    · have := hI.2.2.2.2.2 z
      omega
  have h1 := hsz (by omega)
  have h2 := hI.2.1.1
  unfold am_ce at hle
  by_cases hc : h.2.2.2.2 = c0 % 1000
  · omega
  · have h3 : h.2.2.2.2 - 1 < am_shl.length := by omega
    have h4 : am_so h (h.2.2.2.2 - 1) = some am_shl[h.2.2.2.2 - 1] := by
      unfold am_so
      have : Nat.blt (h.2.2.2.2 - 1) h.2.2.2.2 = true := Nat.ble_eq_true_of_le (by omega)
      rw [this]
      exact List.getElem?_eq_getElem h3
    have h5 := (hI.1 _ _ (am_cc_at h4)).lt
    dsimp only at h5
    rw [hG.1 _ h3] at h5
    omega
theorem am_fit {h : am_H} {n : Nat} (hcs : lim - c0 % 1000 + c0 / 1000 ≤ R.cells ∧ am_ss lim - am_ss (c0 % 1000) + 6 * (c0 / 1000) ≤ R.slots) (hc0 : am_c0 c0 h.2.2.2.2) (hl : h.2.2.2.2 + am_al n ≤ lim) : am_ce c0 h + am_al n ≤ R.cells ∧ am_sc c0 h + am_ms n h ≤ R.slots := by
  have q1 := am_ss_mono hc0.1
  have q2 := am_ss_mono (Nat.le_add_right h.2.2.2.2 (am_al n))
  have q3 := am_ss_mono hl
  have q0 := hc0.1
  unfold am_ce am_sc am_ms
  omega
theorem am_fit1 {h : am_H} {e : Nat × Nat} (hcs : lim - c0 % 1000 + c0 / 1000 ≤ R.cells ∧ am_ss lim - am_ss (c0 % 1000) + 6 * (c0 / 1000) ≤ R.slots) (hc0 : am_c0 c0 h.2.2.2.2) (he : am_shl[h.2.2.2.2]? = some e) (hl : h.2.2.2.2 + 1 ≤ lim) : (am_ce c0 h + 1 ≤ R.cells ∧ am_sc c0 h + am_siz e ≤ R.slots) ∧ (am_ce c0 h + 1 = am_ce c0 (am_nx h) ∧ am_sc c0 h + am_siz e = am_sc c0 (am_nx h)) := by
  have q1 := am_ss_mono hc0.1
  have q2 := am_ss_succ he
  have q3 := am_ss_mono hl
  have q0 := hc0.1
  have q4 : (am_nx h).2.2.2.2 = h.2.2.2.2 + 1 := rfl
  unfold am_ce am_sc
  rw [q4]
  omega
/-- a new cell behind the others -/
theorem am_new_I {h : am_H} {ea : Nat × Nat} {H1 : Heap} (hG : am_G ad base b L) (hI : am_Inv D cA ad base L xs s c0 h H locs) (he : am_shl[h.2.2.2.2]? = some ea) (hat : va_at D vwCl (ad h.2.2.2.2, am_cell cA ad (am_nx h) h.2.2.2.2 ea) H1) (z1 : H1.size = H.size + 1) (o1 : ∀ q, q < H.size → H1[q]? = H[q]?) : am_Inv D cA ad base L xs s c0 (am_nx h) H1 locs := by
  obtain ⟨hP, hS, hro, hwf, hc0⟩ := hI
  have hlt := (List.getElem?_eq_some_iff.mp he).1
  refine ⟨?_, ⟨Nat.le_trans hS.1 (by omega), fun x h1 h2 => (o1 x (Nat.lt_of_lt_of_le h1 hS.1)).trans (hS.2.1 x h1 h2), hS.2.2⟩, ⟨hro.1, fun j hj => ?_⟩, by show h.2.2.2.2 + 1 ≤ _; omega, by have := hc0.1; show c0 % 1000 ≤ h.2.2.2.2 + 1; omega, fun z => by have := hc0.2 z; omega⟩
  · rw [am_cc_new he]
    refine (hP.kept (fun k x hx => o1 x.1 ((hP k x hx).lt))).app (fun k x hx => ?_)
    have hz : k < 1 := (List.getElem?_eq_some_iff.mp hx).1
    rw [show k = 0 by omega] at hx
    cases hx
    exact hat
  · show (if 3000000 = h.2.2.2.2 then 0 else h.1 3000000 j) = xs j
    rw [if_neg (by rw [am_shl_len] at hlt; omega)]
    exact hro.2 j hj
theorem am_dv_ok : (List.range 12).all (fun ci => (List.range (am_nf ci)).all (fun k => decide (defaultValue (am_fty ci k) = (match am_kd ci k with
    | 0 => .int 0
    | 1 => .long 0
    | _ => .null)))) = true := by decide +kernel
theorem am_gv_nx {h : am_H} {ci k : Nat} : am_cv ad (am_gv (am_nx h) ci k h.2.2.2.2) = (match am_kd ci k with
    | 0 => .int 0
    | 1 => .long 0
    | _ => .null) := by
  unfold am_gv
  split <;> rename_i hq <;> simp [am_nx, am_cv, am_rf, hq]
theorem am_big_sh : ∀ e ∈ am_shl, e.2 ≤ 10000 := by decide +kernel
theorem am_ro.wL {h : am_H} {o k : Nat} {v : Int64} (hr : am_ro L xs h) : am_ro L xs (am_wL h o k v) := hr
theorem am_ro.wR {h : am_H} {o k : Nat} {v : Option Nat} (hr : am_ro L xs h) : am_ro L xs (am_wR h o k v) := hr
theorem am_set_P {h h' : am_H} {o : Nat} {e : Nat × Nat} {E : va_E} {H1 : Heap} (ho : am_so h o = some e) (hn : h'.2.2.2.2 = h.2.2.2.2) (hs : ∀ o' e', o' ≠ o → am_cell cA ad h' o' e' = am_cell cA ad h o' e') (hE : am_cell cA ad h' o e = E) (hP : va_P D vwCl ((am_cc cA ad h).set o (ad o, E)) H1) : va_P D vwCl (am_cc cA ad h') H1 := by
  rw [am_cc_set ho hn hs, hE]
  exact hP
theorem am_ar (g : am_H) (o t n : Nat) (h : am_so g o = some (t, n)) (ht : 12 ≤ t) : t = 12 ∨ t = 13 ∨ t = 14 ∨ t = 15 ∨ t = 16 ∨ t = 17 := by
  have h1 : ∀ e ∈ am_shl, e.1 < 18 := by decide +kernel
  have := h1 (t, n) (List.mem_of_getElem? (am_so_lt h).2)
  dsimp only at this
  omega
theorem am_mok_at {n : Nat} (h : am_mok n = true) : (am_y n).cls ∈ am_iiw ∧ n < am_mi.length ∧ am_nL n ≤ 21 ∧ ((am_y n).cls ≠ "java/lang/invoke/MethodHandle" ∧ (am_y n).cls ≠ "java/lang/invoke/VarHandle") ∧ ¬ n = 999 := by
  simp only [am_mok, am_hd, Bool.and_eq_true, decide_eq_true_eq, Bool.not_eq_true'] at h
  obtain ⟨h1, h2, h3, h4, h5⟩ := h
  exact ⟨h1, h2, h3, h4, fun q => by subst q; cases h5⟩
theorem am_vls_at {a b d : Nat} (h : (a, b, d) ∈ am_vls) : am_y a ∈ am_inw ∧ am_y a ∈ am_sew ∧ am_prm (am_y a) = some b ∧ am_cn d = (am_y a).cls ∧ d < 12 ∧ (am_y a).cls ∈ am_iiw ∧ a < am_mi.length ∧ am_nL a ≤ 21 ∧ ((am_y a).cls ≠ "java/lang/invoke/MethodHandle" ∧ (am_y a).cls ≠ "java/lang/invoke/VarHandle") ∧ ¬ a = 999 := by
  have h1 := List.all_eq_true.mp am_vls_ok _ h
  simp only [Bool.and_eq_true, decide_eq_true_eq] at h1
  obtain ⟨h1, h2, h3, h4, h5, h6⟩ := h1
  exact ⟨h1, h2, h3, h4, h5, am_mok_at h6⟩
theorem am_svl_at {a b : Nat} (h : (a, b) ∈ am_svl) : am_y a ∈ am_inw ∧ am_y a ∈ am_sew ∧ am_prm (am_y a) = some b ∧ (am_y a).cls = "java/lang/String" ∧ (am_y a).cls ∈ am_iiw ∧ a < am_mi.length ∧ am_nL a ≤ 21 ∧ ((am_y a).cls ≠ "java/lang/invoke/MethodHandle" ∧ (am_y a).cls ≠ "java/lang/invoke/VarHandle") ∧ ¬ a = 999 := by
  have h1 := List.all_eq_true.mp am_svl_ok _ h
  simp only [Bool.and_eq_true, decide_eq_true_eq] at h1
  obtain ⟨h1, h2, h3, h4, h6⟩ := h1
  exact ⟨h1, h2, h3, h4, am_mok_at h6⟩
theorem am_ils_at {a b : Nat} (h : (a, b) ∈ am_ils) : am_y a ∈ am_inw ∧ am_prm (am_y a) = some b ∧ (am_y a).name = "<init>" ∧ am_rt a = none ∧ (am_y a).cls ∈ am_iiw ∧ a < am_mi.length ∧ am_nL a ≤ 21 ∧ ((am_y a).cls ≠ "java/lang/invoke/MethodHandle" ∧ (am_y a).cls ≠ "java/lang/invoke/VarHandle") ∧ ¬ a = 999 := by
  have h1 := List.all_eq_true.mp am_ils_ok _ h
  simp only [Bool.and_eq_true, decide_eq_true_eq] at h1
  obtain ⟨h1, h2, h3, h4, h6⟩ := h1
  exact ⟨h1, h2, h3, h4, am_mok_at h6⟩
theorem am_sls_at {a b : Nat} (h : (a, b) ∈ am_sls) : am_y a ∈ am_stw ∧ am_prm (am_y a) = some b ∧ (am_y a).cls ∈ am_iiw ∧ a < am_mi.length ∧ am_nL a ≤ 21 ∧ ((am_y a).cls ≠ "java/lang/invoke/MethodHandle" ∧ (am_y a).cls ≠ "java/lang/invoke/VarHandle") ∧ ¬ a = 999 := by
  have h1 := List.all_eq_true.mp am_sls_ok _ h
  simp only [Bool.and_eq_true, decide_eq_true_eq] at h1
  obtain ⟨h1, h2, h6⟩ := h1
  exact ⟨h1, h2, am_mok_at h6⟩
set_option maxHeartbeats 4000000 in
set_option maxRecDepth 20000 in
theorem am_sound1 (F : am_Fx p s m args c D cA ad base b L xs own cc nL c0) (hC : am_Cs l R D cA ad base b L xs cp) (hcs : lim - c0 % 1000 + c0 / 1000 ≤ R.cells ∧ am_ss lim - am_ss (c0 % 1000) + 6 * (c0 / 1000) ≤ R.slots) (hR1 : 1 ≤ R.frames ∧ 20 ≤ R.locals) (hini : ini = true → meth.name = "<init>") {pc nx a b' c' d : Nat} {lv : am_V} {st : List Value} {h : am_H} {K : Nat → am_V → List Value → am_H → Prop} {Q0 : am_Q} {ls : Array Slot} (hI : am_Inv D cA ad base L xs s c0 h H locs) (hl : lv_has ls nL (am_cl2 ad lv)) (hk : am_Kw p l e R s m args below meth c c0 Qw D cA ad base L nL xs K) (hq : am_Qr p l e R s m args below meth c c0 Qw D cA ad base L xs cc rt Q0) {i : Instr} (hok : am_okB ini own cc pc (i, nx, a, b', c', d) = true) (hs : am_stp cp nL lim rt pc (i, nx, a, b', c', d) lv st h K Q0) : W p l e R s m args below meth c H locs (am_ce c0 h) (am_sc c0 h) Qw (F0 m pc ls (st.map (am_cv ad))) := by
  obtain ⟨hexec, hb, hml, hown, hts, hE, hbase, hG, hsz⟩ := id F
  cases i
  case iconst n =>
    obtain ⟨hd, rfl, hx⟩ := am_ok3 hok
    exact lv_iconst hexec hb hd rfl (hk _ _ _ _ _ _ _ hs hI hl)
  case bipush n =>
    obtain ⟨hd, rfl, hx⟩ := am_ok3 hok
    exact lv_bipush hexec hb hd rfl (hk _ _ _ _ _ _ _ hs hI hl)
  case sipush n =>
    obtain ⟨hd, rfl, hx⟩ := am_ok3 hok
    exact lv_sipush hexec hb hd rfl (hk _ _ _ _ _ _ _ hs hI hl)
  case lconst n =>
    obtain ⟨hd, rfl, hx⟩ := am_ok3 hok
    exact lv_lconst hexec hb hd rfl (hk _ _ _ _ _ _ _ hs hI hl)
  case iload_n k =>
    obtain ⟨hd, rfl, hx⟩ := am_ok3 hok
    obtain ⟨x, ex, hs⟩ := am_li.inv hs
    exact lv_iload_n hexec hb hd rfl (am_lk_at hl ex) (hk _ _ _ _ _ _ _ hs hI hl)
  case iload k =>
    obtain ⟨hd, rfl, hx⟩ := am_ok3 hok
    obtain ⟨x, ex, hs⟩ := am_li.inv hs
    exact lv_iload hexec hb hd (am_lk_at hl ex) (hk _ _ _ _ _ _ _ hs hI hl)
  case lload_n k =>
    obtain ⟨hd, rfl, hx⟩ := am_ok3 hok
    obtain ⟨x, ex, hs⟩ := am_ll.inv hs
    exact lv_lload_n hexec hb hd rfl (am_lk_at hl ex) (hk _ _ _ _ _ _ _ hs hI hl)
  case lload k =>
    obtain ⟨hd, rfl, hx⟩ := am_ok3 hok
    obtain ⟨x, ex, hs⟩ := am_ll.inv hs
    exact lv_lload hexec hb hd (am_lk_at hl ex) (hk _ _ _ _ _ _ _ hs hI hl)
  case aload_n k =>
    obtain ⟨hd, rfl, hx⟩ := am_ok3 hok
    obtain ⟨x, ex, hs⟩ := am_la.inv hs
    exact lv_aload_n hexec hb hd rfl (am_lk_at hl ex) (hk _ _ _ _ _ _ _ hs hI hl)
  case aload k =>
    obtain ⟨hd, rfl, hx⟩ := am_ok3 hok
    obtain ⟨x, ex, hs⟩ := am_la.inv hs
    exact lv_aload hexec hb hd (am_lk_at hl ex) (hk _ _ _ _ _ _ _ hs hI hl)
  case istore_n k =>
    obtain ⟨hd, rfl, hx⟩ := am_ok3 hok
    obtain ⟨x, r, rfl, hn, hs⟩ := am_pI.inv hs
    exact lv_istore_n hexec hb hd rfl hl hn (am_s1_cl ad lv _ (.int x)) (fun ls hl => hk _ _ _ _ _ _ _ hs hI hl)
  case istore k =>
    obtain ⟨hd, rfl, hx⟩ := am_ok3 hok
    obtain ⟨x, r, rfl, hn, hs⟩ := am_pI.inv hs
    exact lv_istore hexec hb hd hl hn (am_s1_cl ad lv _ (.int x)) (fun ls hl => hk _ _ _ _ _ _ _ hs hI hl)
  case lstore_n k =>
    obtain ⟨hd, rfl, hx⟩ := am_ok3 hok
    obtain ⟨x, r, rfl, hn, hs⟩ := am_pL.inv hs
    exact lv_lstore_n hexec hb hd rfl hl hn (am_s2_cl ad lv _ (.long x)) (fun ls hl => hk _ _ _ _ _ _ _ hs hI hl)
  case lstore k =>
    obtain ⟨hd, rfl, hx⟩ := am_ok3 hok
    obtain ⟨x, r, rfl, hn, hs⟩ := am_pL.inv hs
    exact lv_lstore hexec hb hd hl hn (am_s2_cl ad lv _ (.long x)) (fun ls hl => hk _ _ _ _ _ _ _ hs hI hl)
  case astore_n k =>
    obtain ⟨hd, rfl, hx⟩ := am_ok3 hok
    obtain ⟨x, r, rfl, hn, hs⟩ := am_pR.inv hs
    exact lv_astore_n hexec hb hd rfl hl hn (am_s1_cl ad lv _ (.ref x)) (fun ls hl => hk _ _ _ _ _ _ _ hs hI hl)
  case astore k =>
    obtain ⟨hd, rfl, hx⟩ := am_ok3 hok
    obtain ⟨x, r, rfl, hn, hs⟩ := am_pR.inv hs
    exact lv_astore hexec hb hd hl hn (am_s1_cl ad lv _ (.ref x)) (fun ls hl => hk _ _ _ _ _ _ _ hs hI hl)
  case iinc k n =>
    obtain ⟨hd, rfl, hx⟩ := am_ok3 hok
    obtain ⟨x, ex, hn, hs⟩ := am_li.inv hs
    obtain ⟨q, hq⟩ := am_lk_pl (ad := ad) ex
    exact lv_iinc hexec hb hd hl hq rfl hn (am_s1_cl ad lv _ (.int (x + Int32.ofInt n))) (fun ls hl => hk _ _ _ _ _ _ _ hs hI hl)
  case iadd =>
    obtain ⟨hd, rfl, hx⟩ := am_ok3 hok
    obtain ⟨y, r, rfl, hs⟩ := am_pI.inv hs
    obtain ⟨x, r, rfl, hs⟩ := am_pI.inv hs
    exact lv_iadd hexec hb hd (hk _ _ _ _ _ _ _ hs hI hl)
  case isub =>
    obtain ⟨hd, rfl, hx⟩ := am_ok3 hok
    obtain ⟨y, r, rfl, hs⟩ := am_pI.inv hs
    obtain ⟨x, r, rfl, hs⟩ := am_pI.inv hs
    exact lv_isub hexec hb hd (hk _ _ _ _ _ _ _ hs hI hl)
  case imul =>
    obtain ⟨hd, rfl, hx⟩ := am_ok3 hok
    obtain ⟨y, r, rfl, hs⟩ := am_pI.inv hs
    obtain ⟨x, r, rfl, hs⟩ := am_pI.inv hs
    exact lv_imul hexec hb hd (hk _ _ _ _ _ _ _ hs hI hl)
  case iand =>
    obtain ⟨hd, rfl, hx⟩ := am_ok3 hok
    obtain ⟨y, r, rfl, hs⟩ := am_pI.inv hs
    obtain ⟨x, r, rfl, hs⟩ := am_pI.inv hs
    exact lv_iand hexec hb hd (hk _ _ _ _ _ _ _ hs hI hl)
  case ior =>
    obtain ⟨hd, rfl, hx⟩ := am_ok3 hok
    obtain ⟨y, r, rfl, hs⟩ := am_pI.inv hs
    obtain ⟨x, r, rfl, hs⟩ := am_pI.inv hs
    exact lv_ior hexec hb hd (hk _ _ _ _ _ _ _ hs hI hl)
  case ixor =>
    obtain ⟨hd, rfl, hx⟩ := am_ok3 hok
    obtain ⟨y, r, rfl, hs⟩ := am_pI.inv hs
    obtain ⟨x, r, rfl, hs⟩ := am_pI.inv hs
    exact lv_ixor hexec hb hd (hk _ _ _ _ _ _ _ hs hI hl)
  case ishl =>
    obtain ⟨hd, rfl, hx⟩ := am_ok3 hok
    obtain ⟨y, r, rfl, hs⟩ := am_pI.inv hs
    obtain ⟨x, r, rfl, hs⟩ := am_pI.inv hs
    exact lv_ishl hexec hb hd (hk _ _ _ _ _ _ _ hs hI hl)
  case ishr =>
    obtain ⟨hd, rfl, hx⟩ := am_ok3 hok
    obtain ⟨y, r, rfl, hs⟩ := am_pI.inv hs
    obtain ⟨x, r, rfl, hs⟩ := am_pI.inv hs
    exact lv_ishr hexec hb hd (hk _ _ _ _ _ _ _ hs hI hl)
  case idiv =>
    obtain ⟨hd, rfl, hx⟩ := am_ok3 hok
    obtain ⟨y, r, rfl, hs⟩ := am_pI.inv hs
    obtain ⟨x, r, rfl, hne, hs⟩ := am_pI.inv hs
    exact lv_idiv hexec hb hd hne (hk _ _ _ _ _ _ _ hs hI hl)
  case irem =>
    obtain ⟨hd, rfl, hx⟩ := am_ok3 hok
    obtain ⟨y, r, rfl, hs⟩ := am_pI.inv hs
    obtain ⟨x, r, rfl, hne, hs⟩ := am_pI.inv hs
    exact lv_irem hexec hb hd hne (hk _ _ _ _ _ _ _ hs hI hl)
  case ineg =>
    obtain ⟨hd, rfl, hx⟩ := am_ok3 hok
    obtain ⟨x, r, rfl, hs⟩ := am_pI.inv hs
    exact lv_ineg hexec hb hd (hk _ _ _ _ _ _ _ hs hI hl)
  case iushr =>
    obtain ⟨hd, rfl, hx⟩ := am_ok3 hok
    obtain ⟨y, r, rfl, hs⟩ := am_pI.inv hs
    obtain ⟨x, r, rfl, hs⟩ := am_pI.inv hs
    exact lv_iushr hexec hb hd rfl (hk _ _ _ _ _ _ _ hs hI hl)
  case ladd =>
    obtain ⟨hd, rfl, hx⟩ := am_ok3 hok
    obtain ⟨y, r, rfl, hs⟩ := am_pL.inv hs
    obtain ⟨x, r, rfl, hs⟩ := am_pL.inv hs
    exact lv_ladd hexec hb hd (hk _ _ _ _ _ _ _ hs hI hl)
  case lsub =>
    obtain ⟨hd, rfl, hx⟩ := am_ok3 hok
    obtain ⟨y, r, rfl, hs⟩ := am_pL.inv hs
    obtain ⟨x, r, rfl, hs⟩ := am_pL.inv hs
    exact lv_lsub hexec hb hd (hk _ _ _ _ _ _ _ hs hI hl)
  case lmul =>
    obtain ⟨hd, rfl, hx⟩ := am_ok3 hok
    obtain ⟨y, r, rfl, hs⟩ := am_pL.inv hs
    obtain ⟨x, r, rfl, hs⟩ := am_pL.inv hs
    exact lv_lmul hexec hb hd (hk _ _ _ _ _ _ _ hs hI hl)
  case land =>
    obtain ⟨hd, rfl, hx⟩ := am_ok3 hok
    obtain ⟨y, r, rfl, hs⟩ := am_pL.inv hs
    obtain ⟨x, r, rfl, hs⟩ := am_pL.inv hs
    exact lv_land hexec hb hd (hk _ _ _ _ _ _ _ hs hI hl)
  case lor =>
    obtain ⟨hd, rfl, hx⟩ := am_ok3 hok
    obtain ⟨y, r, rfl, hs⟩ := am_pL.inv hs
    obtain ⟨x, r, rfl, hs⟩ := am_pL.inv hs
    exact lv_lor hexec hb hd (hk _ _ _ _ _ _ _ hs hI hl)
  case ldiv =>
    obtain ⟨hd, rfl, hx⟩ := am_ok3 hok
    obtain ⟨y, r, rfl, hs⟩ := am_pL.inv hs
    obtain ⟨x, r, rfl, hne, hs⟩ := am_pL.inv hs
    exact lv_ldiv hexec hb hd hne (hk _ _ _ _ _ _ _ hs hI hl)
  case lrem =>
    obtain ⟨hd, rfl, hx⟩ := am_ok3 hok
    obtain ⟨y, r, rfl, hs⟩ := am_pL.inv hs
    obtain ⟨x, r, rfl, hne, hs⟩ := am_pL.inv hs
    exact lv_lrem hexec hb hd hne (hk _ _ _ _ _ _ _ hs hI hl)
  case lshl =>
    obtain ⟨hd, rfl, hx⟩ := am_ok3 hok
    obtain ⟨y, r, rfl, hs⟩ := am_pI.inv hs
    obtain ⟨x, r, rfl, hs⟩ := am_pL.inv hs
    exact lv_lshl hexec hb hd rfl (hk _ _ _ _ _ _ _ hs hI hl)
  case lshr =>
    obtain ⟨hd, rfl, hx⟩ := am_ok3 hok
    obtain ⟨y, r, rfl, hs⟩ := am_pI.inv hs
    obtain ⟨x, r, rfl, hs⟩ := am_pL.inv hs
    exact lv_lshr hexec hb hd rfl (hk _ _ _ _ _ _ _ hs hI hl)
  case lushr =>
    obtain ⟨hd, rfl, hx⟩ := am_ok3 hok
    obtain ⟨y, r, rfl, hs⟩ := am_pI.inv hs
    obtain ⟨x, r, rfl, hs⟩ := am_pL.inv hs
    exact lv_lushr hexec hb hd rfl (hk _ _ _ _ _ _ _ hs hI hl)
  case lcmp =>
    obtain ⟨hd, rfl, hx⟩ := am_ok3 hok
    obtain ⟨y, r, rfl, hs⟩ := am_pL.inv hs
    obtain ⟨x, r, rfl, hs⟩ := am_pL.inv hs
    exact W.lcmp hexec hb hd (hk _ _ _ _ _ _ _ hs hI hl)
  case i2l =>
    obtain ⟨hd, rfl, hx⟩ := am_ok3 hok
    obtain ⟨x, r, rfl, hs⟩ := am_pI.inv hs
    exact lv_i2l hexec hb hd rfl (hk _ _ _ _ _ _ _ hs hI hl)
  case l2i =>
    obtain ⟨hd, rfl, hx⟩ := am_ok3 hok
    obtain ⟨x, r, rfl, hs⟩ := am_pL.inv hs
    exact lv_l2i hexec hb hd rfl (hk _ _ _ _ _ _ _ hs hI hl)
  case i2c =>
    obtain ⟨hd, rfl, hx⟩ := am_ok3 hok
    obtain ⟨x, r, rfl, hs⟩ := am_pI.inv hs
    exact lv_i2c hexec hb hd rfl (hk _ _ _ _ _ _ _ hs hI hl)
  case dup =>
    obtain ⟨hd, rfl, hx⟩ := am_ok3 hok
    obtain ⟨v, r, rfl, h1, hs⟩ := am_pV.inv hs
    exact lv_dup hexec hb hd ((am_cv_cat ad v).trans h1) (hk _ _ _ _ _ _ _ hs hI hl)
  case pop =>
    obtain ⟨hd, rfl, hx⟩ := am_ok3 hok
    obtain ⟨v, r, rfl, h1, hs⟩ := am_pV.inv hs
    exact lv_pop hexec hb hd ((am_cv_cat ad v).trans h1) (hk _ _ _ _ _ _ _ hs hI hl)
  case dup2 =>
    obtain ⟨hd, rfl, hx⟩ := am_ok3 hok
    obtain ⟨v, r, rfl, hs⟩ := am_pV.inv hs
    obtain ⟨w, r, rfl, h1, h2, hs⟩ := am_pV.inv hs
    exact lv_dup2_11 hexec hb hd ((am_cv_cat ad v).trans h1) ((am_cv_cat ad w).trans h2) (hk _ _ _ _ _ _ _ hs hI hl)
  case goto o =>
    obtain ⟨hd, rfl, hx⟩ := am_ok3 hok
    exact lv_goto hexec hb hd (of_decide_eq_true hx) (hk _ _ _ _ _ _ _ hs hI hl)
  case if_icmp q o =>
    obtain ⟨hd, rfl, hx⟩ := am_ok3 hok
    obtain ⟨y, r, rfl, hs⟩ := am_pI.inv hs
    obtain ⟨x, r, rfl, hs⟩ := am_pI.inv hs
    have ht := of_decide_eq_true hx
    cases q
    case eq => exact lv_icmp_eq hexec hb hd ht (fun q => hk _ _ _ _ _ _ _ (hs.1 q) hI hl) (fun q => hk _ _ _ _ _ _ _ (hs.2 q) hI hl)
    case ne => exact lv_icmp_ne hexec hb hd ht (fun q => hk _ _ _ _ _ _ _ (hs.1 q) hI hl) (fun q => hk _ _ _ _ _ _ _ (hs.2 (fun z => z q)) hI hl)
    case lt => exact lv_icmp_lt hexec hb hd ht (fun q => hk _ _ _ _ _ _ _ (hs.1 q) hI hl) (fun q => hk _ _ _ _ _ _ _ (hs.2 q) hI hl)
    case ge => exact lv_icmp_ge hexec hb hd ht (fun q => hk _ _ _ _ _ _ _ (hs.1 q) hI hl) (fun q => hk _ _ _ _ _ _ _ (hs.2 q) hI hl)
    case gt => exact lv_icmp_gt hexec hb hd ht (fun q => hk _ _ _ _ _ _ _ (hs.1 q) hI hl) (fun q => hk _ _ _ _ _ _ _ (hs.2 q) hI hl)
    case le => exact lv_icmp_le hexec hb hd ht (fun q => hk _ _ _ _ _ _ _ (hs.1 q) hI hl) (fun q => hk _ _ _ _ _ _ _ (hs.2 q) hI hl)
  case ifCond q o =>
    obtain ⟨hd, rfl, hx⟩ := am_ok3 hok
    obtain ⟨x, r, rfl, hs⟩ := am_pI.inv hs
    have ht := of_decide_eq_true hx
    cases q
    case eq => exact lv_if_eq hexec hb hd ht (fun q => hk _ _ _ _ _ _ _ (hs.1 q) hI hl) (fun q => hk _ _ _ _ _ _ _ (hs.2 q) hI hl)
    case ne => exact lv_if_ne hexec hb hd ht (fun q => hk _ _ _ _ _ _ _ (hs.1 q) hI hl) (fun q => hk _ _ _ _ _ _ _ (hs.2 (fun z => z q)) hI hl)
    case lt => exact lv_if_lt hexec hb hd ht (fun q => hk _ _ _ _ _ _ _ (hs.1 q) hI hl) (fun q => hk _ _ _ _ _ _ _ (hs.2 q) hI hl)
    case ge => exact lv_if_ge hexec hb hd ht (fun q => hk _ _ _ _ _ _ _ (hs.1 q) hI hl) (fun q => hk _ _ _ _ _ _ _ (hs.2 q) hI hl)
    case gt => exact lv_if_gt hexec hb hd ht (fun q => hk _ _ _ _ _ _ _ (hs.1 q) hI hl) (fun q => hk _ _ _ _ _ _ _ (hs.2 q) hI hl)
    case le => exact lv_if_le hexec hb hd ht (fun q => hk _ _ _ _ _ _ _ (hs.1 q) hI hl) (fun q => hk _ _ _ _ _ _ _ (hs.2 q) hI hl)
  case ldc2_w k =>
    obtain ⟨hd, rfl, hx⟩ := am_ok3 hok
    have h1 : (am_cl[c']?).map (fun q => (q.1, q.2.1)) = some (own, k) := of_decide_eq_true hx
    cases hq : am_cl[c']? with
    | none => rw [hq] at h1; cases h1
    | some q =>
      rw [hq] at h1
      obtain ⟨q1, q2, q3⟩ := q
      have h1 := Option.some.inj h1
      have e1 : q1 = own := congrArg Prod.fst h1
      have e2 : q2 = k := congrArg Prod.snd h1
      subst e1
      subst e2
      have hv : am_kl c' = q3 := by simp [am_kl, hq]
      refine lv_ldc2 hexec hb hown (hts _ (am_gw_cl hq)) hd ?_
      rw [← hv]
      exact hk _ _ _ _ _ _ _ hs hI hl
  case ldc_w k =>
    obtain ⟨hd, rfl, hx⟩ := am_ok3 hok
    have hx : (!(Nat.beq b' 1) && decide ((am_ci[c']?).map (fun q => (q.1, q.2.1)) = some (own, k))) = true := hx
    have hs2 : (bif Nat.beq b' 1 then K (pc + 3) lv (.ref (4000000 + c') :: st) h else K (pc + 3) lv (.int (am_ki c') :: st) h) := hs
    rw [Bool.and_eq_true] at hx
    obtain ⟨hx0, hx⟩ := hx
    cases hb1 : Nat.beq b' 1 with
    | true => rw [hb1] at hx0; cases hx0
    | false =>
      rw [hb1] at hs2
      have h1 : (am_ci[c']?).map (fun q => (q.1, q.2.1)) = some (own, k) := of_decide_eq_true hx
      cases hq : am_ci[c']? with
      | none => rw [hq] at h1; cases h1
      | some q =>
        rw [hq] at h1
        obtain ⟨q1, q2, q3⟩ := q
        have h1 := Option.some.inj h1
        have e1 : q1 = own := congrArg Prod.fst h1
        have e2 : q2 = k := congrArg Prod.snd h1
        subst e1
        subst e2
        have hv : am_ki c' = q3 := by simp [am_ki, hq]
        refine lv_ldcw hexec hb hown (hts _ (am_gw_ci hq)) hd ?_
        rw [← hv]
        exact hk _ _ _ _ _ _ _ hs2 hI hl
  case ldc k =>
    obtain ⟨hd, rfl, hx⟩ := am_ok3 hok
    have hx : (bif Nat.beq b' 1 then decide ((am_stt[c']?).map (fun q => (q.1, q.2.1)) = some (own, k)) else decide ((am_ci[c']?).map (fun q => (q.1, q.2.1)) = some (own, k))) = true := hx
    have hs2 : (bif Nat.beq b' 1 then K (pc + 2) lv (.ref (4000000 + c') :: st) h else K (pc + 2) lv (.int (am_ki c') :: st) h) := hs
    cases hb1 : Nat.beq b' 1 with
    | true =>
      rw [hb1] at hs2 hx
      have h1 : (am_stt[c']?).map (fun q => (q.1, q.2.1)) = some (own, k) := of_decide_eq_true hx
      cases hq : am_stt[c']? with
      | none => rw [hq] at h1; cases h1
      | some q =>
        rw [hq] at h1
        obtain ⟨q1, q2, q3⟩ := q
        have h1 := Option.some.inj h1
        have e1 : q1 = own := congrArg Prod.fst h1
        have e2 : q2 = k := congrArg Prod.snd h1
        subst e1
        subst e2
        exact va_ldcS hexec hb hown (hE.2.2.2.2.2.2.1 c' _ _ _ hq) hd (hk _ _ _ _ _ _ _ hs2 hI hl)
    | false =>
      rw [hb1] at hs2 hx
      have h1 : (am_ci[c']?).map (fun q => (q.1, q.2.1)) = some (own, k) := of_decide_eq_true hx
      cases hq : am_ci[c']? with
      | none => rw [hq] at h1; cases h1
      | some q =>
        rw [hq] at h1
        obtain ⟨q1, q2, q3⟩ := q
        have h1 := Option.some.inj h1
        have e1 : q1 = own := congrArg Prod.fst h1
        have e2 : q2 = k := congrArg Prod.snd h1
        subst e1
        subst e2
        have hv : am_ki c' = q3 := by simp [am_ki, hq]
        refine lv_ldc hexec hb hown (hts _ (am_gw_ci hq)) hd ?_
        rw [← hv]
        exact hk _ _ _ _ _ _ _ hs2 hI hl
  case getstatic k =>
    obtain ⟨hd, rfl, hx⟩ := am_ok3 hok
    have hx : (Nat.beq b' 0 && decide (am_fl[c']? = some (own, k, "java/lang/String", "COMPACT_STRINGS", "Z"))) = true := hx
    have hs : (bif Nat.beq b' 1 then K (pc + 3) lv (.ref 6000000 :: st) h else K (pc + 3) lv (.int 1 :: st) h) := hs
    rw [Bool.and_eq_true, decide_eq_true_eq] at hx
    have e0 := Nat.eq_of_beq_eq_true hx.1
    rw [e0] at hs
    exact va_gets hexec hb hE.2.2.2.2.2.2.2.1 hI.2.1 hown (hts _ (am_gw_fl hx.2)) (fun x q => q) hd (hk _ _ _ _ _ _ _ hs hI hl)
  case i2b =>
    obtain ⟨hd, rfl, hx⟩ := am_ok3 hok
    obtain ⟨x, r, rfl, hs⟩ := am_pI.inv hs
    exact lv_i2b hexec hb hd rfl (hk _ _ _ _ _ _ _ hs hI hl)
  case tableswitch df lo hi os =>
    obtain ⟨x, r, rfl, hs⟩ := am_pI.inv hs
    have hok : ((match decode cc pc with
      | .ok (i', _) => decide (i' = .tableswitch df lo hi os)
      | _ => false) && (decide (0 ≤ (pc : Int) + df) && (os.toList.all (fun o => decide (0 ≤ (pc : Int) + o)) && decide ((os.size : Int) = hi - lo + 1)))) = true := hok
    simp only [Bool.and_eq_true, decide_eq_true_eq] at hok
    obtain ⟨h0, h1, h2, h3⟩ := hok
    have hd : ∃ len, decode cc pc = .ok (.tableswitch df lo hi os, len) := by
      split at h0
      · rename_i i' len hdd
        exact ⟨len, by rw [hdd, of_decide_eq_true h0]⟩
      · cases h0
    obtain ⟨len, hd⟩ := hd
    by_cases hx1 : x.toInt < lo ∨ hi < x.toInt
    · exact lv_tableOut hexec hb hd hx1 (Int.toNat_of_nonneg h1).symm (hk _ _ _ _ _ _ _ (hs.1 hx1) hI hl)
    · have hlo : ¬ x.toInt < lo := fun q => hx1 (Or.inl q)
      have hhi : ¬ hi < x.toInt := fun q => hx1 (Or.inr q)
      have hj : (x.toInt - lo).toNat < os.size := by omega
      have ho : os[(x.toInt - lo).toNat]? = some os[(x.toInt - lo).toNat] := Array.getElem?_eq_getElem hj
      have h5 : (0 : Int) ≤ (pc : Int) + os[(x.toInt - lo).toNat] := of_decide_eq_true (List.all_eq_true.mp h2 _ (by rw [Array.mem_toList_iff]; exact Array.getElem_mem hj))
      have h6 := hs.2 (x.toInt - lo).toNat (by omega) (by omega)
      rw [ho] at h6
      exact lv_tableIn hexec hb hd hlo hhi ho (Int.toNat_of_nonneg h5).symm (hk _ _ _ _ _ _ _ h6 hI hl)
  case lookupswitch df ps =>
    obtain ⟨x, r, rfl, hs⟩ := am_pI.inv hs
    have hok : ((match decode cc pc with
      | .ok (i', _) => decide (i' = .lookupswitch df ps)
      | _ => false) && (decide (0 ≤ (pc : Int) + df) && (ps.toList.all (fun o => decide (0 ≤ (pc : Int) + o.2)) && (ps.toList.zip (ps.toList.drop 1)).all (fun (a, next) => a.1 < next.1)))) = true := hok
    rw [Bool.and_eq_true, Bool.and_eq_true, Bool.and_eq_true] at hok
    obtain ⟨h0, h1, h2, h3⟩ := hok
    have h1 := of_decide_eq_true h1
    have hd : ∃ len, decode cc pc = .ok (.lookupswitch df ps, len) := by
      split at h0
      · rename_i i' len hdd
        exact ⟨len, by rw [hdd, of_decide_eq_true h0]⟩
      · cases h0
    obtain ⟨len, hd⟩ := hd
    have h6 : ∀ (z : Int) (l : List (Int × Int)), l.all (fun o => decide (0 ≤ (pc : Int) + o.2)) = true → (0 : Int) ≤ (pc : Int) + Op.lookupswitch.offset l df z := by
      intro z l
      induction l with
      | nil => intro _; exact h1
      | cons q r ih =>
        intro hq
        rw [List.all_cons, Bool.and_eq_true] at hq
        obtain ⟨q1, q2⟩ := q
        rw [Op.lookupswitch.offset_cons]
        split
        · exact of_decide_eq_true hq.1
        · exact ih hq.2
    exact lv_lookup hexec hb hd h3 rfl (Int.toNat_of_nonneg (h6 _ _ h2)).symm (hk _ _ _ _ _ _ _ hs hI hl)
  case getfield k =>
    obtain ⟨hd, rfl, hx⟩ := am_ok3 hok
    cases hb20 : Nat.beq b' 20 with
    | true =>
      have hx : (bif Nat.beq b' 20 then (Nat.beq a 0 && decide (am_fl[c']? = some (own, k, "java/lang/String", "value", "[B"))) || (Nat.beq a 1 && decide (am_fl[c']? = some (own, k, "java/lang/String", "coder", "B"))) else _) = true := hx
      have hs2 : (bif Nat.beq b' 20 then am_pR st fun o r => ∃ q : Nat, q < 26 ∧ o = 4000000 + q ∧ K (pc + 3) lv ((bif Nat.beq a 0 then .ref (5000000 + q) else .int 0) :: r) h else _) := hs
      rw [hb20] at hx hs2
      obtain ⟨o, r, e7, q, hq, e8, hs3⟩ := am_pR.inv hs2
      subst e8
      subst e7
      have hS9 : va_O "java/lang/String" (ad (4000000 + q)) (fun q => base ≤ q) s s.heap ∧ va_OF "java/lang/String" "coder" "B" (.int 0) (ad (4000000 + q)) (fun q => base ≤ q) s s.heap ∧ va_OF "java/lang/String" "value" "[B" (.ref (ad (5000000 + q))) (ad (4000000 + q)) (fun q => base ≤ q) s s.heap ∧ va_T .byte (ad (5000000 + q)) (am_sln.getD q 0) (fun j => .int ((am_sby.getD q []).getD j 0)) (fun q => base ≤ q) s s.heap := (hE.2.2.2.2.2.1 q hq).1 0 (by decide)
      rcases Bool.or_eq_true_iff.mp hx with hx | hx
      · rw [Bool.and_eq_true, decide_eq_true_eq] at hx
        rw [hx.1] at hs3
        exact vk_getf hexec hb hS9.2.2.1 hI.2.1 hown (hts _ (am_gw_fl hx.2)) (fun x q => q) hd (hk _ _ _ _ _ _ _ hs3 hI hl)
      · rw [Bool.and_eq_true, decide_eq_true_eq] at hx
        have e0 := Nat.eq_of_beq_eq_true hx.1
        rw [e0] at hs3
        exact vk_getf hexec hb hS9.2.1 hI.2.1 hown (hts _ (am_gw_fl hx.2)) (fun x q => q) hd (hk _ _ _ _ _ _ _ hs3 hI hl)
    | false =>
    have hx : (bif Nat.beq b' 20 then _ else decide (am_fl[c']? = some (own, k, (am_fd b' a).1, (am_fd b' a).2.1, (am_fd b' a).2.2.1)) && (decide (b' < 12) && decide (a < am_nf b'))) = true := hx
    have hs : (bif Nat.beq b' 20 then _ else am_pR st fun o r => am_sh h o = some (b', 0) ∧ K (pc + 3) lv (am_gv h b' a o :: r) h) := hs
    rw [hb20] at hx hs
    obtain ⟨h1, h2, h3⟩ := am_ok3 hx
    have h3 := of_decide_eq_true h3
    obtain ⟨o, r, rfl, hsh, hs⟩ := am_pR.inv hs
    have ho := am_obj hsh h2
    obtain ⟨C, T, N, e1, e2, e3, e4, e5, ty, e6, e7, e8⟩ := am_ci_ok b' h2
    have hlk : (Cond.fieldLink own k (T a).1 (T a).2.1 (T a).2.2.1).before args s = true := hts _ (am_gw_fl (by rw [← e4]; exact h1))
    exact va_get (ref := (T a).1) hexec hb hts e5 hown hE.1 hI.1 o ((am_cc_at ho).trans (by rw [am_cell_obj h2])) e1 a (by rw [← e2]; exact h3) hlk (fun x q => q) (am_fs_at h3) hd (hk _ _ _ _ _ _ _ hs hI hl)
  case putfield k =>
    obtain ⟨hd, rfl, hx⟩ := am_ok3 hok
    have hx : (decide (am_fl[c']? = some (own, k, (am_fd b' a).1, (am_fd b' a).2.1, (am_fd b' a).2.2.1)) && (decide (b' < 12) && (decide (a < am_nf b') && (!(am_fd b' a).2.2.2 || (ini && decide ((am_fd b' a).1 = own)))))) = true := hx
    simp only [Bool.and_eq_true, Bool.or_eq_true, decide_eq_true_eq, Bool.not_eq_true'] at hx
    obtain ⟨h1, h2, h3, h4⟩ := hx
    obtain ⟨C, T, N, e1, e2, e3, e4, e5, ty, e6, e7, e8⟩ := am_ci_ok b' h2
    have hlk : (Cond.fieldLink own k (T a).1 (T a).2.1 (T a).2.2.1).before args s = true := hts _ (am_gw_fl (by rw [← e4]; exact h1))
    have e9 := e8 a (by rw [← e2]; exact h3)
    have h4 : (am_fd b' a).2.2.2 = false ∨ ((am_fd b' a).2.2.2 = true ∧ ini = true ∧ (am_fd b' a).1 = own) := by
      cases hf : (am_fd b' a).2.2.2 with
      | false => exact Or.inl rfl
      | true =>
        rcases h4 with h4 | h4
        · rw [hf] at h4
          cases h4
        · exact Or.inr ⟨rfl, h4⟩
    unfold am_stp at hs
    dsimp only at hs
    split at hs
    · rename_i hkd
      obtain ⟨x, r1, rfl, hs1⟩ := am_pI.inv hs
      obtain ⟨o, r, rfl, hsh, hn, hf, hs2⟩ := am_pR.inv hs1
      have ho := am_obj hsh h2
      rcases h4 with h4 | h4
      · refine va_put (ref := (T a).1) hexec hb hts e5 ty e6 e7 hown hE.1 hI.1 (am_cc_D hI.2.2.2.1 hG.1) hI.2.1 o ((am_cc_at ho).trans (by rw [am_cell_obj h2])) e1 a (by rw [← e2]; exact h3) hlk (fun x q => q) (by rw [← e4]; exact h4) (e6 a (by rw [← e2]; exact h3)) (v := .int x) (by rw [← e9.2]; exact hn) (by rw [← e9.2]; exact hf) (by simp [h3]) hd (fun H1 locs1 hP1 hD1 hS1 => ?_)
        have hz := fun hI' => hk _ _ _ _ H1 locs1 _ hs2 hI' hl
        refine hz ⟨am_set_P ho rfl am_cell_oI ?_ hP1, hS1, hI.2.2.1.wI (am_sw_lt ho), hI.2.2.2.1, hI.2.2.2.2⟩
        rw [am_cell_obj h2, ← am_fs_set h3 (am_put_oI (x := x)), am_put_gv hkd]
        rfl
      · refine va_putF (ref := (T a).1) hexec hb hts e5 ty e6 e7 hown hE.1 hI.1 (am_cc_D hI.2.2.2.1 hG.1) hI.2.1 o ((am_cc_at ho).trans (by rw [am_cell_obj h2])) e1 a (by rw [← e2]; exact h3) hlk (fun x q => q) (by rw [← e4]; exact h4.1) (hini h4.2.1) (by rw [← e4]; exact h4.2.2) (e6 a (by rw [← e2]; exact h3)) (v := .int x) (by rw [← e9.2]; exact hn) (by rw [← e9.2]; exact hf) (by simp [h3]) hd (fun H1 locs1 hP1 hD1 hS1 => ?_)
        have hz := fun hI' => hk _ _ _ _ H1 locs1 _ hs2 hI' hl
        refine hz ⟨am_set_P ho rfl am_cell_oI ?_ hP1, hS1, hI.2.2.1.wI (am_sw_lt ho), hI.2.2.2.1, hI.2.2.2.2⟩
        rw [am_cell_obj h2, ← am_fs_set h3 (am_put_oI (x := x)), am_put_gv hkd]
        rfl
    · rename_i hkd
      obtain ⟨x, r1, rfl, hs1⟩ := am_pL.inv hs
      obtain ⟨o, r, rfl, hsh, hs2⟩ := am_pR.inv hs1
      have ho := am_obj hsh h2
      have hty : ty a = .long := by
        rw [hkd] at e9
        revert e9
        cases ty a <;> intro e9 <;> first | rfl | (exact absurd e9.1 (fun q => by cases q))
      rcases h4 with h4 | h4
      · refine va_put (ref := (T a).1) hexec hb hts e5 ty e6 e7 hown hE.1 hI.1 (am_cc_D hI.2.2.2.1 hG.1) hI.2.1 o ((am_cc_at ho).trans (by rw [am_cell_obj h2])) e1 a (by rw [← e2]; exact h3) hlk (fun x q => q) (by rw [← e4]; exact h4) (e6 a (by rw [← e2]; exact h3)) (v := .long x) (by rw [hty]; rfl) (by rw [hty]; rfl) (by simp [h3]) hd (fun H1 locs1 hP1 hD1 hS1 => ?_)
        have hz := fun hI' => hk _ _ _ _ H1 locs1 _ hs2 hI' hl
        refine hz ⟨am_set_P ho rfl am_cell_oL ?_ hP1, hS1, hI.2.2.1.wL, hI.2.2.2.1, hI.2.2.2.2⟩
        rw [am_cell_obj h2, ← am_fs_set h3 (am_put_oL (x := x)), am_put_gvL hkd]
        rfl
      · refine va_putF (ref := (T a).1) hexec hb hts e5 ty e6 e7 hown hE.1 hI.1 (am_cc_D hI.2.2.2.1 hG.1) hI.2.1 o ((am_cc_at ho).trans (by rw [am_cell_obj h2])) e1 a (by rw [← e2]; exact h3) hlk (fun x q => q) (by rw [← e4]; exact h4.1) (hini h4.2.1) (by rw [← e4]; exact h4.2.2) (e6 a (by rw [← e2]; exact h3)) (v := .long x) (by rw [hty]; rfl) (by rw [hty]; rfl) (by simp [h3]) hd (fun H1 locs1 hP1 hD1 hS1 => ?_)
        have hz := fun hI' => hk _ _ _ _ H1 locs1 _ hs2 hI' hl
        refine hz ⟨am_set_P ho rfl am_cell_oL ?_ hP1, hS1, hI.2.2.1.wL, hI.2.2.2.1, hI.2.2.2.2⟩
        rw [am_cell_obj h2, ← am_fs_set h3 (am_put_oL (x := x)), am_put_gvL hkd]
        rfl
    · rename_i hkd hkd1
      obtain ⟨x, r1, rfl, hs1⟩ := am_pR.inv hs
      obtain ⟨o, r, rfl, hsh, hs2⟩ := am_pR.inv hs1
      have ho := am_obj hsh h2
      have hty : (∃ n, ty a = .object n) ∨ ∃ t, ty a = .array t := by
        revert e9
        cases ty a <;> intro e9 <;> first | exact Or.inl ⟨_, rfl⟩ | exact Or.inr ⟨_, rfl⟩ | exact absurd e9.1 hkd | exact absurd e9.1 hkd1
      rcases h4 with h4 | h4
      · refine va_put (ref := (T a).1) hexec hb hts e5 ty e6 e7 hown hE.1 hI.1 (am_cc_D hI.2.2.2.1 hG.1) hI.2.1 o ((am_cc_at ho).trans (by rw [am_cell_obj h2])) e1 a (by rw [← e2]; exact h3) hlk (fun x q => q) (by rw [← e4]; exact h4) (e6 a (by rw [← e2]; exact h3)) (v := .ref (ad x)) (by rcases hty with ⟨n, q⟩ | ⟨n, q⟩ <;> rw [q] <;> rfl) (by rcases hty with ⟨n, q⟩ | ⟨n, q⟩ <;> rw [q] <;> rfl) (by simp [h3]) hd (fun H1 locs1 hP1 hD1 hS1 => ?_)
        have hz := fun hI' => hk _ _ _ _ H1 locs1 _ hs2 hI' hl
        refine hz ⟨am_set_P ho rfl am_cell_oR ?_ hP1, hS1, hI.2.2.1.wR, hI.2.2.2.1, hI.2.2.2.2⟩
        rw [am_cell_obj h2, ← am_fs_set h3 (am_put_oR (x := some x)), am_put_gvR hkd hkd1]
        rfl
      · refine va_putF (ref := (T a).1) hexec hb hts e5 ty e6 e7 hown hE.1 hI.1 (am_cc_D hI.2.2.2.1 hG.1) hI.2.1 o ((am_cc_at ho).trans (by rw [am_cell_obj h2])) e1 a (by rw [← e2]; exact h3) hlk (fun x q => q) (by rw [← e4]; exact h4.1) (hini h4.2.1) (by rw [← e4]; exact h4.2.2) (e6 a (by rw [← e2]; exact h3)) (v := .ref (ad x)) (by rcases hty with ⟨n, q⟩ | ⟨n, q⟩ <;> rw [q] <;> rfl) (by rcases hty with ⟨n, q⟩ | ⟨n, q⟩ <;> rw [q] <;> rfl) (by simp [h3]) hd (fun H1 locs1 hP1 hD1 hS1 => ?_)
        have hz := fun hI' => hk _ _ _ _ H1 locs1 _ hs2 hI' hl
        refine hz ⟨am_set_P ho rfl am_cell_oR ?_ hP1, hS1, hI.2.2.1.wR, hI.2.2.2.1, hI.2.2.2.2⟩
        rw [am_cell_obj h2, ← am_fs_set h3 (am_put_oR (x := some x)), am_put_gvR hkd hkd1]
        rfl
  case iaload =>
    obtain ⟨hd, rfl, hx⟩ := am_ok3 hok
    obtain ⟨i, r1, rfl, hs1⟩ := am_pI.inv hs
    obtain ⟨o, r, rfl, j, n, hsh, hj, rfl, hs2⟩ := am_pR.inv hs1
    rcases am_sh_cases hsh with ⟨rfl, hn⟩ | ho
    · have hnL : n = L := (congrArg Prod.snd hn).trans hI.2.2.1.1
      subst hnL
      have hA : ¬ am_A base b := fun q => absurd hG.2.2.1 (Nat.not_lt.mpr q)
      have e1 := hI.2.2.1.2 j hj
      rw [e1] at hs2
      have hs3 := hk _ _ _ _ _ _ _ hs2 hI hl
      show W p l e R s m args below meth c H locs (am_ce c0 h) (am_sc c0 h) Qw (F0 m pc ls (.int (nI j) :: .ref (ad 3000000) :: r.map (am_cv ad)))
      rw [hG.2.1]
      refine va_sld hexec hb hE.2.2.1 (Nat.lt_of_lt_of_le hG.2.2.1 hbase) hA hI.2.1 (vp_in_nI hj hG.2.2.2) hd ?_
      rw [nI_clamp (Nat.lt_trans hj hG.2.2.2)]
      exact hs3
    · have hn := am_lenlt ho
      refine va_iald hexec hb hE.1 hI.1 o 1 ((am_cc_at ho).trans (by rw [am_cell_i (Or.inr (Or.inl rfl))])) rfl (vp_in_nI hj hn) hd ?_
      rw [nI_clamp (Nat.lt_trans hj hn)]
      exact hk _ _ _ _ _ _ _ hs2 hI hl
  case caload =>
    obtain ⟨hd, rfl, hx⟩ := am_ok3 hok
    obtain ⟨i, r1, rfl, hs1⟩ := am_pI.inv hs
    obtain ⟨o, r, rfl, j, n, hsh, hj, rfl, hs2⟩ := am_pR.inv hs1
    rcases am_sh_cases hsh with ⟨rfl, hn⟩ | ho
    · exact absurd (show (12 : Nat) = 13 from congrArg Prod.fst hn) (by decide)
    · have hn := am_lenlt ho
      refine va_cald hexec hb hE.1 hI.1 o 0 ((am_cc_at ho).trans (by rw [am_cell_i (Or.inl rfl)])) rfl (vp_in_nI hj hn) hd ?_
      rw [nI_clamp (Nat.lt_trans hj hn)]
      exact hk _ _ _ _ _ _ _ hs2 hI hl
  case baload =>
    obtain ⟨hd, rfl, hx⟩ := am_ok3 hok
    obtain ⟨i, r1, rfl, hs1⟩ := am_pI.inv hs
    obtain ⟨o, r, rfl, ⟨j, n, hsh, hj, rfl, hs2⟩ | ⟨q, j, hq, rfl, hj, rfl, hs2⟩⟩ := am_pR.inv hs1
    rotate_left
    · have hS9 : va_O "java/lang/String" (ad (4000000 + q)) (fun q => base ≤ q) s s.heap ∧ va_OF "java/lang/String" "coder" "B" (.int 0) (ad (4000000 + q)) (fun q => base ≤ q) s s.heap ∧ va_OF "java/lang/String" "value" "[B" (.ref (ad (5000000 + q))) (ad (4000000 + q)) (fun q => base ≤ q) s s.heap ∧ va_T .byte (ad (5000000 + q)) (am_sln.getD q 0) (fun j => .int ((am_sby.getD q []).getD j 0)) (fun q => base ≤ q) s s.heap := (hE.2.2.2.2.2.1 q hq).1 0 (by decide)
      have hln : am_sln.getD q 0 < 2 ^ 31 := Nat.lt_of_le_of_lt (am_sln_le q) (by decide)
      refine va_tb hexec hb hS9.2.2.2 hI.2.1 (vp_in_nI hj hln) (v := .int ((am_sby.getD q []).getD j 0)) (by rw [nI_clamp (Nat.lt_trans hj hln)]) hd ?_
      exact hk _ _ _ _ _ _ _ hs2 hI hl
    rcases am_sh_cases hsh with ⟨rfl, hn⟩ | ho
    · exact absurd (show (15 : Nat) = 13 from congrArg Prod.fst hn) (by decide)
    · have hn := am_lenlt ho
      refine va_zald hexec hb hE.1 hI.1 o 3 ((am_cc_at ho).trans (by rw [am_cell_i (Or.inr (Or.inr rfl))])) rfl (vp_in_nI hj hn) hd ?_
      rw [nI_clamp (Nat.lt_trans hj hn)]
      exact hk _ _ _ _ _ _ _ hs2 hI hl
  case laload =>
    obtain ⟨hd, rfl, hx⟩ := am_ok3 hok
    obtain ⟨i, r1, rfl, hs1⟩ := am_pI.inv hs
    obtain ⟨o, r, rfl, j, n, hsh, hj, rfl, hs2⟩ := am_pR.inv hs1
    rcases am_sh_cases hsh with ⟨rfl, hn⟩ | ho
    · exact absurd (show (14 : Nat) = 13 from congrArg Prod.fst hn) (by decide)
    · have hn := am_lenlt ho
      refine va_lald hexec hb hE.1 hI.1 o 2 ((am_cc_at ho).trans (by rw [am_cell_l])) rfl (vp_in_nI hj hn) hd ?_
      rw [nI_clamp (Nat.lt_trans hj hn)]
      exact hk _ _ _ _ _ _ _ hs2 hI hl
  case aaload =>
    obtain ⟨hd, rfl, hx⟩ := am_ok3 hok
    obtain ⟨i, r1, rfl, hs1⟩ := am_pI.inv hs
    obtain ⟨o, r, rfl, j, n, hsh, hj, rfl, hs2⟩ := am_pR.inv hs1
    rcases hsh with hsh | hsh
    · rcases am_sh_cases hsh with ⟨rfl, hn⟩ | ho
      · exact absurd (show (16 : Nat) = 13 from congrArg Prod.fst hn) (by decide)
      · have hn := am_lenlt ho
        refine va_aldq hexec hb hE.1 hI.1 o 4 ((am_cc_at ho).trans (by rw [am_cell_r (Or.inl rfl)])) rfl (vp_in_nI hj hn) hd ?_
        rw [nI_clamp (Nat.lt_trans hj hn), ← am_rf_cv]
        exact hk _ _ _ _ _ _ _ hs2 hI hl
    · rcases am_sh_cases hsh with ⟨rfl, hn⟩ | ho
      · exact absurd (show (17 : Nat) = 13 from congrArg Prod.fst hn) (by decide)
      · have hn := am_lenlt ho
        refine va_aldq hexec hb hE.1 hI.1 o 5 ((am_cc_at ho).trans (by rw [am_cell_r (Or.inr rfl)])) rfl (vp_in_nI hj hn) hd ?_
        rw [nI_clamp (Nat.lt_trans hj hn), ← am_rf_cv]
        exact hk _ _ _ _ _ _ _ hs2 hI hl
  case iastore =>
    obtain ⟨hd, rfl, hx⟩ := am_ok3 hok
    obtain ⟨x, r1, rfl, hs0⟩ := am_pI.inv hs
    obtain ⟨i, r2, rfl, hs1⟩ := am_pI.inv hs0
    obtain ⟨o, r, rfl, j, n, ho, hj, rfl, hs2⟩ := am_pR.inv hs1
    have hn := am_lenlt ho
    refine va_iast hexec hb hE.1 hI.1 (am_cc_D hI.2.2.2.1 hG.1) hI.2.1 o 1 ((am_cc_at ho).trans (by rw [am_cell_i (Or.inr (Or.inl rfl))])) rfl (vp_in_nI hj hn) hd (fun H1 locs1 hP1 hD1 hS1 => ?_)
    rw [nI_clamp (Nat.lt_trans hj hn)] at hP1
    have hz := fun hI' => hk _ _ _ _ H1 locs1 _ hs2 hI' hl
    refine hz ⟨am_set_P ho rfl am_cell_oI ?_ hP1, hS1, hI.2.2.1.wI (am_sw_lt ho), hI.2.2.2.1, hI.2.2.2.2⟩
    rw [am_cell_i (Or.inr (Or.inl rfl)), am_wI_upd]
  case castore =>
    obtain ⟨hd, rfl, hx⟩ := am_ok3 hok
    obtain ⟨x, r1, rfl, hs0⟩ := am_pI.inv hs
    obtain ⟨i, r2, rfl, hs1⟩ := am_pI.inv hs0
    obtain ⟨o, r, rfl, j, n, ho, hj, rfl, hs2⟩ := am_pR.inv hs1
    have hn := am_lenlt ho
    refine va_cast hexec hb hE.1 hI.1 (am_cc_D hI.2.2.2.1 hG.1) hI.2.1 o 0 ((am_cc_at ho).trans (by rw [am_cell_i (Or.inl rfl)])) rfl (vp_in_nI hj hn) hd (fun H1 locs1 hP1 hD1 hS1 => ?_)
    rw [nI_clamp (Nat.lt_trans hj hn)] at hP1
    have hz := fun hI' => hk _ _ _ _ H1 locs1 _ hs2 hI' hl
    refine hz ⟨am_set_P ho rfl am_cell_oI ?_ hP1, hS1, hI.2.2.1.wI (am_sw_lt ho), hI.2.2.2.1, hI.2.2.2.2⟩
    rw [am_cell_i (Or.inl rfl), am_wI_upd]
  case bastore =>
    obtain ⟨hd, rfl, hx⟩ := am_ok3 hok
    obtain ⟨x, r1, rfl, hs0⟩ := am_pI.inv hs
    obtain ⟨i, r2, rfl, hs1⟩ := am_pI.inv hs0
    obtain ⟨o, r, rfl, j, n, ho, hj, rfl, hs2⟩ := am_pR.inv hs1
    have hn := am_lenlt ho
    refine va_zast hexec hb hE.1 hI.1 (am_cc_D hI.2.2.2.1 hG.1) hI.2.1 o 3 ((am_cc_at ho).trans (by rw [am_cell_i (Or.inr (Or.inr rfl))])) rfl (vp_in_nI hj hn) hd (fun H1 locs1 hP1 hD1 hS1 => ?_)
    rw [nI_clamp (Nat.lt_trans hj hn)] at hP1
    have hz := fun hI' => hk _ _ _ _ H1 locs1 _ hs2 hI' hl
    refine hz ⟨am_set_P ho rfl am_cell_oI ?_ hP1, hS1, hI.2.2.1.wI (am_sw_lt ho), hI.2.2.2.1, hI.2.2.2.2⟩
    rw [am_cell_i (Or.inr (Or.inr rfl)), am_wI_upd]
  case lastore =>
    obtain ⟨hd, rfl, hx⟩ := am_ok3 hok
    obtain ⟨x, r1, rfl, hs0⟩ := am_pL.inv hs
    obtain ⟨i, r2, rfl, hs1⟩ := am_pI.inv hs0
    obtain ⟨o, r, rfl, j, n, ho, hj, rfl, hs2⟩ := am_pR.inv hs1
    have hn := am_lenlt ho
    refine va_last hexec hb hE.1 hI.1 (am_cc_D hI.2.2.2.1 hG.1) hI.2.1 o 2 ((am_cc_at ho).trans (by rw [am_cell_l])) rfl (vp_in_nI hj hn) hd (fun H1 locs1 hP1 hD1 hS1 => ?_)
    rw [nI_clamp (Nat.lt_trans hj hn)] at hP1
    have hz := fun hI' => hk _ _ _ _ H1 locs1 _ hs2 hI' hl
    refine hz ⟨am_set_P ho rfl am_cell_oL ?_ hP1, hS1, hI.2.2.1.wL, hI.2.2.2.1, hI.2.2.2.2⟩
    rw [am_cell_l, am_wL_upd]
  case arraylength =>
    obtain ⟨hd, rfl, hx⟩ := am_ok3 hok
    obtain ⟨o, r, rfl, ⟨t, n, hsh, ht, hs1⟩ | ⟨q, hq, rfl, hs1⟩⟩ := am_pR.inv hs
    rotate_left
    · have hS9 : va_O "java/lang/String" (ad (4000000 + q)) (fun q => base ≤ q) s s.heap ∧ va_OF "java/lang/String" "coder" "B" (.int 0) (ad (4000000 + q)) (fun q => base ≤ q) s s.heap ∧ va_OF "java/lang/String" "value" "[B" (.ref (ad (5000000 + q))) (ad (4000000 + q)) (fun q => base ≤ q) s s.heap ∧ va_T .byte (ad (5000000 + q)) (am_sln.getD q 0) (fun j => .int ((am_sby.getD q []).getD j 0)) (fun q => base ≤ q) s s.heap := (hE.2.2.2.2.2.1 q hq).1 0 (by decide)
      exact va_tlen hexec hb hS9.2.2.2 hI.2.1 rfl hd (hk _ _ _ _ _ _ _ hs1 hI hl)
    rcases am_sh_cases hsh with ⟨rfl, hn⟩ | ho
    · have hnL : n = L := (congrArg Prod.snd hn).trans hI.2.2.1.1
      subst hnL
      have hA : ¬ am_A base b := fun q => absurd hG.2.2.1 (Nat.not_lt.mpr q)
      have hs2 := hk _ _ _ _ _ _ _ hs1 hI hl
      show W p l e R s m args below meth c H locs (am_ce c0 h) (am_sc c0 h) Qw (F0 m pc ls (.ref (ad 3000000) :: r.map (am_cv ad)))
      rw [hG.2.1]
      exact va_slen hexec hb hE.2.2.1 (Nat.lt_of_lt_of_le hG.2.2.1 hbase) hA hI.2.1 hd hs2
    · have ht2 : t = 12 ∨ t = 13 ∨ t = 14 ∨ t = 15 ∨ t = 16 ∨ t = 17 := am_ar h o t n ho ht
      rcases ht2 with rfl | rfl | rfl | rfl | rfl | rfl
      · exact va_alen (x := (n, .inl (h.1 o))) hexec hb hE.1 hI.1 o 0 ((am_cc_at ho).trans (by rw [am_cell_i (Or.inl rfl)])) rfl rfl hd (hk _ _ _ _ _ _ _ hs1 hI hl)
      · exact va_alen (x := (n, .inl (h.1 o))) hexec hb hE.1 hI.1 o 1 ((am_cc_at ho).trans (by rw [am_cell_i (Or.inr (Or.inl rfl))])) rfl rfl hd (hk _ _ _ _ _ _ _ hs1 hI hl)
      · exact va_alen (x := (n, .inr (.inl (h.2.1 o)))) hexec hb hE.1 hI.1 o 2 ((am_cc_at ho).trans (by rw [am_cell_l])) rfl rfl hd (hk _ _ _ _ _ _ _ hs1 hI hl)
      · exact va_alen (x := (n, .inl (h.1 o))) hexec hb hE.1 hI.1 o 3 ((am_cc_at ho).trans (by rw [am_cell_i (Or.inr (Or.inr rfl))])) rfl rfl hd (hk _ _ _ _ _ _ _ hs1 hI hl)
      · exact va_alen (x := (n, .inr (.inr (.inr (.inr (fun j => (h.2.2.1 o j).map ad)))))) hexec hb hE.1 hI.1 o 4 ((am_cc_at ho).trans (by rw [am_cell_r (Or.inl rfl)])) rfl rfl hd (hk _ _ _ _ _ _ _ hs1 hI hl)
      · exact va_alen (x := (n, .inr (.inr (.inr (.inr (fun j => (h.2.2.1 o j).map ad)))))) hexec hb hE.1 hI.1 o 5 ((am_cc_at ho).trans (by rw [am_cell_r (Or.inr rfl)])) rfl rfl hd (hk _ _ _ _ _ _ _ hs1 hI hl)
  case invokevirtual k =>
    obtain ⟨hd, rfl, hx⟩ := am_ok3 hok
    refine am_Wsz (fun hle => ?_)
    have hw := am_sizeq hG hsz hI hle
    have hx : (decide (am_ml[c']? = some (own, k, a)) && (bif Nat.beq d 20 then decide ((a, b') ∈ am_svl) else decide ((a, b', d) ∈ am_vls))) = true := hx
    rw [Bool.and_eq_true, decide_eq_true_eq] at hx
    obtain ⟨h1, h2⟩ := hx
    cases hd20 : Nat.beq d 20 with
    | true =>
      rw [hd20] at h2
      have h2 := of_decide_eq_true h2
      obtain ⟨v1, v2, v3, v4, v6, v7, v8, v9, v10⟩ := am_svl_at h2
      unfold am_stp at hs
      dsimp only at hs
      split at hs
      · rename_i As o r hpop
        obtain ⟨B, rfl, hB, rfl⟩ := am_pop_inv hpop
        rw [List.append_nil] at hs hpop
        obtain ⟨hrc, hcat, hlm, hcp⟩ := hs
        rcases hrc with ⟨hne, -⟩ | ⟨-, q, hq, rfl⟩
        · exact absurd (Nat.eq_of_beq_eq_true hd20) hne
        obtain ⟨dd, hM, hfr, hlo⟩ := hC _ _ _ _ hcp
        have hG2 : GoodIn am_gw (wsV own k "java/lang/String" (am_y a) (am_ws a)) := am_good_in (fun w hw => by
          unfold wsV at hw
          rcases List.mem_append.mp hw with q | q
          · simp only [List.mem_cons, List.not_mem_nil, or_false] at q
            rcases q with rfl | rfl | rfl | rfl
            · exact am_gw_ml h1 v10
            · exact am_gw_in v1
            · rw [← v4]; exact am_gw_se v2
            · rw [← v4]; exact am_gw_ii v6
          · exact am_ws_in v7 w q)
        have hrun := va_runV (p := p) (e := e) (below := below) (meth := meth) (locs := locs) (cells := am_ce c0 h) (slots := am_sc c0 h) (g := F0 m pc ls ((B.reverse ++ .ref (4000000 + q) :: r).map (am_cv ad))) (As := B.map (am_cv ad)) (rest := r.map (am_cv ad)) (b := ad (4000000 + q)) ⟨hexec, hb, hml, hown, hts⟩ hM (cwV (R := R) b' hts hG2 rfl rfl rfl ⟨v4, v9.1, v9.2, v3⟩ ⟨hfr, by show 8 + (am_nL a + 11) + 40 * dd ≤ R.locals; omega⟩) ⟨am_Pc.blind, vk_recv (adK := fun _ => ad (4000000 + q)) (i := 0) (hE.2.2.2.2.2.1 q hq) (by decide) hI.2.1, fun U hU hW => ⟨rfl, hE.warm hW (fun x9 g9 g8 => by rw [hU]; exact hI.2.1.2.1 x9 g9 g8) (Nat.lt_of_lt_of_le hG.2.2.1 hbase) (fun q => absurd hG.2.2.1 (Nat.not_lt.mpr q)), by rw [hU]; exact Nat.le_trans hbase hI.2.1.1, by rw [hU]; exact hI.1, hI.2.2.1, by rw [hU]; exact hw⟩⟩ rfl (by rw [List.length_map, hB]) hl.1 (by show (B.reverse ++ .ref (4000000 + q) :: r).map (am_cv ad) = _; rw [List.map_append, List.map_reverse]; rfl) (lv_room (by rw [List.map_map]; exact Nat.le_trans (Nat.le_of_eq (congrArg List.sum (List.map_congr_left (fun v _ => am_cv_cat ad v)))) hcat)) hd (am_fit hcs hI.2.2.2.2 hlm)
        refine am_call_go hrun hI.2.1 hI.2.2.2.2 (fun v h' H1 locs1 hk1 hI1 => ?_)
        have := hk _ _ _ _ _ _ _ hk1 hI1 hl
        rw [List.map_append] at this
        cases v <;> exact this
      · exact hs.elim
    | false =>
    rw [hd20] at h2
    have h2 := of_decide_eq_true h2
    obtain ⟨v1, v2, v3, v4, v5, v6, v7, v8, v9, v10⟩ := am_vls_at h2
    unfold am_stp at hs
    dsimp only at hs
    split at hs
    · rename_i As o r hpop
      obtain ⟨B, rfl, hB, rfl⟩ := am_pop_inv hpop
      rw [List.append_nil] at hs hpop
      obtain ⟨hrc, hcat, hlm, hcp⟩ := hs
      have hsh : am_sh h o = some (d, 0) := hrc.elim (fun z => z.2) (fun z => absurd z.1 (by omega))
      have ho := am_obj hsh v5
      obtain ⟨dd, hM, hfr, hlo⟩ := hC _ _ _ _ hcp
      obtain ⟨C, T, N, e1, e2, e3, e4, e5, ty, e6, e7, e8⟩ := am_ci_ok d v5
      have hG2 : GoodIn am_gw (wsV own k (am_cn d) (am_y a) (am_ws a)) := am_good_in (fun w hw => by
        unfold wsV at hw
        rcases List.mem_append.mp hw with q | q
        · simp only [List.mem_cons, List.not_mem_nil, or_false] at q
          rcases q with rfl | rfl | rfl | rfl
          · exact am_gw_ml h1 v10
          · exact am_gw_in v1
          · rw [v4]; exact am_gw_se v2
          · rw [v4]; exact am_gw_ii v6
        · exact am_ws_in v7 w q)
      have hrun := va_runV (p := p) (e := e) (below := below) (meth := meth) (locs := locs) (cells := am_ce c0 h) (slots := am_sc c0 h) (g := F0 m pc ls ((B.reverse ++ .ref o :: r).map (am_cv ad))) (As := B.map (am_cv ad)) (rest := r.map (am_cv ad)) (b := ad o) ⟨hexec, hb, hml, hown, hts⟩ hM (cwV (R := R) b' hts hG2 rfl rfl rfl ⟨v4.symm, v9.1, v9.2, v3⟩ ⟨hfr, by show 8 + (am_nL a + 11) + 40 * dd ≤ R.locals; omega⟩) ⟨am_Pc.blind, by rw [e3]; exact va_recv hE.1 hI.1 e1 ((am_cc_at ho).trans (by rw [am_cell_obj v5])), fun U hU hW => ⟨rfl, hE.warm hW (fun x9 g9 g8 => by rw [hU]; exact hI.2.1.2.1 x9 g9 g8) (Nat.lt_of_lt_of_le hG.2.2.1 hbase) (fun q => absurd hG.2.2.1 (Nat.not_lt.mpr q)), by rw [hU]; exact Nat.le_trans hbase hI.2.1.1, by rw [hU]; exact hI.1, hI.2.2.1, by rw [hU]; exact hw⟩⟩ rfl (by rw [List.length_map, hB]) hl.1 (by show (B.reverse ++ .ref o :: r).map (am_cv ad) = _; rw [List.map_append, List.map_reverse]; rfl) (lv_room (by rw [List.map_map]; exact Nat.le_trans (Nat.le_of_eq (congrArg List.sum (List.map_congr_left (fun v _ => am_cv_cat ad v)))) hcat)) hd (am_fit hcs hI.2.2.2.2 hlm)
      refine am_call_go hrun hI.2.1 hI.2.2.2.2 (fun v h' H1 locs1 hk1 hI1 => ?_)
      have := hk _ _ _ _ _ _ _ hk1 hI1 hl
      rw [List.map_append] at this
      cases v <;> exact this
    · exact hs.elim
  case invokestatic k =>
    obtain ⟨hd, rfl, hx⟩ := am_ok3 hok
    refine am_Wsz (fun hle => ?_)
    have hw := am_sizeq hG hsz hI hle
    have hx : ((bif Nat.beq d 1 then decide (am_nl[c']? = some (own, k, a)) else decide (am_ml[c']? = some (own, k, a))) && decide ((a, b') ∈ am_sls)) = true := hx
    rw [Bool.and_eq_true] at hx
    obtain ⟨h1, h2⟩ := hx
    have h2 := of_decide_eq_true h2
    obtain ⟨v1, v3, v6, v7, v8, v9, v10⟩ := am_sls_at h2
    unfold am_stp at hs
    dsimp only at hs
    split at hs
    · rename_i As r hpop
      obtain ⟨B, rfl, hB, rfl⟩ := am_pop_inv hpop
      rw [List.append_nil] at hs hpop
      obtain ⟨hcat, hlm, hcp⟩ := hs
      obtain ⟨dd, hM, hfr, hlo⟩ := hC _ _ _ _ hcp
      have hpc : PreS s H (am_Pc D cA ad base b L xs B h) (B.map (am_cv ad)) := ⟨am_Pc.blind, fun U hU hW => ⟨rfl, hE.warm hW (fun x9 g9 g8 => by rw [hU]; exact hI.2.1.2.1 x9 g9 g8) (Nat.lt_of_lt_of_le hG.2.2.1 hbase) (fun q => absurd hG.2.2.1 (Nat.not_lt.mpr q)), by rw [hU]; exact Nat.le_trans hbase hI.2.1.1, by rw [hU]; exact hI.1, hI.2.2.1, by rw [hU]; exact hw⟩⟩
      have hstk : (F0 m pc ls ((B.reverse ++ r).map (am_cv ad))).stack = (B.map (am_cv ad)).reverse ++ r.map (am_cv ad) := by show (B.reverse ++ r).map (am_cv ad) = _; rw [List.map_append, List.map_reverse]
      have hroom : 2 * (F0 m pc ls ((B.reverse ++ r).map (am_cv ad))).monitorRoom + ((r.map (am_cv ad)).map fun v => v.category).sum ≤ 8 := lv_room (by rw [List.map_map]; exact Nat.le_trans (Nat.le_of_eq (congrArg List.sum (List.map_congr_left (fun v _ => am_cv_cat ad v)))) hcat)
      have hrun : va_Run p l e R s m args below meth c H locs (am_ce c0 h) (am_sc c0 h) (am_al a) (am_ms a h) (F0 m pc ls ((B.reverse ++ r).map (am_cv ad))) (r.map (am_cv ad)) (am_Qc D cA ad base L xs (fun v h' => h'.2.2.2.2 = h.2.2.2.2 + am_al a ∧ K (pc + am_len (.invokestatic k)) lv (v.toList ++ r) h') (B.map (am_cv ad)).toArray) (am_A base) := by
        cases hq : Nat.beq d 1 with
        | true =>
          rw [hq] at h1
          have h1 : am_nl[c']? = some (own, k, a) := of_decide_eq_true h1
          exact va_runSN ⟨hexec, hb, hml, hown, hts⟩ hM ⟨va_cnB (R := R) b' hts (am_good_in (am_ws_in v7)) rfl rfl rfl (hE.2.1 c' k a own h1) (hts _ (am_gw_ii v6)) ⟨v9.1, v9.2, v3⟩ ⟨hfr, by show 8 + (am_nL a + 11) + 40 * dd ≤ R.locals; omega⟩, hts _ (am_gw_st v1), trivial⟩ hpc rfl (by rw [List.length_map, hB]) hl.1 hstk hroom hd (am_fit hcs hI.2.2.2.2 hlm)
        | false =>
          rw [hq] at h1
          have h1 : am_ml[c']? = some (own, k, a) := of_decide_eq_true h1
          have hG2 : GoodIn am_gw (va_wsS own k (am_y a) (am_ws a)) := am_good_in (fun w hw => by
            unfold va_wsS at hw
            rcases List.mem_append.mp hw with q | q
            · simp only [List.mem_cons, List.not_mem_nil, or_false] at q
              rcases q with rfl | rfl | rfl
              · exact am_gw_ml h1 v10
              · exact am_gw_st v1
              · exact am_gw_ii v6
            · exact am_ws_in v7 w q)
          exact va_runS ⟨hexec, hb, hml, hown, hts⟩ hM (va_cwS (R := R) b' hts hG2 rfl rfl rfl ⟨v9.1, v9.2, v3⟩ ⟨hfr, by show 8 + (am_nL a + 11) + 40 * dd ≤ R.locals; omega⟩) hpc rfl (by rw [List.length_map, hB]) hl.1 hstk hroom hd (am_fit hcs hI.2.2.2.2 hlm)
      refine am_call_go hrun hI.2.1 hI.2.2.2.2 (fun v h' H1 locs1 hk1 hI1 => ?_)
      have := hk _ _ _ _ _ _ _ hk1 hI1 hl
      rw [List.map_append] at this
      cases v <;> exact this
    · exact hs.elim
  case aastore =>
    obtain ⟨hd, rfl, hx⟩ := am_ok3 hok
    obtain ⟨x, r1, rfl, hs0⟩ := am_pR.inv hs
    obtain ⟨i, r2, rfl, hs1⟩ := am_pI.inv hs0
    obtain ⟨o, r, rfl, j, n, hoo, hj, rfl, hs2⟩ := am_pR.inv hs1
    rcases hoo with ⟨ho, hox⟩ | ⟨ho, hox⟩
    · have hn := am_lenlt ho
      have h2 : 5 < 12 := by decide
      refine va_astq (r := (RX5, TX5, 4)) hexec hb hE.1 hI.1 (am_cc_D hI.2.2.2.1 hG.1) hI.2.1 o 4 x 5 ((am_cc_at ho).trans (by rw [am_cell_r (Or.inl rfl)])) rfl ((am_cc_at hox).trans (by rw [am_cell_obj h2])) rfl (vp_in_nI hj hn) hd (fun H1 locs1 hP1 hD1 hS1 => ?_)
      rw [nI_clamp (Nat.lt_trans hj hn)] at hP1
      have hz := fun hI' => hk _ _ _ _ H1 locs1 _ hs2 hI' hl
      refine hz ⟨am_set_P ho rfl am_cell_oR ?_ hP1, hS1, hI.2.2.1.wR, hI.2.2.2.1, hI.2.2.2.2⟩
      rw [am_cell_r (Or.inl rfl), am_wR_upd]
    · have hn := am_lenlt ho
      have h2 : 6 < 12 := by decide
      refine va_astq (r := (RX6, TX6, 6)) hexec hb hE.1 hI.1 (am_cc_D hI.2.2.2.1 hG.1) hI.2.1 o 5 x 6 ((am_cc_at ho).trans (by rw [am_cell_r (Or.inr rfl)])) rfl ((am_cc_at hox).trans (by rw [am_cell_obj h2])) rfl (vp_in_nI hj hn) hd (fun H1 locs1 hP1 hD1 hS1 => ?_)
      rw [nI_clamp (Nat.lt_trans hj hn)] at hP1
      have hz := fun hI' => hk _ _ _ _ H1 locs1 _ hs2 hI' hl
      refine hz ⟨am_set_P ho rfl am_cell_oR ?_ hP1, hS1, hI.2.2.1.wR, hI.2.2.2.1, hI.2.2.2.2⟩
      rw [am_cell_r (Or.inr rfl), am_wR_upd]
  case new k =>
    obtain ⟨hd, rfl, hx⟩ := am_ok3 hok
    refine am_Wsz (fun hle => ?_)
    have hw := am_sizeq hG hsz hI hle
    have hx : (decide (am_ck[c']? = some (own, k, am_cn b')) && (decide (b' < 12) && decide (am_cn b' ∈ am_iiw))) = true := hx
    obtain ⟨h1, h2, h3⟩ := am_ok3 hx
    have h3 := of_decide_eq_true h3
    obtain ⟨he, hlm, hs1⟩ := hs
    obtain ⟨C, T, N, e1, e2, e3, e4, e5, ty, e6, e7, e8⟩ := am_ci_ok b' h2
    obtain ⟨⟨f1, f2⟩, f3, f4⟩ := am_fit1 hcs hI.2.2.2.2 he hlm
    have hsi : am_siz (b', 0) = N := by
      unfold am_siz
      have : Nat.blt b' 12 = true := Nat.ble_eq_true_of_le h2
      dsimp only
      rw [this]
      exact e2
    have hKn := hE.1.1 b' _ e1
    rw [hsi] at f2 f4
    rw [e3] at h1 h3
    have hia : (Cond.instantiable C N).before args s = true := by
      have q := List.all_eq_true.mp am_iaw_ok b' (List.mem_range.mpr h2)
      rw [e2, e3] at q
      exact hts _ (am_gw_ia (of_decide_eq_true q))
    have hlt := (List.getElem?_eq_some_iff.mp he).1
    have hads : H.size = ad h.2.2.2.2 := (hw.2 hlt).trans (hG.1 _ hlt).symm
    refine W.newcK hexec hb hown (hts _ (am_gw_ck h1)) hia (hts _ (am_gw_ii h3)) rfl hd f1 f2 hKn.2.1 rfl fun H1 kC hkC g1 z1 o1 => ?_
    rw [f3, f4]
    show W p l e R s m args below meth c H1 locs (am_ce c0 (am_nx h)) (am_sc c0 (am_nx h)) Qw (F0 m (pc + 3) ls (.ref H.size :: st.map (am_cv ad)))
    rw [hads]
    rw [hads] at g1
    refine hk _ _ _ _ _ _ _ hs1 (am_new_I hG hI he ?_ z1 o1) hl
    rw [am_cell_obj h2]
    refine ⟨_, e1, (u_born ty hts e5 hKn hkC g1 e6).to (fun j hj => ?_)⟩
    have hj2 : j < am_nf b' := by rw [e2]; exact hj
    have q := List.all_eq_true.mp (List.all_eq_true.mp am_dv_ok b' (List.mem_range.mpr h2)) j (List.mem_range.mpr hj2)
    have q := of_decide_eq_true q
    rw [(e8 j hj).2, ← am_gv_nx (ad := ad) (h := h)] at q
    rw [q]
    show _ = List.getD _ _ _
    rw [List.getD_eq_getElem?_getD, am_fs_at hj2]
    rfl
  case newarray t =>
    obtain ⟨hd, rfl, hx⟩ := am_ok3 hok
    refine am_Wsz (fun hle => ?_)
    have hw := am_sizeq hG hsz hI hle
    have hx : (Nat.beq b' (am_atc t) && Nat.ble b' 15) = true := hx
    rw [Bool.and_eq_true] at hx
    obtain ⟨i, r, rfl, n, he, rfl, hlm, hs2⟩ := am_pI.inv hs
    obtain ⟨⟨f1, f2⟩, f3, f4⟩ := am_fit1 hcs hI.2.2.2.2 he hlm
    have hbig := am_big_sh _ (List.mem_of_getElem? he)
    dsimp only at hbig
    have hn := am_len_sh _ (List.mem_of_getElem? he)
    dsimp only at hn
    have hn0 : ¬ nI n < 0 := nI_pos hn
    have hnc := nI_clamp hn
    have hlt := (List.getElem?_eq_some_iff.mp he).1
    have hads : H.size = ad h.2.2.2.2 := (hw.2 hlt).trans (hG.1 _ hlt).symm
    have hsi : 12 ≤ b' → am_siz (b', n) = n := by
      intro q
      unfold am_siz
      have : Nat.blt b' 12 = false := by
        cases hz : Nat.blt b' 12 with
        | false => rfl
        | true => exact absurd (Nat.le_of_ble_eq_true hz) (by omega)
      dsimp only
      rw [this]
      rfl
    have h12 : 12 ≤ b' := by
      have q := Nat.eq_of_beq_eq_true hx.1
      rw [q]
      cases t <;> decide
    rw [hsi h12] at f2 f4
    cases t
    case char =>
      have hbb : b' = 12 := Nat.eq_of_beq_eq_true hx.1
      subst hbb
      have hcA := (hE.1.2 0 _ rfl).2
      refine va_newaK (atype := .char) hexec hb (hts _ (by exact List.mem_filter.mpr ⟨am_ac_char, rfl⟩)) rfl hd rfl hn0 hnc (by show n * _ ≤ _; exact Nat.le_trans (Nat.mul_le_mul hbig (show componentBytes _ ≤ 8 by decide)) (by decide)) f1 f2 rfl fun H1 cA' g1 z1 o1 hAr hNm => ?_
      have hcc : cA' = cA 12 := Option.some.inj (hNm.symm.trans hcA)
      subst hcc
      rw [f3, f4]
      show W p l e R s m args below meth c H1 locs (am_ce c0 (am_nx h)) (am_sc c0 (am_nx h)) Qw (F0 m (pc + 2) ls (.ref H.size :: r.map (am_cv ad)))
      rw [hads]
      rw [hads] at g1
      refine hk _ _ _ _ _ _ _ hs2 (am_new_I hG hI he ?_ z1 o1) hl
      rw [am_cell_i (Or.inl rfl)]
      show H1[ad h.2.2.2.2]? = some (vp_cell _ _)
      rw [g1]
      simp [vp_cell, am_nx, defaultValue, newarray.typeOf]
    case int =>
      have hbb : b' = 13 := Nat.eq_of_beq_eq_true hx.1
      subst hbb
      have hcA := (hE.1.2 1 _ rfl).2
      refine va_newaK (atype := .int) hexec hb (hts _ (by exact List.mem_filter.mpr ⟨am_ac_int, rfl⟩)) rfl hd rfl hn0 hnc (by show n * _ ≤ _; exact Nat.le_trans (Nat.mul_le_mul hbig (show componentBytes _ ≤ 8 by decide)) (by decide)) f1 f2 rfl fun H1 cA' g1 z1 o1 hAr hNm => ?_
      have hcc : cA' = cA 13 := Option.some.inj (hNm.symm.trans hcA)
      subst hcc
      rw [f3, f4]
      show W p l e R s m args below meth c H1 locs (am_ce c0 (am_nx h)) (am_sc c0 (am_nx h)) Qw (F0 m (pc + 2) ls (.ref H.size :: r.map (am_cv ad)))
      rw [hads]
      rw [hads] at g1
      refine hk _ _ _ _ _ _ _ hs2 (am_new_I hG hI he ?_ z1 o1) hl
      rw [am_cell_i (Or.inr (Or.inl rfl))]
      show H1[ad h.2.2.2.2]? = some (vp_cell _ _)
      rw [g1]
      simp [vp_cell, am_nx, defaultValue, newarray.typeOf]
    case long =>
      have hbb : b' = 14 := Nat.eq_of_beq_eq_true hx.1
      subst hbb
      have hcA := (hE.1.2 2 _ rfl).2
      refine va_newaK (atype := .long) hexec hb (hts _ (by exact List.mem_filter.mpr ⟨am_ac_long, rfl⟩)) rfl hd rfl hn0 hnc (by show n * _ ≤ _; exact Nat.le_trans (Nat.mul_le_mul hbig (show componentBytes _ ≤ 8 by decide)) (by decide)) f1 f2 rfl fun H1 cA' g1 z1 o1 hAr hNm => ?_
      have hcc : cA' = cA 14 := Option.some.inj (hNm.symm.trans hcA)
      subst hcc
      rw [f3, f4]
      show W p l e R s m args below meth c H1 locs (am_ce c0 (am_nx h)) (am_sc c0 (am_nx h)) Qw (F0 m (pc + 2) ls (.ref H.size :: r.map (am_cv ad)))
      rw [hads]
      rw [hads] at g1
      refine hk _ _ _ _ _ _ _ hs2 (am_new_I hG hI he ?_ z1 o1) hl
      rw [am_cell_l]
      show H1[ad h.2.2.2.2]? = some (vp_cell _ _)
      rw [g1]
      simp [vp_cell, am_nx, defaultValue, newarray.typeOf]
    case boolean =>
      have hbb : b' = 15 := Nat.eq_of_beq_eq_true hx.1
      subst hbb
      have hcA := (hE.1.2 3 _ rfl).2
      refine va_newaK (atype := .boolean) hexec hb (hts _ (by exact List.mem_filter.mpr ⟨am_ac_boolean, rfl⟩)) rfl hd rfl hn0 hnc (by show n * _ ≤ _; exact Nat.le_trans (Nat.mul_le_mul hbig (show componentBytes _ ≤ 8 by decide)) (by decide)) f1 f2 rfl fun H1 cA' g1 z1 o1 hAr hNm => ?_
      have hcc : cA' = cA 15 := Option.some.inj (hNm.symm.trans hcA)
      subst hcc
      rw [f3, f4]
      show W p l e R s m args below meth c H1 locs (am_ce c0 (am_nx h)) (am_sc c0 (am_nx h)) Qw (F0 m (pc + 2) ls (.ref H.size :: r.map (am_cv ad)))
      rw [hads]
      rw [hads] at g1
      refine hk _ _ _ _ _ _ _ hs2 (am_new_I hG hI he ?_ z1 o1) hl
      rw [am_cell_i (Or.inr (Or.inr rfl))]
      show H1[ad h.2.2.2.2]? = some (vp_cell _ _)
      rw [g1]
      simp [vp_cell, am_nx, defaultValue, newarray.typeOf]
    all_goals exact absurd (Nat.le_of_ble_eq_true hx.2) (by rw [Nat.eq_of_beq_eq_true hx.1]; decide)
  case anewarray k =>
    obtain ⟨hd, rfl, hx⟩ := am_ok3 hok
    refine am_Wsz (fun hle => ?_)
    have hw := am_sizeq hG hsz hI hle
    have hx : ((Nat.beq b' 16 && decide (am_ck[c']? = some (own, k, "MistCanton$Mark"))) || (Nat.beq b' 17 && decide (am_ck[c']? = some (own, k, "MistCanton$State")))) = true := hx
    rw [Bool.or_eq_true, Bool.and_eq_true, Bool.and_eq_true] at hx
    obtain ⟨i, r, rfl, n, he, rfl, hlm, hs2⟩ := am_pI.inv hs
    obtain ⟨⟨f1, f2⟩, f3, f4⟩ := am_fit1 hcs hI.2.2.2.2 he hlm
    have hbig := am_big_sh _ (List.mem_of_getElem? he)
    dsimp only at hbig
    have hn := am_len_sh _ (List.mem_of_getElem? he)
    dsimp only at hn
    have hn0 : ¬ nI n < 0 := nI_pos hn
    have hnc := nI_clamp hn
    have hlt := (List.getElem?_eq_some_iff.mp he).1
    have hads : H.size = ad h.2.2.2.2 := (hw.2 hlt).trans (hG.1 _ hlt).symm
    rcases hx with hx | hx
    · have hbb : b' = 16 := Nat.eq_of_beq_eq_true hx.1
      subst hbb
      have h1 := of_decide_eq_true hx.2
      obtain ⟨kA0, comp0, -, -, -, hcA⟩ := (hE.1.2 4 _ rfl).2
      rw [show am_siz (16, n) = n from rfl] at f2 f4
      refine W.anew (C := "MistCanton$Mark") hexec hb hown (hts _ (am_gw_ck h1)) (va_AO.use hE.2.2.2.1) rfl hd rfl hn0 (by rw [hnc]; exact Nat.le_trans (Nat.mul_le_mul_right 4 hbig) (by decide)) f1 (by rw [hnc]; exact f2) fun cA' kA comp k1 k2 k3 k4 => ?_
      have hcc : cA' = cA 16 := Option.some.inj (k1.symm.trans hcA)
      subst hcc
      rw [hnc, f3, f4]
      generalize hH1 : H.push ({ cls := cA 16, slots := Array.replicate n .null, vm := .none } : Cell) = H1
      have z1 : H1.size = H.size + 1 := by rw [← hH1, Array.size_push]
      have g1 : H1[H.size]? = some (arrV (cA 16) n (fun _ => .null)) := by rw [← hH1, Array.getElem?_push_size, ← arrV_new]
      have o1 : ∀ q : Nat, q < H.size → H1[q]? = H[q]? := fun q hq => by rw [← hH1, Array.getElem?_push, if_neg (Nat.ne_of_lt hq)]
      show W p l e R s m args below meth c H1 locs (am_ce c0 (am_nx h)) (am_sc c0 (am_nx h)) Qw (F0 m (pc + 3) ls (.ref H.size :: r.map (am_cv ad)))
      rw [hads]
      rw [hads] at g1
      refine hk _ _ _ _ _ _ _ hs2 (am_new_I hG hI he ?_ z1 o1) hl
      rw [am_cell_r (Or.inl rfl)]
      show H1[ad h.2.2.2.2]? = some (vp_cell _ _)
      rw [g1]
      simp [vp_cell, am_nx, va_rf]
    · have hbb : b' = 17 := Nat.eq_of_beq_eq_true hx.1
      subst hbb
      have h1 := of_decide_eq_true hx.2
      obtain ⟨kA0, comp0, -, -, -, hcA⟩ := (hE.1.2 5 _ rfl).2
      rw [show am_siz (17, n) = n from rfl] at f2 f4
      refine W.anew (C := "MistCanton$State") hexec hb hown (hts _ (am_gw_ck h1)) (va_AO.use hE.2.2.2.2.1) rfl hd rfl hn0 (by rw [hnc]; exact Nat.le_trans (Nat.mul_le_mul_right 4 hbig) (by decide)) f1 (by rw [hnc]; exact f2) fun cA' kA comp k1 k2 k3 k4 => ?_
      have hcc : cA' = cA 17 := Option.some.inj (k1.symm.trans hcA)
      subst hcc
      rw [hnc, f3, f4]
      generalize hH1 : H.push ({ cls := cA 17, slots := Array.replicate n .null, vm := .none } : Cell) = H1
      have z1 : H1.size = H.size + 1 := by rw [← hH1, Array.size_push]
      have g1 : H1[H.size]? = some (arrV (cA 17) n (fun _ => .null)) := by rw [← hH1, Array.getElem?_push_size, ← arrV_new]
      have o1 : ∀ q : Nat, q < H.size → H1[q]? = H[q]? := fun q hq => by rw [← hH1, Array.getElem?_push, if_neg (Nat.ne_of_lt hq)]
      show W p l e R s m args below meth c H1 locs (am_ce c0 (am_nx h)) (am_sc c0 (am_nx h)) Qw (F0 m (pc + 3) ls (.ref H.size :: r.map (am_cv ad)))
      rw [hads]
      rw [hads] at g1
      refine hk _ _ _ _ _ _ _ hs2 (am_new_I hG hI he ?_ z1 o1) hl
      rw [am_cell_r (Or.inr rfl)]
      show H1[ad h.2.2.2.2]? = some (vp_cell _ _)
      rw [g1]
      simp [vp_cell, am_nx, va_rf]
  case invokespecial k =>
    obtain ⟨hd, rfl, hx⟩ := am_ok3 hok
    refine am_Wsz (fun hle => ?_)
    have hw := am_sizeq hG hsz hI hle
    have hx : (decide (am_ml[c']? = some (own, k, a)) && ((Nat.beq a 1 && Nat.beq b' 0) || decide ((a, b') ∈ am_ils))) = true := hx
    rw [Bool.and_eq_true] at hx
    obtain ⟨h1, h2⟩ := hx
    have h1 := of_decide_eq_true h1
    unfold am_stp at hs
    dsimp only at hs
    split at hs
    · rename_i As o r hpop
      obtain ⟨B, rfl, hB, rfl⟩ := am_pop_inv hpop
      rw [List.append_nil] at hs hpop
      obtain ⟨hcat, hs⟩ := hs
      have hroom : 2 * (F0 m pc ls ((B.reverse ++ .ref o :: r).map (am_cv ad))).monitorRoom + ((r.map (am_cv ad)).map fun v => v.category).sum ≤ 8 := lv_room (by rw [List.map_map]; exact Nat.le_trans (Nat.le_of_eq (congrArg List.sum (List.map_congr_left (fun v _ => am_cv_cat ad v)))) hcat)
      cases hq1 : Nat.beq a 1 with
      | true =>
        rw [hq1] at hs
        obtain ⟨rfl, hs⟩ := hs
        have ha : a = 1 := Nat.eq_of_beq_eq_true hq1
        subst ha
        exact W.objInit hexec hb hown (hts _ (am_gw_ml h1 (by decide))) (hts _ (am_gw_in (by decide +kernel))) (hts _ (am_gw_code (n := 1) rfl)) rfl (hl.1.trans hml.symm) rfl hd hR1.1 (Nat.le_trans (Nat.add_le_add_right hroom 12) hR1.2) (hk _ _ _ _ _ _ _ hs hI hl)
      | false =>
        rw [hq1] at hs h2
        obtain ⟨hlm, hcp⟩ := hs
        have h2 : (a, b') ∈ am_ils := of_decide_eq_true h2
        obtain ⟨v1, v3, v4, v5, v6, v7, v8, v9, v10⟩ := am_ils_at h2
        obtain ⟨dd, hM, hfr, hlo⟩ := hC _ _ _ _ hcp
        have hpc : PreS s H (am_Pc D cA ad base b L xs (.ref o :: B) h) (.ref (ad o) :: B.map (am_cv ad)) := ⟨am_Pc.blind, fun U hU hW => ⟨rfl, hE.warm hW (fun x9 g9 g8 => by rw [hU]; exact hI.2.1.2.1 x9 g9 g8) (Nat.lt_of_lt_of_le hG.2.2.1 hbase) (fun q => absurd hG.2.2.1 (Nat.not_lt.mpr q)), by rw [hU]; exact Nat.le_trans hbase hI.2.1.1, by rw [hU]; exact hI.1, hI.2.2.1, by rw [hU]; exact hw⟩⟩
        have hstk : (F0 m pc ls ((B.reverse ++ .ref o :: r).map (am_cv ad))).stack = (B.map (am_cv ad)).reverse ++ .ref (ad o) :: r.map (am_cv ad) := by show (B.reverse ++ .ref o :: r).map (am_cv ad) = _; rw [List.map_append, List.map_reverse]; rfl
        have hrun := va_runI (p := p) (e := e) (below := below) (meth := meth) (locs := locs) (cells := am_ce c0 h) (slots := am_sc c0 h) (g := F0 m pc ls ((B.reverse ++ .ref o :: r).map (am_cv ad))) (As := B.map (am_cv ad)) (rest := r.map (am_cv ad)) (b := ad o) (R := R) ⟨hexec, hb, hml, hown, hts⟩ hM (cwI (R := R) b' hts (am_good_in (am_ws_in v7)) (by unfold am_ws; rw [v5]) rfl rfl (hts _ (am_gw_ii v6)) (hts _ (am_gw_ml h1 v10)) (hts _ (am_gw_in v1)) v4 ⟨v9.1, v9.2, v3⟩ ⟨hfr, by show 8 + (am_nL a + 11) + 40 * dd ≤ R.locals; omega⟩) hpc rfl (by rw [List.length_map, hB]) hl.1 hstk hroom hd (am_fit hcs hI.2.2.2.2 hlm)
        refine am_call_go hrun hI.2.1 hI.2.2.2.2 (fun v h' H1 locs1 hk1 hI1 => ?_)
        have := hk _ _ _ _ _ _ _ hk1 hI1 hl
        rw [List.map_append] at this
        cases v <;> exact this
    · exact hs.elim
  case ireturn =>
    obtain ⟨hd, rfl, hx⟩ := am_ok3 hok
    unfold am_stp at hs
    dsimp only at hs
    split at hs
    · rename_i x
      exact hq _ _ _ _ _ _ _ hs.2 hI (Or.inl ⟨x, rfl, rfl, hd, hs.1⟩)
    · exact hs.elim
  case lreturn =>
    obtain ⟨hd, rfl, hx⟩ := am_ok3 hok
    unfold am_stp at hs
    dsimp only at hs
    split at hs
    · rename_i x
      exact hq _ _ _ _ _ _ _ hs.2 hI (Or.inr (Or.inl ⟨x, rfl, rfl, hd, hs.1⟩))
    · exact hs.elim
  case return_ =>
    obtain ⟨hd, rfl, hx⟩ := am_ok3 hok
    unfold am_stp at hs
    dsimp only at hs
    split at hs
    · exact hq _ _ _ _ _ _ _ hs.2 hI (Or.inr (Or.inr ⟨rfl, rfl, hd, hs.1⟩))
    · exact hs.elim
  all_goals exact hs.elim
end
section
/-! THE ABSTRACT MACHINE'S CALLS ARE CONTRACTS -/
variable {p : Program} {l : Launch} {e : Env} {R : Room} {s : State} {m : MethodId} {args : Array Value} {below : List Frame} {meth : Method} {c : Code} {Qw : State → Prop} {D : va_G} {cA : Nat → ClassId} {ad : Nat → Nat} {base b L nL : Nat} {xs : Nat → Int32} {own : String} {cc : ByteArray} {cp : am_P} {rt : Option FieldType} {c0 lim : Nat} {ini : Bool}
theorem am_X_sound {cod : Nat → Option am_R} {E : Nat → am_V → List Value → am_H → Prop} {Q : am_Q} (F : am_Fx p s m args c D cA ad base b L xs own cc nL c0) (hC : am_Cs l R D cA ad base b L xs cp) (hcs : lim - c0 % 1000 + c0 / 1000 ≤ R.cells ∧ am_ss lim - am_ss (c0 % 1000) + 6 * (c0 / 1000) ≤ R.slots) (hR1 : 1 ≤ R.frames ∧ 20 ≤ R.locals) (hini : ini = true → meth.name = "<init>") (hcod : ∀ pc r, cod pc = some r → am_okB ini own cc pc r = true)
    (hE : am_Kw p l e R s m args below meth c c0 Qw D cA ad base L nL xs E) (hq : am_Qr p l e R s m args below meth c c0 Qw D cA ad base L xs cc rt Q) : am_Kw p l e R s m args below meth c c0 Qw D cA ad base L nL xs (am_X cp nL lim rt cod E Q) := by
  intro pc lv st h H locs ls hX hI hl
  refine hX (fun pc lv st h => ∀ H locs ls, am_Inv D cA ad base L xs s c0 h H locs → lv_has ls nL (am_cl2 ad lv) → W p l e R s m args below meth c H locs (am_ce c0 h) (am_sc c0 h) Qw (F0 m pc ls (st.map (am_cv ad)))) (fun pc lv st h he H locs ls hI hl => hE pc lv st h H locs ls he hI hl) ?_ H locs ls hI hl
  intro pc lv st h r K0 Q0 hc hs hK hQ H locs ls hI hl
  obtain ⟨i, nx, a, b', c', d⟩ := r
  exact am_sound1 F hC hcs hR1 hini hI hl (fun pc lv st h H locs ls k hI hl => hK pc lv st h k H locs ls hI hl) (fun v h H locs pc ls st q hI hr => hq v h H locs pc ls st (hQ v h q) hI hr) (hcod _ _ hc) hs
theorem am_sl_len (ad : Nat → Nat) (vs : List Value) : (lg_sl (vs.map (am_cv ad))).length = (lg_sl vs).length := by
  induction vs with
  | nil => rfl
  | cons v r ih =>
    simp only [lg_sl, List.map_cons, List.flatMap_cons, List.length_append, am_cv_cat] at ih ⊢
    rw [ih]
    by_cases hc : v.category = 2 <;> simp [hc]
theorem am_args_cl (ad : Nat → Nat) (vs : List Value) : ∀ i, lv_args i (vs.map (am_cv ad)) = am_cl2 ad (lv_args i vs) := by
  induction vs with
  | nil => intro i; rfl
  | cons v r ih =>
    intro i
    simp only [lv_args, List.map_cons, am_cv_cat, am_cl2]
    rw [ih]
    rfl
/-- String.checkIndex: its row of place 2 stands for a static whose value is told to a method that doesn't look at it -/
def am_47 : MethodName := ⟨"java/lang/String", "checkIndex", "(II)V"⟩
/-- rows of methods that are right -/
def am_Rok (cods : Nat → Nat → Option am_R) : Prop := ∀ n pc r, cods n pc = some r → plainFor (am_y n) = true ∧ ((am_y n = am_47 ∧ pc = 2) ∨ am_okB (decide ((am_y n).name = "<init>")) (am_y n).cls (am_by n) pc r = true)
theorem am_W_cod {cod : Nat → Option am_R} {Q : am_Q} {pc : Nat} {lv : am_V} {st : List Value} {h : am_H} (k : am_W cp nL lim rt cod Q pc lv st h) : ∃ r, cod pc = some r :=
  k (fun pc _ _ _ => ∃ r, cod pc = some r) (fun _ _ _ _ q => q.elim) (fun _ _ _ _ r _ _ hc _ _ _ => ⟨r, hc⟩)
def am_Mt (l : Launch) (D : va_G) (cA : Nat → ClassId) (ad : Nat → Nat) (base b L : Nat) (xs : Nat → Int32) (cods : Nat → Nat → Option am_R) (d : Nat) : Prop := ∀ n As h Q, am_call cods d n As h Q → ∃ d' : Nat, d' ≤ d ∧ Met l (am_y n) (am_ws n) (am_rm d' (am_al n) (am_ms n h)) (am_Pc D cA ad base b L xs As h) (am_Qc D cA ad base L xs (fun v h' => h'.2.2.2.2 = h.2.2.2.2 + am_al n ∧ Q v h')) (am_al n) (am_ms n h) (am_A base)
theorem am_Met7 {cods : Nat → Nat → Option am_R} (hrk : am_Rok cods) (hG : am_G ad base b L) (h47 : ∀ n, am_y n = am_47 → ∀ d, am_Mt l D cA ad base b L xs cods d → ∀ (As : List Value) (h : am_H) (Q : am_Q), (lg_sl As).length ≤ am_nL n → am_W (am_call cods d) (am_nL n) (h.2.2.2.2 + am_al n) (am_rt n) (cods n) (fun v h' => h'.2.2.2.2 = h.2.2.2.2 + am_al n ∧ Q v h') 0 (lv_args 0 As) [] h → Met l (am_y n) (am_ws n) (am_rm (d + 1) (am_al n) (am_ms n h)) (am_Pc D cA ad base b L xs As h) (am_Qc D cA ad base L xs (fun v h' => h'.2.2.2.2 = h.2.2.2.2 + am_al n ∧ Q v h')) (am_al n) (am_ms n h) (am_A base)) : ∀ d, am_Mt l D cA ad base b L xs cods d := by
  intro d
  induction d with
  | zero => intro n As h Q k; exact k.elim
  | succ d ih =>
    intro n As h Q k
    rcases k with k | ⟨hlen, hW⟩
    · obtain ⟨d', h1, h2⟩ := ih n As h Q k
      exact ⟨d', by omega, h2⟩
    · refine ⟨d + 1, Nat.le_refl _, ?_⟩
      by_cases hn47 : am_y n = am_47
      · exact h47 n hn47 d ih As h Q hlen hW
      obtain ⟨r0, hr0⟩ := am_W_cod hW
      have hy := (hrk n 0 r0 hr0).1
      refine va_MetF (cc := am_by n) (maxL := am_nL n) (ret := am_rt n) hy rfl ?_
      intro p e s m args below meth c s₁ B hml hv
      obtain ⟨rfl, hE, hbase, hP, hro, hwf⟩ := hv
      have hts := atoms_spec (ws := am_ws n) B.pre
      have hlen9 : h.2.2.2.2 ≤ 175 := by have := hwf.1; rw [am_shl_len] at this; exact this
      have hmod : h.2.2.2.2 % 1000 = h.2.2.2.2 := Nat.mod_eq_of_lt (by omega)
      have hdiv : h.2.2.2.2 / 1000 = 0 := Nat.div_eq_of_lt (by omega)
      have hnm : meth.name = (am_y n).name := (name_of_methodNamed B.named B.method).1
      have F : am_Fx p s m (As.map (am_cv ad)).toArray c D cA ad base b L xs (am_y n).cls (am_by n) (am_nL n) h.2.2.2.2 := ⟨B.exec, B.bytes, hml, findClass_of_methodNamed B.named, fun w hw => hts w (List.mem_cons_of_mem _ hw), hE, hbase, hG, by rw [hmod]; exact hwf.2⟩
      have hC : am_Cs l (am_rm (d + 1) (am_al n) (am_ms n h)) D cA ad base b L xs (am_call cods d) := by
        intro n' As' h' Q' k'
        obtain ⟨d', h1, h2⟩ := ih n' As' h' Q' k'
        exact ⟨d', h2, by show d' + 1 ≤ d + 1; omega, by show 40 + 40 * d' ≤ 40 * (d + 1); omega⟩
      have hl := lv_entry (As.map (am_cv ad)) (n := am_nL n) (by rw [am_sl_len]; exact hlen)
      rw [am_args_cl] at hl
      rw [lg_entry_eq]
      have key := am_X_sound (p := p) (e := e) (below := below) (meth := meth) (Qw := MQ below (am_Qc D cA ad base L xs (fun v h' => h'.2.2.2.2 = h.2.2.2.2 + am_al n ∧ Q v h')) (As.map (am_cv ad)).toArray s (am_al n) (am_ms n h) (am_A base)) (R := am_rm (d + 1) (am_al n) (am_ms n h)) (lim := h.2.2.2.2 + am_al n) (rt := am_rt n) (ini := decide ((am_y n).name = "<init>")) (E := fun _ _ _ _ => False) (Q := fun v h' => h'.2.2.2.2 = h.2.2.2.2 + am_al n ∧ Q v h') F hC ⟨by rw [hmod, hdiv]; show h.2.2.2.2 + am_al n - h.2.2.2.2 + 0 ≤ am_al n; omega, by rw [hmod, hdiv]; exact Nat.le_refl _⟩ ⟨by show 1 ≤ d + 1; omega, by show 20 ≤ 40 * (d + 1); omega⟩ (fun q => hnm.trans (of_decide_eq_true q)) (fun pc r hc => (hrk n pc r hc).2.resolve_left (fun z => hn47 z.1)) (fun _ _ _ _ _ _ _ q => q.elim) ?_ 0 (lv_args 0 As) [] h s.heap [] _ hW ⟨hP, va_S.rf, hro, hwf.1, by rw [hmod]; exact Nat.le_refl _, fun z => by omega⟩ hl
      · have z1 : am_ce h.2.2.2.2 h = 0 := by unfold am_ce; omega
        have z2 : am_sc h.2.2.2.2 h = 0 := by unfold am_sc; rw [hmod, hdiv]; omega
        rw [z1, z2] at key
        exact key
      · intro v h' H locs pc ls st hQ hI hrk'
        have z1 : am_ce h.2.2.2.2 h' = am_al n := by unfold am_ce; rw [hQ.1, hmod, hdiv]; omega
        have z2 : am_sc h.2.2.2.2 h' = am_ms n h := by unfold am_sc am_ms; rw [hQ.1, hmod, hdiv]; rfl
        rw [z1, z2]
        have hpost : ∀ t : State, t.heap = H → am_Qc D cA ad base L xs (fun v h' => h'.2.2.2.2 = h.2.2.2.2 + am_al n ∧ Q v h') (As.map (am_cv ad)).toArray s (.returned (v.map (am_cv ad))) t := fun t ht => ⟨⟨v, h', rfl, hQ, by rw [ht]; exact hI.1, hI.2.2.1, hI.2.2.2.1⟩, hI.2.1.F ht⟩
        rcases hrk' with ⟨x, rfl, rfl, hd, ty, h1, h2⟩ | ⟨x, rfl, rfl, hd, h1⟩ | ⟨rfl, rfl, hd, h1⟩
        · exact W.zret B.exec B.bytes (B.returns.trans h1) h2 (fun t ht _ => hpost t ht) hI.2.1.2.2 hd (hlocks := B.notSynchronized)
        · exact W.lret B.exec B.bytes (B.returns.trans h1) (fun t ht _ => hpost t ht) hI.2.1.2.2 hd (hlocks := B.notSynchronized)
        · exact W.vret B.exec B.bytes (B.returns.trans h1) (fun t ht _ => hpost t ht) hI.2.1.2.2 hd (hlocks := B.notSynchronized)
end
section
/-! rows of methods, checked against their bytes -/
def am_find : List (Nat × am_R) → Nat → Option am_R
  | [], _ => none
  | q :: r, pc => bif Nat.beq q.1 pc then some q.2 else am_find r pc
def am_chk (q : (MethodName × ByteArray × Nat × Option FieldType) × (List (Nat × am_R) × Nat × Option FieldType)) : Bool := decide (q.1.2.2.1 = q.2.2.1) && (decide (q.1.2.2.2 = q.2.2.2) && ((q.2.1.isEmpty || plainFor q.1.1) && q.2.1.all (fun x => (decide (q.1.1 = am_47) && Nat.beq x.1 2) || am_okB (decide (q.1.1.name = "<init>")) q.1.1.cls q.1.2.1 x.1 x.2)))
theorem am_all_cut {α : Type} (p : α → Bool) (n : Nat) (l : List α) (h1 : (l.take n).all p = true) (h2 : (l.drop n).all p = true) : l.all p = true := by
  rw [← List.take_append_drop n l, List.all_append, h1, h2]
  rfl
def am_r0 : List (Nat × am_R) := [(0, (.aload_n 0, 1, 0, 0, 0, 0)),
  (1, (.invokespecial 1, 4, 1, 0, 1, 0)),
  (4, (.aload_n 0, 5, 0, 0, 0, 0)),
  (5, (.new 7, 8, 0, 7, 1, 0)),
  (8, (.dup, 9, 0, 0, 0, 0)),
  (9, (.invokespecial 9, 12, 2, 0, 2, 0)),
  (12, (.putfield 10, 15, 0, 10, 100, 0)),
  (15, (.aload_n 0, 16, 0, 0, 0, 0)),
  (16, (.new 16, 19, 0, 1, 2, 0)),
  (19, (.dup, 20, 0, 0, 0, 0)),
  (20, (.aload_n 0, 21, 0, 0, 0, 0)),
  (21, (.getfield 10, 24, 0, 10, 100, 0)),
  (24, (.invokespecial 18, 27, 3, 1, 4, 0)),
  (27, (.putfield 21, 30, 1, 10, 101, 0)),
  (30, (.aload_n 0, 31, 0, 0, 0, 0)),
  (31, (.new 25, 34, 0, 9, 4, 0)),
  (34, (.dup, 35, 0, 0, 0, 0)),
  (35, (.aload_n 0, 36, 0, 0, 0, 0)),
  (36, (.getfield 10, 39, 0, 10, 100, 0)),
  (39, (.invokespecial 27, 42, 5, 1, 8, 0)),
  (42, (.putfield 28, 45, 2, 10, 102, 0)),
  (45, (.aload_n 0, 46, 0, 0, 0, 0)),
  (46, (.new 32, 49, 0, 0, 5, 0)),
  (49, (.dup, 50, 0, 0, 0, 0)),
  (50, (.invokespecial 34, 53, 6, 0, 10, 0)),
  (53, (.putfield 35, 56, 3, 10, 103, 0)),
  (56, (.aload_n 0, 57, 0, 0, 0, 0)),
  (57, (.new 32, 60, 0, 0, 5, 0)),
  (60, (.dup, 61, 0, 0, 0, 0)),
  (61, (.invokespecial 34, 64, 6, 0, 10, 0)),
  (64, (.putfield 39, 67, 4, 10, 104, 0)),
  (67, (.aload_n 0, 68, 0, 0, 0, 0)),
  (68, (.new 42, 71, 0, 8, 7, 0)),
  (71, (.dup, 72, 0, 0, 0, 0)),
  (72, (.invokespecial 44, 75, 8, 0, 14, 0)),
  (75, (.putfield 45, 78, 5, 10, 105, 0)),
  (78, (.aload_n 0, 79, 0, 0, 0, 0)),
  (79, (.new 42, 82, 0, 8, 7, 0)),
  (82, (.dup, 83, 0, 0, 0, 0)),
  (83, (.invokespecial 44, 86, 8, 0, 14, 0)),
  (86, (.putfield 49, 89, 6, 10, 106, 0)),
  (89, (.aload_n 0, 90, 0, 0, 0, 0)),
  (90, (.new 52, 93, 0, 6, 8, 0)),
  (93, (.dup, 94, 0, 0, 0, 0)),
  (94, (.invokespecial 54, 97, 9, 0, 16, 0)),
  (97, (.putfield 55, 100, 7, 10, 107, 0)),
  (100, (.aload_n 0, 101, 0, 0, 0, 0)),
  (101, (.new 52, 104, 0, 6, 8, 0)),
  (104, (.dup, 105, 0, 0, 0, 0)),
  (105, (.invokespecial 54, 108, 9, 0, 16, 0)),
  (108, (.putfield 59, 111, 8, 10, 108, 0)),
  (111, (.aload_n 0, 112, 0, 0, 0, 0)),
  (112, (.bipush 6, 114, 0, 0, 0, 0)),
  (114, (.newarray .int, 116, 0, 13, 0, 0)),
  (116, (.putfield 62, 119, 9, 10, 109, 0)),
  (119, (.aload_n 0, 120, 0, 0, 0, 0)),
  (120, (.new 66, 123, 0, 2, 9, 0)),
  (123, (.dup, 124, 0, 0, 0, 0)),
  (124, (.invokespecial 68, 127, 10, 0, 18, 0)),
  (127, (.putfield 69, 130, 10, 10, 110, 0)),
  (130, (.aload_n 0, 131, 0, 0, 0, 0)),
  (131, (.iconst 4, 132, 0, 0, 0, 0)),
  (132, (.anewarray 73, 135, 0, 16, 11, 0)),
  (135, (.putfield 75, 138, 11, 10, 111, 0)),
  (138, (.iconst 0, 139, 0, 0, 0, 0)),
  (139, (.istore_n 1, 140, 0, 0, 0, 0)),
  (140, (.iload_n 1, 141, 0, 0, 0, 0)),
  (141, (.iconst 4, 142, 0, 0, 0, 0)),
  (142, (.if_icmp .ge 22, 145, 164, 0, 0, 0)),
  (145, (.aload_n 0, 146, 0, 0, 0, 0)),
  (146, (.getfield 75, 149, 11, 10, 111, 0)),
  (149, (.iload_n 1, 150, 0, 0, 0, 0)),
  (150, (.new 73, 153, 0, 5, 11, 0)),
  (153, (.dup, 154, 0, 0, 0, 0)),
  (154, (.invokespecial 79, 157, 11, 0, 21, 0)),
  (157, (.aastore, 158, 0, 0, 0, 0)),
  (158, (.iinc 1 1, 161, 0, 0, 0, 0)),
  (161, (.goto (-21), 164, 140, 0, 0, 0)),
  (164, (.aload_n 0, 165, 0, 0, 0, 0)),
  (165, (.iconst 0, 166, 0, 0, 0, 0)),
  (166, (.putfield 80, 169, 12, 10, 112, 0)),
  (169, (.aload_n 0, 170, 0, 0, 0, 0)),
  (170, (.bipush 31, 172, 0, 0, 0, 0)),
  (172, (.putfield 84, 175, 13, 10, 113, 0)),
  (175, (.return_, 176, 0, 0, 0, 0))]
def am_r2 : List (Nat × am_R) := [(0, (.aload_n 0, 1, 0, 0, 0, 0)),
  (1, (.invokespecial 3, 4, 1, 0, 3, 0)),
  (4, (.aload_n 0, 5, 0, 0, 0, 0)),
  (5, (.sipush 1000, 8, 0, 0, 0, 0)),
  (8, (.newarray .char, 10, 0, 12, 0, 0)),
  (10, (.putfield 9, 13, 0, 7, 0, 0)),
  (13, (.return_, 14, 0, 0, 0, 0))]
def am_r3 : List (Nat × am_R) := [(0, (.aload_n 0, 1, 0, 0, 0, 0)),
  (1, (.invokespecial 3, 4, 1, 0, 5, 0)),
  (4, (.aload_n 0, 5, 0, 0, 0, 0)),
  (5, (.aload_n 1, 6, 0, 0, 0, 0)),
  (6, (.putfield 9, 9, 0, 1, 20, 0)),
  (9, (.aload_n 0, 10, 0, 0, 0, 0)),
  (10, (.new 15, 13, 0, 4, 3, 0)),
  (13, (.dup, 14, 0, 0, 0, 0)),
  (14, (.aload_n 1, 15, 0, 0, 0, 0)),
  (15, (.invokespecial 17, 18, 4, 1, 6, 0)),
  (18, (.putfield 20, 21, 1, 1, 21, 0)),
  (21, (.return_, 22, 0, 0, 0, 0))]
def am_r4 : List (Nat × am_R) := [(0, (.aload_n 0, 1, 0, 0, 0, 0)),
  (1, (.invokespecial 3, 4, 1, 0, 7, 0)),
  (4, (.aload_n 0, 5, 0, 0, 0, 0)),
  (5, (.aload_n 1, 6, 0, 0, 0, 0)),
  (6, (.putfield 9, 9, 0, 4, 19, 0)),
  (9, (.return_, 10, 0, 0, 0, 0))]
def am_r5 : List (Nat × am_R) := [(0, (.aload_n 0, 1, 0, 0, 0, 0)),
  (1, (.invokespecial 3, 4, 1, 0, 9, 0)),
  (4, (.aload_n 0, 5, 0, 0, 0, 0)),
  (5, (.aload_n 1, 6, 0, 0, 0, 0)),
  (6, (.putfield 9, 9, 0, 9, 22, 0)),
  (9, (.return_, 10, 0, 0, 0, 0))]
def am_r6 : List (Nat × am_R) := [(0, (.aload_n 0, 1, 0, 0, 0, 0)),
  (1, (.invokespecial 3, 4, 1, 0, 11, 0)),
  (4, (.aload_n 0, 5, 0, 0, 0, 0)),
  (5, (.bipush 6, 7, 0, 0, 0, 0)),
  (7, (.newarray .long, 9, 0, 14, 0, 0)),
  (9, (.putfield 9, 12, 1, 0, 30, 0)),
  (12, (.aload_n 0, 13, 0, 0, 0, 0)),
  (13, (.bipush 6, 15, 0, 0, 0, 0)),
  (15, (.newarray .int, 17, 0, 13, 0, 0)),
  (17, (.putfield 15, 20, 2, 0, 32, 0)),
  (20, (.aload_n 0, 21, 0, 0, 0, 0)),
  (21, (.bipush 6, 23, 0, 0, 0, 0)),
  (23, (.newarray .int, 25, 0, 13, 0, 0)),
  (25, (.putfield 19, 28, 3, 0, 35, 0)),
  (28, (.aload_n 0, 29, 0, 0, 0, 0)),
  (29, (.iconst 5, 30, 0, 0, 0, 0)),
  (30, (.newarray .long, 32, 0, 14, 0, 0)),
  (32, (.putfield 22, 35, 5, 0, 41, 0)),
  (35, (.aload_n 0, 36, 0, 0, 0, 0)),
  (36, (.iconst 5, 37, 0, 0, 0, 0)),
  (37, (.newarray .int, 39, 0, 13, 0, 0)),
  (39, (.putfield 25, 42, 6, 0, 43, 0)),
  (42, (.aload_n 0, 43, 0, 0, 0, 0)),
  (43, (.iconst 5, 44, 0, 0, 0, 0)),
  (44, (.newarray .int, 46, 0, 13, 0, 0)),
  (46, (.putfield 28, 49, 7, 0, 46, 0)),
  (49, (.aload_n 0, 50, 0, 0, 0, 0)),
  (50, (.iconst 5, 51, 0, 0, 0, 0)),
  (51, (.newarray .int, 53, 0, 13, 0, 0)),
  (53, (.putfield 31, 56, 8, 0, 49, 0)),
  (56, (.aload_n 0, 57, 0, 0, 0, 0)),
  (57, (.new 34, 60, 0, 3, 6, 0)),
  (60, (.dup, 61, 0, 0, 0, 0)),
  (61, (.invokespecial 36, 64, 7, 0, 12, 0)),
  (64, (.putfield 37, 67, 12, 0, 58, 0)),
  (67, (.return_, 68, 0, 0, 0, 0))]
def am_r7 : List (Nat × am_R) := [(0, (.aload_n 0, 1, 0, 0, 0, 0)),
  (1, (.invokespecial 3, 4, 1, 0, 13, 0)),
  (4, (.aload_n 0, 5, 0, 0, 0, 0)),
  (5, (.sipush 1000, 8, 0, 0, 0, 0)),
  (8, (.newarray .int, 10, 0, 13, 0, 0)),
  (10, (.putfield 9, 13, 0, 3, 23, 0)),
  (13, (.aload_n 0, 14, 0, 0, 0, 0)),
  (14, (.bipush 32, 16, 0, 0, 0, 0)),
  (16, (.newarray .int, 18, 0, 13, 0, 0)),
  (18, (.putfield 15, 21, 1, 3, 24, 0)),
  (21, (.return_, 22, 0, 0, 0, 0))]
def am_r8 : List (Nat × am_R) := [(0, (.aload_n 0, 1, 0, 0, 0, 0)),
  (1, (.invokespecial 3, 4, 1, 0, 15, 0)),
  (4, (.aload_n 0, 5, 0, 0, 0, 0)),
  (5, (.bipush 40, 7, 0, 0, 0, 0)),
  (7, (.newarray .int, 9, 0, 13, 0, 0)),
  (9, (.putfield 9, 12, 0, 8, 60, 0)),
  (12, (.aload_n 0, 13, 0, 0, 0, 0)),
  (13, (.bipush 40, 15, 0, 0, 0, 0)),
  (15, (.newarray .int, 17, 0, 13, 0, 0)),
  (17, (.putfield 15, 20, 1, 8, 63, 0)),
  (20, (.aload_n 0, 21, 0, 0, 0, 0)),
  (21, (.bipush 40, 23, 0, 0, 0, 0)),
  (23, (.newarray .int, 25, 0, 13, 0, 0)),
  (25, (.putfield 18, 28, 2, 8, 66, 0)),
  (28, (.return_, 29, 0, 0, 0, 0))]
def am_r9 : List (Nat × am_R) := [(0, (.aload_n 0, 1, 0, 0, 0, 0)),
  (1, (.invokespecial 3, 4, 1, 0, 17, 0)),
  (4, (.aload_n 0, 5, 0, 0, 0, 0)),
  (5, (.bipush 6, 7, 0, 0, 0, 0)),
  (7, (.newarray .int, 9, 0, 13, 0, 0)),
  (9, (.putfield 9, 12, 2, 6, 76, 0)),
  (12, (.aload_n 0, 13, 0, 0, 0, 0)),
  (13, (.bipush 6, 15, 0, 0, 0, 0)),
  (15, (.newarray .int, 17, 0, 13, 0, 0)),
  (17, (.putfield 15, 20, 3, 6, 79, 0)),
  (20, (.aload_n 0, 21, 0, 0, 0, 0)),
  (21, (.iconst 5, 22, 0, 0, 0, 0)),
  (22, (.newarray .int, 24, 0, 13, 0, 0)),
  (24, (.putfield 18, 27, 4, 6, 82, 0)),
  (27, (.aload_n 0, 28, 0, 0, 0, 0)),
  (28, (.iconst 5, 29, 0, 0, 0, 0)),
  (29, (.newarray .int, 31, 0, 13, 0, 0)),
  (31, (.putfield 21, 34, 5, 6, 85, 0)),
  (34, (.return_, 35, 0, 0, 0, 0))]
def am_r10 : List (Nat × am_R) := [(0, (.aload_n 0, 1, 0, 0, 0, 0)),
  (1, (.invokespecial 3, 4, 1, 0, 19, 0)),
  (4, (.aload_n 0, 5, 0, 0, 0, 0)),
  (5, (.bipush 16, 7, 0, 0, 0, 0)),
  (7, (.anewarray 9, 10, 0, 17, 10, 0)),
  (10, (.putfield 11, 13, 0, 2, 88, 0)),
  (13, (.iconst 0, 14, 0, 0, 0, 0)),
  (14, (.istore_n 1, 15, 0, 0, 0, 0)),
  (15, (.iload_n 1, 16, 0, 0, 0, 0)),
  (16, (.bipush 16, 18, 0, 0, 0, 0)),
  (18, (.if_icmp .ge 22, 21, 40, 0, 0, 0)),
  (21, (.aload_n 0, 22, 0, 0, 0, 0)),
  (22, (.getfield 11, 25, 0, 2, 88, 0)),
  (25, (.iload_n 1, 26, 0, 0, 0, 0)),
  (26, (.new 9, 29, 0, 6, 10, 0)),
  (29, (.dup, 30, 0, 0, 0, 0)),
  (30, (.invokespecial 17, 33, 9, 0, 20, 0)),
  (33, (.aastore, 34, 0, 0, 0, 0)),
  (34, (.iinc 1 1, 37, 0, 0, 0, 0)),
  (37, (.goto (-22), 40, 15, 0, 0, 0)),
  (40, (.return_, 41, 0, 0, 0, 0))]
def am_r11 : List (Nat × am_R) := [(0, (.aload_n 0, 1, 0, 0, 0, 0)),
  (1, (.invokespecial 1, 4, 1, 0, 22, 0)),
  (4, (.aload_n 0, 5, 0, 0, 0, 0)),
  (5, (.new 7, 8, 0, 6, 12, 0)),
  (8, (.dup, 9, 0, 0, 0, 0)),
  (9, (.invokespecial 9, 12, 9, 0, 23, 0)),
  (12, (.putfield 10, 15, 1, 5, 94, 0)),
  (15, (.return_, 16, 0, 0, 0, 0))]
def am_r12 : List (Nat × am_R) := [(0, (.aload_n 0, 1, 0, 0, 0, 0)),
  (1, (.getfield 10, 4, 0, 10, 100, 0)),
  (4, (.lload_n 1, 5, 0, 0, 0, 0)),
  (5, (.invokevirtual 87, 8, 13, 1, 25, 7)),
  (8, (.aload_n 0, 9, 0, 0, 0, 0)),
  (9, (.getfield 10, 12, 0, 10, 100, 0)),
  (12, (.lload_n 3, 13, 0, 0, 0, 0)),
  (13, (.invokevirtual 87, 16, 13, 1, 25, 7)),
  (16, (.aload_n 0, 17, 0, 0, 0, 0)),
  (17, (.getfield 10, 20, 0, 10, 100, 0)),
  (20, (.lload 5, 22, 0, 0, 0, 0)),
  (22, (.invokevirtual 87, 25, 13, 1, 25, 7)),
  (25, (.aload_n 0, 26, 0, 0, 0, 0)),
  (26, (.getfield 10, 29, 0, 10, 100, 0)),
  (29, (.getfield 91, 32, 1, 7, 1, 0)),
  (32, (.ireturn, 33, 0, 0, 0, 0))]
def am_r13 : List (Nat × am_R) := [(0, (.bipush 56, 2, 0, 0, 0, 0)),
  (2, (.istore_n 3, 3, 0, 0, 0, 0)),
  (3, (.iload_n 3, 4, 0, 0, 0, 0)),
  (4, (.ifCond .lt 84, 7, 88, 0, 0, 0)),
  (7, (.lload_n 1, 8, 0, 0, 0, 0)),
  (8, (.iload_n 3, 9, 0, 0, 0, 0)),
  (9, (.lushr, 10, 0, 0, 0, 0)),
  (10, (.ldc2_w 15, 13, 0, 0, 0, 0)),
  (13, (.land, 14, 0, 0, 0, 0)),
  (14, (.l2i, 15, 0, 0, 0, 0)),
  (15, (.istore 4, 17, 0, 0, 0, 0)),
  (17, (.iload 4, 19, 0, 0, 0, 0)),
  (19, (.bipush 10, 21, 0, 0, 0, 0)),
  (21, (.if_icmp .eq 17, 24, 38, 0, 0, 0)),
  (24, (.iload 4, 26, 0, 0, 0, 0)),
  (26, (.bipush 32, 28, 0, 0, 0, 0)),
  (28, (.if_icmp .lt 14, 31, 42, 0, 0, 0)),
  (31, (.iload 4, 33, 0, 0, 0, 0)),
  (33, (.bipush 126, 35, 0, 0, 0, 0)),
  (35, (.if_icmp .gt 7, 38, 42, 0, 0, 0)),
  (38, (.iconst 1, 39, 0, 0, 0, 0)),
  (39, (.goto 4, 42, 43, 0, 0, 0)),
  (42, (.iconst 0, 43, 0, 0, 0, 0)),
  (43, (.istore 5, 45, 0, 0, 0, 0)),
  (45, (.iload 5, 47, 0, 0, 0, 0)),
  (47, (.ifCond .eq 35, 50, 82, 0, 0, 0)),
  (50, (.aload_n 0, 51, 0, 0, 0, 0)),
  (51, (.getfield 17, 54, 1, 7, 2, 0)),
  (54, (.sipush 1000, 57, 0, 0, 0, 0)),
  (57, (.if_icmp .ge 25, 60, 82, 0, 0, 0)),
  (60, (.aload_n 0, 61, 0, 0, 0, 0)),
  (61, (.getfield 9, 64, 0, 7, 0, 0)),
  (64, (.aload_n 0, 65, 0, 0, 0, 0)),
  (65, (.getfield 17, 68, 1, 7, 2, 0)),
  (68, (.iload 4, 70, 0, 0, 0, 0)),
  (70, (.i2c, 71, 0, 0, 0, 0)),
  (71, (.castore, 72, 0, 0, 0, 0)),
  (72, (.aload_n 0, 73, 0, 0, 0, 0)),
  (73, (.dup, 74, 0, 0, 0, 0)),
  (74, (.getfield 17, 77, 1, 7, 2, 0)),
  (77, (.iconst 1, 78, 0, 0, 0, 0)),
  (78, (.iadd, 79, 0, 0, 0, 0)),
  (79, (.putfield 17, 82, 1, 7, 2, 0)),
  (82, (.iinc 3 (-8), 85, 0, 0, 0, 0)),
  (85, (.goto (-82), 88, 3, 0, 0, 0)),
  (88, (.return_, 89, 0, 0, 0, 0))]
def am_r14 : List (Nat × am_R) := [(0, (.aload_n 0, 1, 0, 0, 0, 0)),
  (1, (.getfield 21, 4, 1, 10, 101, 0)),
  (4, (.aload_n 0, 5, 0, 0, 0, 0)),
  (5, (.getfield 39, 8, 4, 10, 104, 0)),
  (8, (.invokevirtual 94, 11, 15, 1, 27, 1)),
  (11, (.istore_n 1, 12, 0, 0, 0, 0)),
  (12, (.aload_n 0, 13, 0, 0, 0, 0)),
  (13, (.getfield 10, 16, 0, 10, 100, 0)),
  (16, (.iconst 0, 17, 0, 0, 0, 0)),
  (17, (.putfield 91, 20, 1, 7, 1, 0)),
  (20, (.iload_n 1, 21, 0, 0, 0, 0)),
  (21, (.ifCond .eq 5, 24, 26, 0, 0, 0)),
  (24, (.iload_n 1, 25, 0, 0, 0, 0)),
  (25, (.ireturn, 26, 0, 0, 0, 0)),
  (26, (.aload_n 0, 27, 0, 0, 0, 0)),
  (27, (.getfield 39, 30, 4, 10, 104, 0)),
  (30, (.astore_n 2, 31, 0, 0, 0, 0)),
  (31, (.aload_n 0, 32, 0, 0, 0, 0)),
  (32, (.aload_n 0, 33, 0, 0, 0, 0)),
  (33, (.getfield 35, 36, 3, 10, 103, 0)),
  (36, (.putfield 39, 39, 4, 10, 104, 0)),
  (39, (.aload_n 0, 40, 0, 0, 0, 0)),
  (40, (.aload_n 2, 41, 0, 0, 0, 0)),
  (41, (.putfield 35, 44, 3, 10, 103, 0)),
  (44, (.aload_n 0, 45, 0, 0, 0, 0)),
  (45, (.invokevirtual 98, 48, 78, 0, 100, 10)),
  (48, (.iconst 0, 49, 0, 0, 0, 0)),
  (49, (.ireturn, 50, 0, 0, 0, 0))]
def am_r15 : List (Nat × am_R) := [(0, (.aload_n 1, 1, 0, 0, 0, 0)),
  (1, (.invokevirtual 24, 4, 16, 0, 28, 0)),
  (4, (.aload_n 0, 5, 0, 0, 0, 0)),
  (5, (.getfield 9, 8, 0, 1, 20, 0)),
  (8, (.invokevirtual 29, 11, 17, 0, 29, 7)),
  (11, (.iconst 1, 12, 0, 0, 0, 0)),
  (12, (.istore_n 2, 13, 0, 0, 0, 0)),
  (13, (.iconst 0, 14, 0, 0, 0, 0)),
  (14, (.istore_n 3, 15, 0, 0, 0, 0)),
  (15, (.iload_n 2, 16, 0, 0, 0, 0)),
  (16, (.ifCond .eq 33, 19, 49, 0, 0, 0)),
  (19, (.aload_n 0, 20, 0, 0, 0, 0)),
  (20, (.getfield 9, 23, 0, 1, 20, 0)),
  (23, (.getfield 34, 26, 2, 7, 3, 0)),
  (26, (.iconst 4, 27, 0, 0, 0, 0)),
  (27, (.if_icmp .eq 22, 30, 49, 0, 0, 0)),
  (30, (.iload_n 3, 31, 0, 0, 0, 0)),
  (31, (.sipush 1000, 34, 0, 0, 0, 0)),
  (34, (.if_icmp .ge 15, 37, 49, 0, 0, 0)),
  (37, (.aload_n 0, 38, 0, 0, 0, 0)),
  (38, (.aload_n 1, 39, 0, 0, 0, 0)),
  (39, (.invokevirtual 38, 42, 43, 1, 57, 1)),
  (42, (.istore_n 2, 43, 0, 0, 0, 0)),
  (43, (.iinc 3 1, 46, 0, 0, 0, 0)),
  (46, (.goto (-31), 49, 15, 0, 0, 0)),
  (49, (.aload_n 0, 50, 0, 0, 0, 0)),
  (50, (.getfield 9, 53, 0, 1, 20, 0)),
  (53, (.getfield 42, 56, 7, 7, 16, 0)),
  (56, (.ireturn, 57, 0, 0, 0, 0))]
def am_r16 : List (Nat × am_R) := [(0, (.aload_n 0, 1, 0, 0, 0, 0)),
  (1, (.iconst 0, 2, 0, 0, 0, 0)),
  (2, (.putfield 41, 5, 0, 0, 27, 0)),
  (5, (.aload_n 0, 6, 0, 0, 0, 0)),
  (6, (.iconst 0, 7, 0, 0, 0, 0)),
  (7, (.putfield 45, 10, 4, 0, 38, 0)),
  (10, (.aload_n 0, 11, 0, 0, 0, 0)),
  (11, (.iconst 0, 12, 0, 0, 0, 0)),
  (12, (.putfield 48, 15, 9, 0, 52, 0)),
  (15, (.aload_n 0, 16, 0, 0, 0, 0)),
  (16, (.iconst 0, 17, 0, 0, 0, 0)),
  (17, (.putfield 52, 20, 10, 0, 54, 0)),
  (20, (.aload_n 0, 21, 0, 0, 0, 0)),
  (21, (.iconst 0, 22, 0, 0, 0, 0)),
  (22, (.putfield 55, 25, 11, 0, 57, 0)),
  (25, (.aload_n 0, 26, 0, 0, 0, 0)),
  (26, (.getfield 37, 29, 12, 0, 58, 0)),
  (29, (.iconst 0, 30, 0, 0, 0, 0)),
  (30, (.putfield 58, 33, 2, 3, 26, 0)),
  (33, (.return_, 34, 0, 0, 0, 0))]
def am_r17 : List (Nat × am_R) := [(0, (.aload_n 0, 1, 0, 0, 0, 0)),
  (1, (.iconst 0, 2, 0, 0, 0, 0)),
  (2, (.putfield 21, 5, 7, 7, 18, 0)),
  (5, (.aload_n 0, 6, 0, 0, 0, 0)),
  (6, (.iconst 0, 7, 0, 0, 0, 0)),
  (7, (.putfield 24, 10, 4, 7, 8, 0)),
  (10, (.aload_n 0, 11, 0, 0, 0, 0)),
  (11, (.invokevirtual 27, 14, 18, 0, 30, 7)),
  (14, (.return_, 15, 0, 0, 0, 0))]
def am_r18 : List (Nat × am_R) := [(0, (.aload_n 0, 1, 0, 0, 0, 0)),
  (1, (.getfield 24, 4, 4, 7, 8, 0)),
  (4, (.aload_n 0, 5, 0, 0, 0, 0)),
  (5, (.getfield 17, 8, 1, 7, 2, 0)),
  (8, (.if_icmp .ge 44, 11, 52, 0, 0, 0)),
  (11, (.aload_n 0, 12, 0, 0, 0, 0)),
  (12, (.getfield 9, 15, 0, 7, 0, 0)),
  (15, (.aload_n 0, 16, 0, 0, 0, 0)),
  (16, (.getfield 24, 19, 4, 7, 8, 0)),
  (19, (.caload, 20, 0, 0, 0, 0)),
  (20, (.bipush 10, 22, 0, 0, 0, 0)),
  (22, (.if_icmp .eq 17, 25, 39, 0, 0, 0)),
  (25, (.aload_n 0, 26, 0, 0, 0, 0)),
  (26, (.getfield 9, 29, 0, 7, 0, 0)),
  (29, (.aload_n 0, 30, 0, 0, 0, 0)),
  (30, (.getfield 24, 33, 4, 7, 8, 0)),
  (33, (.caload, 34, 0, 0, 0, 0)),
  (34, (.bipush 32, 36, 0, 0, 0, 0)),
  (36, (.if_icmp .ne 16, 39, 52, 0, 0, 0)),
  (39, (.aload_n 0, 40, 0, 0, 0, 0)),
  (40, (.dup, 41, 0, 0, 0, 0)),
  (41, (.getfield 24, 44, 4, 7, 8, 0)),
  (44, (.iconst 1, 45, 0, 0, 0, 0)),
  (45, (.iadd, 46, 0, 0, 0, 0)),
  (46, (.putfield 24, 49, 4, 7, 8, 0)),
  (49, (.goto (-49), 52, 0, 0, 0, 0)),
  (52, (.aload_n 0, 53, 0, 0, 0, 0)),
  (53, (.aload_n 0, 54, 0, 0, 0, 0)),
  (54, (.getfield 24, 57, 4, 7, 8, 0)),
  (57, (.putfield 30, 60, 3, 7, 7, 0)),
  (60, (.aload_n 0, 61, 0, 0, 0, 0)),
  (61, (.getfield 30, 64, 3, 7, 7, 0)),
  (64, (.aload_n 0, 65, 0, 0, 0, 0)),
  (65, (.getfield 17, 68, 1, 7, 2, 0)),
  (68, (.if_icmp .lt 11, 71, 79, 0, 0, 0)),
  (71, (.aload_n 0, 72, 0, 0, 0, 0)),
  (72, (.iconst 4, 73, 0, 0, 0, 0)),
  (73, (.putfield 33, 76, 2, 7, 5, 0)),
  (76, (.goto 109, 79, 185, 0, 0, 0)),
  (79, (.aload_n 0, 80, 0, 0, 0, 0)),
  (80, (.getfield 9, 83, 0, 7, 0, 0)),
  (83, (.aload_n 0, 84, 0, 0, 0, 0)),
  (84, (.getfield 30, 87, 3, 7, 7, 0)),
  (87, (.caload, 88, 0, 0, 0, 0)),
  (88, (.bipush 97, 90, 0, 0, 0, 0)),
  (90, (.if_icmp .lt 24, 93, 114, 0, 0, 0)),
  (93, (.aload_n 0, 94, 0, 0, 0, 0)),
  (94, (.getfield 9, 97, 0, 7, 0, 0)),
  (97, (.aload_n 0, 98, 0, 0, 0, 0)),
  (98, (.getfield 30, 101, 3, 7, 7, 0)),
  (101, (.caload, 102, 0, 0, 0, 0)),
  (102, (.bipush 122, 104, 0, 0, 0, 0)),
  (104, (.if_icmp .gt 10, 107, 114, 0, 0, 0)),
  (107, (.aload_n 0, 108, 0, 0, 0, 0)),
  (108, (.invokevirtual 36, 111, 19, 0, 31, 7)),
  (111, (.goto 74, 114, 185, 0, 0, 0)),
  (114, (.aload_n 0, 115, 0, 0, 0, 0)),
  (115, (.getfield 9, 118, 0, 7, 0, 0)),
  (118, (.aload_n 0, 119, 0, 0, 0, 0)),
  (119, (.getfield 30, 122, 3, 7, 7, 0)),
  (122, (.caload, 123, 0, 0, 0, 0)),
  (123, (.bipush 48, 125, 0, 0, 0, 0)),
  (125, (.if_icmp .lt 24, 128, 149, 0, 0, 0)),
  (128, (.aload_n 0, 129, 0, 0, 0, 0)),
  (129, (.getfield 9, 132, 0, 7, 0, 0)),
  (132, (.aload_n 0, 133, 0, 0, 0, 0)),
  (133, (.getfield 30, 136, 3, 7, 7, 0)),
  (136, (.caload, 137, 0, 0, 0, 0)),
  (137, (.bipush 57, 139, 0, 0, 0, 0)),
  (139, (.if_icmp .gt 10, 142, 149, 0, 0, 0)),
  (142, (.aload_n 0, 143, 0, 0, 0, 0)),
  (143, (.invokevirtual 39, 146, 20, 0, 32, 7)),
  (146, (.goto 39, 149, 185, 0, 0, 0)),
  (149, (.aload_n 0, 150, 0, 0, 0, 0)),
  (150, (.ldc 42, 152, 0, 1, 0, 0)),
  (152, (.aload_n 0, 153, 0, 0, 0, 0)),
  (153, (.getfield 9, 156, 0, 7, 0, 0)),
  (156, (.aload_n 0, 157, 0, 0, 0, 0)),
  (157, (.getfield 30, 160, 3, 7, 7, 0)),
  (160, (.caload, 161, 0, 0, 0, 0)),
  (161, (.invokevirtual 44, 164, 21, 1, 33, 20)),
  (164, (.ifCond .lt 7, 167, 171, 0, 0, 0)),
  (167, (.iconst 3, 168, 0, 0, 0, 0)),
  (168, (.goto 4, 171, 172, 0, 0, 0)),
  (171, (.iconst 0, 172, 0, 0, 0, 0)),
  (172, (.putfield 33, 175, 2, 7, 5, 0)),
  (175, (.aload_n 0, 176, 0, 0, 0, 0)),
  (176, (.dup, 177, 0, 0, 0, 0)),
  (177, (.getfield 24, 180, 4, 7, 8, 0)),
  (180, (.iconst 1, 181, 0, 0, 0, 0)),
  (181, (.iadd, 182, 0, 0, 0, 0)),
  (182, (.putfield 24, 185, 4, 7, 8, 0)),
  (185, (.return_, 186, 0, 0, 0, 0))]
def am_r19 : List (Nat × am_R) := [(0, (.aload_n 0, 1, 0, 0, 0, 0)),
  (1, (.lconst 0, 2, 0, 0, 0, 0)),
  (2, (.putfield 50, 5, 5, 7, 10, 0)),
  (5, (.aload_n 0, 6, 0, 0, 0, 0)),
  (6, (.getfield 24, 9, 4, 7, 8, 0)),
  (9, (.aload_n 0, 10, 0, 0, 0, 0)),
  (10, (.getfield 17, 13, 1, 7, 2, 0)),
  (13, (.if_icmp .ge 66, 16, 79, 0, 0, 0)),
  (16, (.aload_n 0, 17, 0, 0, 0, 0)),
  (17, (.getfield 9, 20, 0, 7, 0, 0)),
  (20, (.aload_n 0, 21, 0, 0, 0, 0)),
  (21, (.getfield 24, 24, 4, 7, 8, 0)),
  (24, (.caload, 25, 0, 0, 0, 0)),
  (25, (.bipush 97, 27, 0, 0, 0, 0)),
  (27, (.if_icmp .lt 52, 30, 79, 0, 0, 0)),
  (30, (.aload_n 0, 31, 0, 0, 0, 0)),
  (31, (.getfield 9, 34, 0, 7, 0, 0)),
  (34, (.aload_n 0, 35, 0, 0, 0, 0)),
  (35, (.getfield 24, 38, 4, 7, 8, 0)),
  (38, (.caload, 39, 0, 0, 0, 0)),
  (39, (.bipush 122, 41, 0, 0, 0, 0)),
  (41, (.if_icmp .gt 38, 44, 79, 0, 0, 0)),
  (44, (.aload_n 0, 45, 0, 0, 0, 0)),
  (45, (.aload_n 0, 46, 0, 0, 0, 0)),
  (46, (.getfield 50, 49, 5, 7, 10, 0)),
  (49, (.bipush 8, 51, 0, 0, 0, 0)),
  (51, (.lshl, 52, 0, 0, 0, 0)),
  (52, (.aload_n 0, 53, 0, 0, 0, 0)),
  (53, (.getfield 9, 56, 0, 7, 0, 0)),
  (56, (.aload_n 0, 57, 0, 0, 0, 0)),
  (57, (.getfield 24, 60, 4, 7, 8, 0)),
  (60, (.caload, 61, 0, 0, 0, 0)),
  (61, (.i2l, 62, 0, 0, 0, 0)),
  (62, (.lor, 63, 0, 0, 0, 0)),
  (63, (.putfield 50, 66, 5, 7, 10, 0)),
  (66, (.aload_n 0, 67, 0, 0, 0, 0)),
  (67, (.dup, 68, 0, 0, 0, 0)),
  (68, (.getfield 24, 71, 4, 7, 8, 0)),
  (71, (.iconst 1, 72, 0, 0, 0, 0)),
  (72, (.iadd, 73, 0, 0, 0, 0)),
  (73, (.putfield 24, 76, 4, 7, 8, 0)),
  (76, (.goto (-71), 79, 5, 0, 0, 0)),
  (79, (.aload_n 0, 80, 0, 0, 0, 0)),
  (80, (.aload_n 0, 81, 0, 0, 0, 0)),
  (81, (.getfield 24, 84, 4, 7, 8, 0)),
  (84, (.aload_n 0, 85, 0, 0, 0, 0)),
  (85, (.getfield 30, 88, 3, 7, 7, 0)),
  (88, (.isub, 89, 0, 0, 0, 0)),
  (89, (.bipush 8, 91, 0, 0, 0, 0)),
  (91, (.if_icmp .gt 7, 94, 98, 0, 0, 0)),
  (94, (.iconst 1, 95, 0, 0, 0, 0)),
  (95, (.goto 4, 98, 99, 0, 0, 0)),
  (98, (.iconst 0, 99, 0, 0, 0, 0)),
  (99, (.putfield 33, 102, 2, 7, 5, 0)),
  (102, (.return_, 103, 0, 0, 0, 0))]
def am_r20 : List (Nat × am_R) := [(0, (.aload_n 0, 1, 0, 0, 0, 0)),
  (1, (.iconst 0, 2, 0, 0, 0, 0)),
  (2, (.putfield 54, 5, 6, 7, 13, 0)),
  (5, (.aload_n 0, 6, 0, 0, 0, 0)),
  (6, (.getfield 24, 9, 4, 7, 8, 0)),
  (9, (.aload_n 0, 10, 0, 0, 0, 0)),
  (10, (.getfield 17, 13, 1, 7, 2, 0)),
  (13, (.if_icmp .ge 68, 16, 81, 0, 0, 0)),
  (16, (.aload_n 0, 17, 0, 0, 0, 0)),
  (17, (.getfield 9, 20, 0, 7, 0, 0)),
  (20, (.aload_n 0, 21, 0, 0, 0, 0)),
  (21, (.getfield 24, 24, 4, 7, 8, 0)),
  (24, (.caload, 25, 0, 0, 0, 0)),
  (25, (.bipush 48, 27, 0, 0, 0, 0)),
  (27, (.if_icmp .lt 54, 30, 81, 0, 0, 0)),
  (30, (.aload_n 0, 31, 0, 0, 0, 0)),
  (31, (.getfield 9, 34, 0, 7, 0, 0)),
  (34, (.aload_n 0, 35, 0, 0, 0, 0)),
  (35, (.getfield 24, 38, 4, 7, 8, 0)),
  (38, (.caload, 39, 0, 0, 0, 0)),
  (39, (.bipush 57, 41, 0, 0, 0, 0)),
  (41, (.if_icmp .gt 40, 44, 81, 0, 0, 0)),
  (44, (.aload_n 0, 45, 0, 0, 0, 0)),
  (45, (.aload_n 0, 46, 0, 0, 0, 0)),
  (46, (.getfield 54, 49, 6, 7, 13, 0)),
  (49, (.bipush 10, 51, 0, 0, 0, 0)),
  (51, (.imul, 52, 0, 0, 0, 0)),
  (52, (.aload_n 0, 53, 0, 0, 0, 0)),
  (53, (.getfield 9, 56, 0, 7, 0, 0)),
  (56, (.aload_n 0, 57, 0, 0, 0, 0)),
  (57, (.getfield 24, 60, 4, 7, 8, 0)),
  (60, (.caload, 61, 0, 0, 0, 0)),
  (61, (.bipush 48, 63, 0, 0, 0, 0)),
  (63, (.isub, 64, 0, 0, 0, 0)),
  (64, (.iadd, 65, 0, 0, 0, 0)),
  (65, (.putfield 54, 68, 6, 7, 13, 0)),
  (68, (.aload_n 0, 69, 0, 0, 0, 0)),
  (69, (.dup, 70, 0, 0, 0, 0)),
  (70, (.getfield 24, 73, 4, 7, 8, 0)),
  (73, (.iconst 1, 74, 0, 0, 0, 0)),
  (74, (.iadd, 75, 0, 0, 0, 0)),
  (75, (.putfield 24, 78, 4, 7, 8, 0)),
  (78, (.goto (-73), 81, 5, 0, 0, 0)),
  (81, (.aload_n 0, 82, 0, 0, 0, 0)),
  (82, (.aload_n 0, 83, 0, 0, 0, 0)),
  (83, (.getfield 24, 86, 4, 7, 8, 0)),
  (86, (.aload_n 0, 87, 0, 0, 0, 0)),
  (87, (.getfield 30, 90, 3, 7, 7, 0)),
  (90, (.isub, 91, 0, 0, 0, 0)),
  (91, (.iconst 4, 92, 0, 0, 0, 0)),
  (92, (.if_icmp .gt 7, 95, 99, 0, 0, 0)),
  (95, (.iconst 2, 96, 0, 0, 0, 0)),
  (96, (.goto 4, 99, 100, 0, 0, 0)),
  (99, (.iconst 0, 100, 0, 0, 0, 0)),
  (100, (.putfield 33, 103, 2, 7, 5, 0)),
  (103, (.return_, 104, 0, 0, 0, 0))]
def am_r21 : List (Nat × am_R) := [(0, (.aload_n 0, 1, 0, 0, 0, 0)),
  (1, (.iload_n 1, 2, 0, 0, 0, 0)),
  (2, (.iconst 0, 3, 0, 0, 0, 0)),
  (3, (.invokevirtual 633, 6, 22, 2, 34, 20)),
  (6, (.ireturn, 7, 0, 0, 0, 0))]
def am_r22 : List (Nat × am_R) := [(0, (.aload_n 0, 1, 0, 0, 0, 0)),
  (1, (.invokevirtual 492, 4, 23, 0, 35, 20)),
  (4, (.ifCond .eq 19, 7, 23, 0, 0, 0)),
  (7, (.aload_n 0, 8, 0, 0, 0, 0)),
  (8, (.getfield 9, 11, 0, 20, 159, 0)),
  (11, (.iload_n 1, 12, 0, 0, 0, 0)),
  (12, (.iload_n 2, 13, 0, 0, 0, 0)),
  (13, (.aload_n 0, 14, 0, 0, 0, 0)),
  (14, (.invokevirtual 505, 17, 24, 0, 36, 20)),
  (17, (.invokestatic 637, 20, 26, 4, 38, 0)),
  (20, (.goto 16, 23, 36, 0, 0, 0)),
  (23, (.aload_n 0, 24, 0, 0, 0, 0)),
  (24, (.getfield 9, 27, 0, 20, 159, 0)),
  (27, (.iload_n 1, 28, 0, 0, 0, 0)),
  (28, (.iload_n 2, 29, 0, 0, 0, 0)),
  (29, (.aload_n 0, 30, 0, 0, 0, 0)),
  (30, (.invokevirtual 505, 33, 24, 0, 36, 20)),
  (33, (.invokestatic 640, 36, 31, 4, 43, 0)),
  (36, (.ireturn, 37, 0, 0, 0, 0))]
def am_r23 : List (Nat × am_R) := [(0, (.getstatic 38, 3, 0, 0, 114, 0)),
  (3, (.ifCond .eq 14, 6, 17, 0, 0, 0)),
  (6, (.aload_n 0, 7, 0, 0, 0, 0)),
  (7, (.getfield 15, 10, 1, 20, 158, 0)),
  (10, (.ifCond .ne 7, 13, 17, 0, 0, 0)),
  (13, (.iconst 1, 14, 0, 0, 0, 0)),
  (14, (.goto 4, 17, 18, 0, 0, 0)),
  (17, (.iconst 0, 18, 0, 0, 0, 0)),
  (18, (.ireturn, 19, 0, 0, 0, 0))]
def am_r24 : List (Nat × am_R) := [(0, (.aload_n 0, 1, 0, 0, 0, 0)),
  (1, (.getfield 9, 4, 0, 20, 159, 0)),
  (4, (.arraylength, 5, 0, 0, 0, 0)),
  (5, (.aload_n 0, 6, 0, 0, 0, 0)),
  (6, (.invokevirtual 335, 9, 25, 0, 37, 20)),
  (9, (.ishr, 10, 0, 0, 0, 0)),
  (10, (.ireturn, 11, 0, 0, 0, 0))]
def am_r25 : List (Nat × am_R) := [(0, (.getstatic 38, 3, 0, 0, 114, 0)),
  (3, (.ifCond .eq 10, 6, 13, 0, 0, 0)),
  (6, (.aload_n 0, 7, 0, 0, 0, 0)),
  (7, (.getfield 15, 10, 1, 20, 158, 0)),
  (10, (.goto 4, 13, 14, 0, 0, 0)),
  (13, (.iconst 1, 14, 0, 0, 0, 0)),
  (14, (.ireturn, 15, 0, 0, 0, 0))]
def am_r26 : List (Nat × am_R) := [(0, (.iload_n 1, 1, 0, 0, 0, 0)),
  (1, (.invokestatic 88, 4, 27, 1, 39, 0)),
  (4, (.ifCond .ne 5, 7, 9, 0, 0, 0)),
  (7, (.iconst (-1), 8, 0, 0, 0, 0)),
  (8, (.ireturn, 9, 0, 0, 0, 0)),
  (9, (.iload_n 2, 10, 0, 0, 0, 0)),
  (10, (.iconst 0, 11, 0, 0, 0, 0)),
  (11, (.invokestatic 92, 14, 28, 2, 40, 0)),
  (14, (.istore_n 2, 15, 0, 0, 0, 0)),
  (15, (.iload_n 3, 16, 0, 0, 0, 0)),
  (16, (.aload_n 0, 17, 0, 0, 0, 0)),
  (17, (.arraylength, 18, 0, 0, 0, 0)),
  (18, (.invokestatic 38, 21, 29, 2, 41, 0)),
  (21, (.istore_n 3, 22, 0, 0, 0, 0)),
  (22, (.iload_n 2, 23, 0, 0, 0, 0)),
  (23, (.iload_n 3, 24, 0, 0, 0, 0)),
  (24, (.if_icmp .lt 5, 27, 29, 0, 0, 0)),
  (27, (.iconst (-1), 28, 0, 0, 0, 0)),
  (28, (.ireturn, 29, 0, 0, 0, 0)),
  (29, (.aload_n 0, 30, 0, 0, 0, 0)),
  (30, (.iload_n 1, 31, 0, 0, 0, 0)),
  (31, (.iload_n 2, 32, 0, 0, 0, 0)),
  (32, (.iload_n 3, 33, 0, 0, 0, 0)),
  (33, (.invokestatic 95, 36, 30, 4, 42, 0)),
  (36, (.ireturn, 37, 0, 0, 0, 0))]
def am_r27 : List (Nat × am_R) := [(0, (.iload_n 0, 1, 0, 0, 0, 0)),
  (1, (.ifCond .lt 14, 4, 15, 0, 0, 0)),
  (4, (.iload_n 0, 5, 0, 0, 0, 0)),
  (5, (.sipush 255, 8, 0, 0, 0, 0)),
  (8, (.if_icmp .gt 7, 11, 15, 0, 0, 0)),
  (11, (.iconst 1, 12, 0, 0, 0, 0)),
  (12, (.goto 4, 15, 16, 0, 0, 0)),
  (15, (.iconst 0, 16, 0, 0, 0, 0)),
  (16, (.ireturn, 17, 0, 0, 0, 0))]
def am_r28 : List (Nat × am_R) := [(0, (.iload_n 0, 1, 0, 0, 0, 0)),
  (1, (.iload_n 1, 2, 0, 0, 0, 0)),
  (2, (.if_icmp .lt 7, 5, 9, 0, 0, 0)),
  (5, (.iload_n 0, 6, 0, 0, 0, 0)),
  (6, (.goto 4, 9, 10, 0, 0, 0)),
  (9, (.iload_n 1, 10, 0, 0, 0, 0)),
  (10, (.ireturn, 11, 0, 0, 0, 0))]
def am_r29 : List (Nat × am_R) := [(0, (.iload_n 0, 1, 0, 0, 0, 0)),
  (1, (.iload_n 1, 2, 0, 0, 0, 0)),
  (2, (.if_icmp .gt 7, 5, 9, 0, 0, 0)),
  (5, (.iload_n 0, 6, 0, 0, 0, 0)),
  (6, (.goto 4, 9, 10, 0, 0, 0)),
  (9, (.iload_n 1, 10, 0, 0, 0, 0)),
  (10, (.ireturn, 11, 0, 0, 0, 0))]
def am_r30 : List (Nat × am_R) := [(0, (.iload_n 1, 1, 0, 0, 0, 0)),
  (1, (.i2b, 2, 0, 0, 0, 0)),
  (2, (.istore 4, 4, 0, 0, 0, 0)),
  (4, (.iload_n 2, 5, 0, 0, 0, 0)),
  (5, (.istore 5, 7, 0, 0, 0, 0)),
  (7, (.iload 5, 9, 0, 0, 0, 0)),
  (9, (.iload_n 3, 10, 0, 0, 0, 0)),
  (10, (.if_icmp .ge 21, 13, 31, 0, 0, 0)),
  (13, (.aload_n 0, 14, 0, 0, 0, 0)),
  (14, (.iload 5, 16, 0, 0, 0, 0)),
  (16, (.baload, 17, 0, 0, 0, 0)),
  (17, (.iload 4, 19, 0, 0, 0, 0)),
  (19, (.if_icmp .ne 6, 22, 25, 0, 0, 0)),
  (22, (.iload 5, 24, 0, 0, 0, 0)),
  (24, (.ireturn, 25, 0, 0, 0, 0)),
  (25, (.iinc 5 1, 28, 0, 0, 0, 0)),
  (28, (.goto (-21), 31, 7, 0, 0, 0)),
  (31, (.iconst (-1), 32, 0, 0, 0, 0)),
  (32, (.ireturn, 33, 0, 0, 0, 0))]
def am_r31 : List (Nat × am_R) := [(0, (.iload_n 2, 1, 0, 0, 0, 0)),
  (1, (.iconst 0, 2, 0, 0, 0, 0)),
  (2, (.invokestatic 224, 5, 28, 2, 44, 0)),
  (5, (.istore_n 2, 6, 0, 0, 0, 0)),
  (6, (.iload_n 3, 7, 0, 0, 0, 0)),
  (7, (.aload_n 0, 8, 0, 0, 0, 0)),
  (8, (.arraylength, 9, 0, 0, 0, 0)),
  (9, (.iconst 1, 10, 0, 0, 0, 0)),
  (10, (.ishr, 11, 0, 0, 0, 0)),
  (11, (.invokestatic 183, 14, 29, 2, 45, 0)),
  (14, (.istore_n 3, 15, 0, 0, 0, 0)),
  (15, (.iload_n 2, 16, 0, 0, 0, 0)),
  (16, (.iload_n 3, 17, 0, 0, 0, 0)),
  (17, (.if_icmp .lt 5, 20, 22, 0, 0, 0)),
  (20, (.iconst (-1), 21, 0, 0, 0, 0)),
  (21, (.ireturn, 22, 0, 0, 0, 0)),
  (22, (.iload_n 1, 23, 0, 0, 0, 0)),
  (23, (.ldc 227, 25, 0, 0, 0, 0)),
  (25, (.if_icmp .ge 11, 28, 36, 0, 0, 0)),
  (28, (.aload_n 0, 29, 0, 0, 0, 0)),
  (29, (.iload_n 1, 30, 0, 0, 0, 0)),
  (30, (.iload_n 2, 31, 0, 0, 0, 0)),
  (31, (.iload_n 3, 32, 0, 0, 0, 0)),
  (32, (.invokestatic 228, 35, 32, 4, 46, 0)),
  (35, (.ireturn, 36, 0, 0, 0, 0)),
  (36, (.aload_n 0, 37, 0, 0, 0, 0)),
  (37, (.iload_n 1, 38, 0, 0, 0, 0)),
  (38, (.iload_n 2, 39, 0, 0, 0, 0)),
  (39, (.iload_n 3, 40, 0, 0, 0, 0)),
  (40, (.invokestatic 232, 43, 39, 4, 53, 0)),
  (43, (.ireturn, 44, 0, 0, 0, 0))]
def am_r32 : List (Nat × am_R) := [(0, (.iload_n 2, 1, 0, 0, 0, 0)),
  (1, (.iload_n 3, 2, 0, 0, 0, 0)),
  (2, (.aload_n 0, 3, 0, 0, 0, 0)),
  (3, (.invokestatic 96, 6, 33, 3, 47, 0)),
  (6, (.aload_n 0, 7, 0, 0, 0, 0)),
  (7, (.iload_n 1, 8, 0, 0, 0, 0)),
  (8, (.iload_n 2, 9, 0, 0, 0, 0)),
  (9, (.iload_n 3, 10, 0, 0, 0, 0)),
  (10, (.invokestatic 244, 13, 37, 4, 51, 0)),
  (13, (.ireturn, 14, 0, 0, 0, 0))]
def am_r33 : List (Nat × am_R) := [(0, (.iload_n 0, 1, 0, 0, 0, 0)),
  (1, (.iload_n 1, 2, 0, 0, 0, 0)),
  (2, (.aload_n 2, 3, 0, 0, 0, 0)),
  (3, (.invokestatic 48, 6, 34, 1, 48, 0)),
  (6, (.invokestatic 241, 9, 35, 3, 49, 0)),
  (9, (.return_, 10, 0, 0, 0, 0))]
def am_r34 : List (Nat × am_R) := [(0, (.aload_n 0, 1, 0, 0, 0, 0)),
  (1, (.arraylength, 2, 0, 0, 0, 0)),
  (2, (.iconst 1, 3, 0, 0, 0, 0)),
  (3, (.ishr, 4, 0, 0, 0, 0)),
  (4, (.ireturn, 5, 0, 0, 0, 0))]
def am_r35 : List (Nat × am_R) := [(0, (.iload_n 0, 1, 0, 0, 0, 0)),
  (1, (.iload_n 1, 2, 0, 0, 0, 0)),
  (2, (.iload_n 2, 3, 0, 0, 0, 0)),
  (6, (.invokestatic 1062, 9, 36, 4, 50, 0)),
  (9, (.pop, 10, 0, 0, 0, 0)),
  (10, (.return_, 11, 0, 0, 0, 0))]
def am_r36 : List (Nat × am_R) := [(0, (.iload_n 0, 1, 0, 0, 0, 0)),
  (1, (.ifCond .lt 13, 4, 14, 0, 0, 0)),
  (4, (.iload_n 0, 5, 0, 0, 0, 0)),
  (5, (.iload_n 1, 6, 0, 0, 0, 0)),
  (6, (.if_icmp .gt 8, 9, 14, 0, 0, 0)),
  (9, (.iload_n 1, 10, 0, 0, 0, 0)),
  (10, (.iload_n 2, 11, 0, 0, 0, 0)),
  (11, (.if_icmp .le 11, 14, 22, 0, 0, 0)),
  (14, (.aload_n 3, 15, 0, 0, 0, 0)),
  (15, (.iload_n 0, 16, 0, 0, 0, 0)),
  (16, (.iload_n 1, 17, 0, 0, 0, 0)),
  (17, (.iload_n 2, 18, 0, 0, 0, 0)),
  (22, (.iload_n 0, 23, 0, 0, 0, 0)),
  (23, (.ireturn, 24, 0, 0, 0, 0))]
def am_r37 : List (Nat × am_R) := [(0, (.iload_n 2, 1, 0, 0, 0, 0)),
  (1, (.istore 4, 3, 0, 0, 0, 0)),
  (3, (.iload 4, 5, 0, 0, 0, 0)),
  (5, (.iload_n 3, 6, 0, 0, 0, 0)),
  (6, (.if_icmp .ge 22, 9, 28, 0, 0, 0)),
  (9, (.aload_n 0, 10, 0, 0, 0, 0)),
  (10, (.iload 4, 12, 0, 0, 0, 0)),
  (12, (.invokestatic 71, 15, 38, 2, 52, 0)),
  (15, (.iload_n 1, 16, 0, 0, 0, 0)),
  (16, (.if_icmp .ne 6, 19, 22, 0, 0, 0)),
  (19, (.iload 4, 21, 0, 0, 0, 0)),
  (21, (.ireturn, 22, 0, 0, 0, 0)),
  (22, (.iinc 4 1, 25, 0, 0, 0, 0)),
  (25, (.goto (-22), 28, 3, 0, 0, 0)),
  (28, (.iconst (-1), 29, 0, 0, 0, 0)),
  (29, (.ireturn, 30, 0, 0, 0, 0))]
def am_r38 : List (Nat × am_R) := [(3, (.ifCond .ne 25, 6, 28, 0, 0, 0)),
  (6, (.iload_n 1, 7, 0, 0, 0, 0)),
  (7, (.ifCond .lt 11, 10, 18, 0, 0, 0)),
  (10, (.iload_n 1, 11, 0, 0, 0, 0)),
  (11, (.aload_n 0, 12, 0, 0, 0, 0)),
  (12, (.invokestatic 48, 15, 34, 1, 48, 0)),
  (15, (.if_icmp .lt 13, 18, 28, 0, 0, 0)),
  (21, (.dup, 22, 0, 0, 0, 0)),
  (28, (.iload_n 1, 29, 0, 0, 0, 0)),
  (29, (.iconst 1, 30, 0, 0, 0, 0)),
  (30, (.ishl, 31, 0, 0, 0, 0)),
  (31, (.istore_n 1, 32, 0, 0, 0, 0)),
  (32, (.aload_n 0, 33, 0, 0, 0, 0)),
  (33, (.iload_n 1, 34, 0, 0, 0, 0)),
  (34, (.iinc 1 1, 37, 0, 0, 0, 0)),
  (37, (.baload, 38, 0, 0, 0, 0)),
  (38, (.sipush 255, 41, 0, 0, 0, 0)),
  (41, (.iand, 42, 0, 0, 0, 0)),
  (45, (.ishl, 46, 0, 0, 0, 0)),
  (46, (.aload_n 0, 47, 0, 0, 0, 0)),
  (47, (.iload_n 1, 48, 0, 0, 0, 0)),
  (48, (.baload, 49, 0, 0, 0, 0)),
  (49, (.sipush 255, 52, 0, 0, 0, 0)),
  (52, (.iand, 53, 0, 0, 0, 0)),
  (56, (.ishl, 57, 0, 0, 0, 0)),
  (57, (.ior, 58, 0, 0, 0, 0)),
  (58, (.i2c, 59, 0, 0, 0, 0)),
  (59, (.ireturn, 60, 0, 0, 0, 0))]
def am_r39 : List (Nat × am_R) := [(0, (.iload_n 1, 1, 0, 0, 0, 0)),
  (1, (.invokestatic 164, 4, 40, 1, 54, 0)),
  (4, (.ifCond .eq 65, 7, 69, 0, 0, 0)),
  (7, (.iload_n 1, 8, 0, 0, 0, 0)),
  (8, (.invokestatic 157, 11, 41, 1, 55, 0)),
  (11, (.istore 4, 13, 0, 0, 0, 0)),
  (13, (.iload_n 1, 14, 0, 0, 0, 0)),
  (14, (.invokestatic 161, 17, 42, 1, 56, 0)),
  (17, (.istore 5, 19, 0, 0, 0, 0)),
  (19, (.iload_n 2, 20, 0, 0, 0, 0)),
  (20, (.iload_n 3, 21, 0, 0, 0, 0)),
  (21, (.aload_n 0, 22, 0, 0, 0, 0)),
  (22, (.invokestatic 96, 25, 33, 3, 47, 0)),
  (25, (.iload_n 2, 26, 0, 0, 0, 0)),
  (26, (.istore 6, 28, 0, 0, 0, 0)),
  (28, (.iload 6, 30, 0, 0, 0, 0)),
  (30, (.iload_n 3, 31, 0, 0, 0, 0)),
  (31, (.iconst 1, 32, 0, 0, 0, 0)),
  (32, (.isub, 33, 0, 0, 0, 0)),
  (33, (.if_icmp .ge 36, 36, 69, 0, 0, 0)),
  (36, (.aload_n 0, 37, 0, 0, 0, 0)),
  (37, (.iload 6, 39, 0, 0, 0, 0)),
  (39, (.invokestatic 71, 42, 38, 2, 52, 0)),
  (42, (.iload 4, 44, 0, 0, 0, 0)),
  (44, (.if_icmp .ne 19, 47, 63, 0, 0, 0)),
  (47, (.aload_n 0, 48, 0, 0, 0, 0)),
  (48, (.iload 6, 50, 0, 0, 0, 0)),
  (50, (.iconst 1, 51, 0, 0, 0, 0)),
  (51, (.iadd, 52, 0, 0, 0, 0)),
  (52, (.invokestatic 71, 55, 38, 2, 52, 0)),
  (55, (.iload 5, 57, 0, 0, 0, 0)),
  (57, (.if_icmp .ne 6, 60, 63, 0, 0, 0)),
  (60, (.iload 6, 62, 0, 0, 0, 0)),
  (62, (.ireturn, 63, 0, 0, 0, 0)),
  (63, (.iinc 6 1, 66, 0, 0, 0, 0)),
  (66, (.goto (-38), 69, 28, 0, 0, 0)),
  (69, (.iconst (-1), 70, 0, 0, 0, 0)),
  (70, (.ireturn, 71, 0, 0, 0, 0))]
def am_inf_0 : List (List (Nat × am_R) × Nat × Option FieldType) := [(am_r0, 2, (Option.none : Option Jvm.ClassFile.FieldType)), ([], 1, (Option.none : Option Jvm.ClassFile.FieldType)), (am_r2, 1, (Option.none : Option Jvm.ClassFile.FieldType)), (am_r3, 2, (Option.none : Option Jvm.ClassFile.FieldType)), (am_r4, 2, (Option.none : Option Jvm.ClassFile.FieldType)), (am_r5, 2, (Option.none : Option Jvm.ClassFile.FieldType)), (am_r6, 1, (Option.none : Option Jvm.ClassFile.FieldType)), (am_r7, 1, (Option.none : Option Jvm.ClassFile.FieldType)), (am_r8, 1, (Option.none : Option Jvm.ClassFile.FieldType)), (am_r9, 1, (Option.none : Option Jvm.ClassFile.FieldType)), (am_r10, 2, (Option.none : Option Jvm.ClassFile.FieldType)), (am_r11, 1, (Option.none : Option Jvm.ClassFile.FieldType)), (am_r12, 7, (Option.some Jvm.ClassFile.FieldType.int)), (am_r13, 6, (Option.none : Option Jvm.ClassFile.FieldType)), (am_r14, 3, (Option.some Jvm.ClassFile.FieldType.int)), (am_r15, 4, (Option.some Jvm.ClassFile.FieldType.int)), (am_r16, 1, (Option.none : Option Jvm.ClassFile.FieldType)), (am_r17, 1, (Option.none : Option Jvm.ClassFile.FieldType)), (am_r18, 1, (Option.none : Option Jvm.ClassFile.FieldType)), (am_r19, 1, (Option.none : Option Jvm.ClassFile.FieldType)), (am_r20, 1, (Option.none : Option Jvm.ClassFile.FieldType)), (am_r21, 2, (Option.some Jvm.ClassFile.FieldType.int)), (am_r22, 3, (Option.some Jvm.ClassFile.FieldType.int)), (am_r23, 1, (Option.some Jvm.ClassFile.FieldType.boolean)), (am_r24, 1, (Option.some Jvm.ClassFile.FieldType.int)), (am_r25, 1, (Option.some Jvm.ClassFile.FieldType.byte)), (am_r26, 4, (Option.some Jvm.ClassFile.FieldType.int)), (am_r27, 1, (Option.some Jvm.ClassFile.FieldType.boolean)), (am_r28, 2, (Option.some Jvm.ClassFile.FieldType.int)), (am_r29, 2, (Option.some Jvm.ClassFile.FieldType.int)), (am_r30, 6, (Option.some Jvm.ClassFile.FieldType.int)), (am_r31, 4, (Option.some Jvm.ClassFile.FieldType.int)), (am_r32, 4, (Option.some Jvm.ClassFile.FieldType.int)), (am_r33, 3, (Option.none : Option Jvm.ClassFile.FieldType)), (am_r34, 1, (Option.some Jvm.ClassFile.FieldType.int)), (am_r35, 3, (Option.none : Option Jvm.ClassFile.FieldType)), (am_r36, 4, (Option.some Jvm.ClassFile.FieldType.int)), (am_r37, 5, (Option.some Jvm.ClassFile.FieldType.int)), (am_r38, 2, (Option.some Jvm.ClassFile.FieldType.char)), (am_r39, 7, (Option.some Jvm.ClassFile.FieldType.int))]
theorem am_ck_0_0 : ((am_mi_0.zip am_inf_0).take 10).all am_chk = true := by decide +kernel
theorem am_ck_0_1 : (((am_mi_0.zip am_inf_0).drop 10).take 10).all am_chk = true := by decide +kernel
theorem am_ck_0_2 : (((am_mi_0.zip am_inf_0).drop 20).take 10).all am_chk = true := by decide +kernel
theorem am_ck_0_3 : (((am_mi_0.zip am_inf_0).drop 30)).all am_chk = true := by decide +kernel
theorem am_ck_0 : (am_mi_0.zip am_inf_0).all am_chk = true := am_all_cut _ 10 _ am_ck_0_0 (am_all_cut _ 10 _ am_ck_0_1 (by
  rw [List.drop_drop]
  exact am_all_cut _ 10 _ am_ck_0_2 (by
    rw [List.drop_drop]
    exact am_ck_0_3)))
def am_r40 : List (Nat × am_R) := [(0, (.iload_n 0, 1, 0, 0, 0, 0)),
  (1, (.bipush 16, 3, 0, 0, 0, 0)),
  (3, (.iushr, 4, 0, 0, 0, 0)),
  (4, (.istore_n 1, 5, 0, 0, 0, 0)),
  (5, (.iload_n 1, 6, 0, 0, 0, 0)),
  (6, (.bipush 17, 8, 0, 0, 0, 0)),
  (8, (.if_icmp .ge 7, 11, 15, 0, 0, 0)),
  (11, (.iconst 1, 12, 0, 0, 0, 0)),
  (12, (.goto 4, 15, 16, 0, 0, 0)),
  (15, (.iconst 0, 16, 0, 0, 0, 0)),
  (16, (.ireturn, 17, 0, 0, 0, 0))]
def am_r41 : List (Nat × am_R) := [(0, (.iload_n 0, 1, 0, 0, 0, 0)),
  (1, (.bipush 10, 3, 0, 0, 0, 0)),
  (3, (.iushr, 4, 0, 0, 0, 0)),
  (4, (.ldc 110, 6, 0, 0, 1, 0)),
  (6, (.iadd, 7, 0, 0, 0, 0)),
  (7, (.i2c, 8, 0, 0, 0, 0)),
  (8, (.ireturn, 9, 0, 0, 0, 0))]
def am_r42 : List (Nat × am_R) := [(0, (.iload_n 0, 1, 0, 0, 0, 0)),
  (1, (.sipush 1023, 4, 0, 0, 0, 0)),
  (4, (.iand, 5, 0, 0, 0, 0)),
  (5, (.ldc 76, 7, 0, 0, 2, 0)),
  (7, (.iadd, 8, 0, 0, 0, 0)),
  (8, (.i2c, 9, 0, 0, 0, 0)),
  (9, (.ireturn, 10, 0, 0, 0, 0))]
def am_r43 : List (Nat × am_R) := [(0, (.aload_n 0, 1, 0, 0, 0, 0)),
  (1, (.getfield 9, 4, 0, 1, 20, 0)),
  (4, (.ldc 45, 6, 0, 1, 1, 0)),
  (6, (.invokevirtual 47, 9, 44, 1, 58, 7)),
  (9, (.ifCond .eq 9, 12, 18, 0, 0, 0)),
  (12, (.aload_n 0, 13, 0, 0, 0, 0)),
  (13, (.aload_n 1, 14, 0, 0, 0, 0)),
  (14, (.invokevirtual 51, 17, 51, 1, 67, 1)),
  (17, (.ireturn, 18, 0, 0, 0, 0)),
  (18, (.aload_n 0, 19, 0, 0, 0, 0)),
  (19, (.getfield 9, 22, 0, 1, 20, 0)),
  (22, (.ldc 54, 24, 0, 1, 8, 0)),
  (24, (.invokevirtual 47, 27, 44, 1, 58, 7)),
  (27, (.ifCond .eq 9, 30, 36, 0, 0, 0)),
  (30, (.aload_n 0, 31, 0, 0, 0, 0)),
  (31, (.aload_n 1, 32, 0, 0, 0, 0)),
  (32, (.invokevirtual 56, 35, 63, 1, 81, 1)),
  (35, (.ireturn, 36, 0, 0, 0, 0)),
  (36, (.aload_n 0, 37, 0, 0, 0, 0)),
  (37, (.getfield 9, 40, 0, 1, 20, 0)),
  (40, (.ldc 59, 42, 0, 1, 11, 0)),
  (42, (.invokevirtual 47, 45, 44, 1, 58, 7)),
  (45, (.ifCond .eq 9, 48, 54, 0, 0, 0)),
  (48, (.aload_n 0, 49, 0, 0, 0, 0)),
  (49, (.aload_n 1, 50, 0, 0, 0, 0)),
  (50, (.invokevirtual 61, 53, 64, 1, 82, 1)),
  (53, (.ireturn, 54, 0, 0, 0, 0)),
  (54, (.aload_n 0, 55, 0, 0, 0, 0)),
  (55, (.getfield 9, 58, 0, 1, 20, 0)),
  (58, (.ldc 64, 60, 0, 1, 12, 0)),
  (60, (.invokevirtual 47, 63, 44, 1, 58, 7)),
  (63, (.ifCond .eq 9, 66, 72, 0, 0, 0)),
  (66, (.aload_n 0, 67, 0, 0, 0, 0)),
  (67, (.aload_n 1, 68, 0, 0, 0, 0)),
  (68, (.invokevirtual 66, 71, 66, 1, 83, 1)),
  (71, (.ireturn, 72, 0, 0, 0, 0)),
  (72, (.aload_n 0, 73, 0, 0, 0, 0)),
  (73, (.getfield 9, 76, 0, 1, 20, 0)),
  (76, (.ldc 69, 78, 0, 1, 13, 0)),
  (78, (.invokevirtual 47, 81, 44, 1, 58, 7)),
  (81, (.ifCond .eq 12, 84, 93, 0, 0, 0)),
  (84, (.aload_n 0, 85, 0, 0, 0, 0)),
  (85, (.getfield 20, 88, 1, 1, 21, 0)),
  (88, (.aload_n 1, 89, 0, 0, 0, 0)),
  (89, (.invokevirtual 71, 92, 70, 1, 87, 4)),
  (92, (.ireturn, 93, 0, 0, 0, 0)),
  (93, (.aload_n 0, 94, 0, 0, 0, 0)),
  (94, (.getfield 9, 97, 0, 1, 20, 0)),
  (97, (.iconst 1, 98, 0, 0, 0, 0)),
  (98, (.invokevirtual 74, 101, 52, 1, 68, 7)),
  (101, (.ireturn, 102, 0, 0, 0, 0))]
def am_r44 : List (Nat × am_R) := [(0, (.aload_n 0, 1, 0, 0, 0, 0)),
  (1, (.getfield 33, 4, 2, 7, 5, 0)),
  (4, (.iconst 1, 5, 0, 0, 0, 0)),
  (5, (.if_icmp .eq 5, 8, 10, 0, 0, 0)),
  (8, (.iconst 0, 9, 0, 0, 0, 0)),
  (9, (.ireturn, 10, 0, 0, 0, 0)),
  (10, (.lconst 0, 11, 0, 0, 0, 0)),
  (11, (.lstore_n 2, 12, 0, 0, 0, 0)),
  (12, (.iconst 0, 13, 0, 0, 0, 0)),
  (13, (.istore 4, 15, 0, 0, 0, 0)),
  (15, (.iload 4, 17, 0, 0, 0, 0)),
  (17, (.aload_n 1, 18, 0, 0, 0, 0)),
  (18, (.invokevirtual 57, 21, 24, 0, 59, 20)),
  (21, (.if_icmp .ge 22, 24, 43, 0, 0, 0)),
  (24, (.lload_n 2, 25, 0, 0, 0, 0)),
  (25, (.bipush 8, 27, 0, 0, 0, 0)),
  (27, (.lshl, 28, 0, 0, 0, 0)),
  (28, (.aload_n 1, 29, 0, 0, 0, 0)),
  (29, (.iload 4, 31, 0, 0, 0, 0)),
  (31, (.invokevirtual 60, 34, 45, 1, 60, 20)),
  (34, (.i2l, 35, 0, 0, 0, 0)),
  (35, (.lor, 36, 0, 0, 0, 0)),
  (36, (.lstore_n 2, 37, 0, 0, 0, 0)),
  (37, (.iinc 4 1, 40, 0, 0, 0, 0)),
  (40, (.goto (-25), 43, 15, 0, 0, 0)),
  (43, (.aload_n 0, 44, 0, 0, 0, 0)),
  (44, (.getfield 50, 47, 5, 7, 10, 0)),
  (47, (.lload_n 2, 48, 0, 0, 0, 0)),
  (48, (.lcmp, 49, 0, 0, 0, 0)),
  (49, (.ifCond .ne 7, 52, 56, 0, 0, 0)),
  (52, (.iconst 1, 53, 0, 0, 0, 0)),
  (53, (.goto 4, 56, 57, 0, 0, 0)),
  (56, (.iconst 0, 57, 0, 0, 0, 0)),
  (57, (.ireturn, 58, 0, 0, 0, 0))]
def am_r45 : List (Nat × am_R) := [(0, (.aload_n 0, 1, 0, 0, 0, 0)),
  (1, (.invokevirtual 492, 4, 23, 0, 35, 20)),
  (4, (.ifCond .eq 12, 7, 16, 0, 0, 0)),
  (7, (.aload_n 0, 8, 0, 0, 0, 0)),
  (8, (.getfield 9, 11, 0, 20, 159, 0)),
  (11, (.iload_n 1, 12, 0, 0, 0, 0)),
  (12, (.invokestatic 495, 15, 46, 2, 61, 0)),
  (15, (.ireturn, 16, 0, 0, 0, 0)),
  (16, (.aload_n 0, 17, 0, 0, 0, 0)),
  (17, (.getfield 9, 20, 0, 20, 159, 0)),
  (20, (.iload_n 1, 21, 0, 0, 0, 0)),
  (21, (.invokestatic 498, 24, 49, 2, 64, 0)),
  (24, (.ireturn, 25, 0, 0, 0, 0))]
def am_r46 : List (Nat × am_R) := [(0, (.iload_n 1, 1, 0, 0, 0, 0)),
  (1, (.aload_n 0, 2, 0, 0, 0, 0)),
  (2, (.arraylength, 3, 0, 0, 0, 0)),
  (3, (.invokestatic 9, 6, 47, 2, 62, 0)),
  (6, (.aload_n 0, 7, 0, 0, 0, 0)),
  (7, (.iload_n 1, 8, 0, 0, 0, 0)),
  (8, (.baload, 9, 0, 0, 0, 0)),
  (9, (.sipush 255, 12, 0, 0, 0, 0)),
  (12, (.iand, 13, 0, 0, 0, 0)),
  (13, (.i2c, 14, 0, 0, 0, 0)),
  (14, (.ireturn, 15, 0, 0, 0, 0))]
def am_r47 : List (Nat × am_R) := [(0, (.iload_n 0, 1, 0, 0, 0, 0)),
  (1, (.iload_n 1, 2, 0, 0, 0, 0)),
  (2, (.iconst 0, 5, 0, 0, 0, 0)),
  (5, (.invokestatic 1059, 8, 48, 3, 63, 0)),
  (8, (.pop, 9, 0, 0, 0, 0)),
  (9, (.return_, 10, 0, 0, 0, 0))]
def am_r48 : List (Nat × am_R) := [(0, (.iload_n 0, 1, 0, 0, 0, 0)),
  (1, (.ifCond .lt 8, 4, 9, 0, 0, 0)),
  (4, (.iload_n 0, 5, 0, 0, 0, 0)),
  (5, (.iload_n 1, 6, 0, 0, 0, 0)),
  (6, (.if_icmp .lt 10, 9, 16, 0, 0, 0)),
  (9, (.aload_n 2, 10, 0, 0, 0, 0)),
  (10, (.iload_n 0, 11, 0, 0, 0, 0)),
  (11, (.iload_n 1, 12, 0, 0, 0, 0)),
  (16, (.iload_n 0, 17, 0, 0, 0, 0)),
  (17, (.ireturn, 18, 0, 0, 0, 0))]
def am_r49 : List (Nat × am_R) := [(0, (.iload_n 1, 1, 0, 0, 0, 0)),
  (1, (.aload_n 0, 2, 0, 0, 0, 0)),
  (2, (.invokestatic 67, 5, 50, 2, 65, 0)),
  (5, (.aload_n 0, 6, 0, 0, 0, 0)),
  (6, (.iload_n 1, 7, 0, 0, 0, 0)),
  (7, (.invokestatic 71, 10, 38, 2, 52, 0)),
  (10, (.ireturn, 11, 0, 0, 0, 0))]
def am_r50 : List (Nat × am_R) := [(0, (.iload_n 0, 1, 0, 0, 0, 0)),
  (1, (.aload_n 1, 2, 0, 0, 0, 0)),
  (2, (.invokestatic 48, 5, 34, 1, 48, 0)),
  (5, (.invokestatic 414, 8, 47, 2, 66, 0)),
  (8, (.return_, 9, 0, 0, 0, 0))]
def am_r51 : List (Nat × am_R) := [(0, (.aload_n 1, 1, 0, 0, 0, 0)),
  (1, (.getfield 93, 4, 0, 0, 28, 0)),
  (4, (.istore_n 2, 5, 0, 0, 0, 0)),
  (5, (.iload_n 2, 6, 0, 0, 0, 0)),
  (6, (.bipush 6, 8, 0, 0, 0, 0)),
  (8, (.if_icmp .lt 12, 11, 20, 0, 0, 0)),
  (11, (.aload_n 0, 12, 0, 0, 0, 0)),
  (12, (.getfield 9, 15, 0, 1, 20, 0)),
  (15, (.iconst 5, 16, 0, 0, 0, 0)),
  (16, (.invokevirtual 74, 19, 52, 1, 68, 7)),
  (19, (.ireturn, 20, 0, 0, 0, 0)),
  (20, (.aload_n 0, 21, 0, 0, 0, 0)),
  (21, (.getfield 9, 24, 0, 1, 20, 0)),
  (24, (.invokevirtual 96, 27, 18, 0, 69, 7)),
  (27, (.aload_n 0, 28, 0, 0, 0, 0)),
  (28, (.aload_n 1, 29, 0, 0, 0, 0)),
  (29, (.invokevirtual 99, 32, 53, 1, 70, 1)),
  (32, (.ifCond .ne 5, 35, 37, 0, 0, 0)),
  (35, (.iconst 0, 36, 0, 0, 0, 0)),
  (36, (.ireturn, 37, 0, 0, 0, 0)),
  (37, (.aload_n 1, 38, 0, 0, 0, 0)),
  (38, (.getfield 102, 41, 1, 0, 31, 0)),
  (41, (.iload_n 2, 42, 0, 0, 0, 0)),
  (42, (.aload_n 0, 43, 0, 0, 0, 0)),
  (43, (.getfield 9, 46, 0, 1, 20, 0)),
  (46, (.getfield 82, 49, 5, 7, 9, 0)),
  (49, (.lastore, 50, 0, 0, 0, 0)),
  (50, (.aload_n 0, 51, 0, 0, 0, 0)),
  (51, (.getfield 9, 54, 0, 1, 20, 0)),
  (54, (.invokevirtual 96, 57, 18, 0, 69, 7)),
  (57, (.aload_n 0, 58, 0, 0, 0, 0)),
  (58, (.invokevirtual 106, 61, 57, 0, 74, 1)),
  (61, (.istore_n 3, 62, 0, 0, 0, 0)),
  (62, (.iload_n 3, 63, 0, 0, 0, 0)),
  (63, (.iconst (-1), 64, 0, 0, 0, 0)),
  (64, (.if_icmp .ne 12, 67, 76, 0, 0, 0)),
  (67, (.aload_n 0, 68, 0, 0, 0, 0)),
  (68, (.getfield 9, 71, 0, 1, 20, 0)),
  (71, (.iconst 1, 72, 0, 0, 0, 0)),
  (72, (.invokevirtual 74, 75, 52, 1, 68, 7)),
  (75, (.ireturn, 76, 0, 0, 0, 0)),
  (76, (.aload_n 1, 77, 0, 0, 0, 0)),
  (77, (.getfield 110, 80, 2, 0, 33, 0)),
  (80, (.iload_n 2, 81, 0, 0, 0, 0)),
  (81, (.iload_n 3, 82, 0, 0, 0, 0)),
  (82, (.iastore, 83, 0, 0, 0, 0)),
  (83, (.aload_n 0, 84, 0, 0, 0, 0)),
  (84, (.getfield 9, 87, 0, 1, 20, 0)),
  (87, (.invokevirtual 96, 90, 18, 0, 69, 7)),
  (90, (.aload_n 0, 91, 0, 0, 0, 0)),
  (91, (.getfield 9, 94, 0, 1, 20, 0)),
  (94, (.ldc 114, 96, 0, 1, 7, 0)),
  (96, (.invokevirtual 116, 99, 58, 1, 75, 7)),
  (99, (.ifCond .eq 15, 102, 114, 0, 0, 0)),
  (102, (.aload_n 0, 103, 0, 0, 0, 0)),
  (103, (.getfield 9, 106, 0, 1, 20, 0)),
  (106, (.iconst 0, 107, 0, 0, 0, 0)),
  (107, (.iconst 4, 108, 0, 0, 0, 0)),
  (108, (.invokevirtual 119, 111, 59, 2, 78, 7)),
  (111, (.ifCond .ne 5, 114, 116, 0, 0, 0)),
  (114, (.iconst 0, 115, 0, 0, 0, 0)),
  (115, (.ireturn, 116, 0, 0, 0, 0)),
  (116, (.aload_n 1, 117, 0, 0, 0, 0)),
  (117, (.getfield 123, 120, 3, 0, 37, 0)),
  (120, (.iload_n 2, 121, 0, 0, 0, 0)),
  (121, (.aload_n 0, 122, 0, 0, 0, 0)),
  (122, (.getfield 9, 125, 0, 1, 20, 0)),
  (125, (.getfield 126, 128, 6, 7, 12, 0)),
  (128, (.iastore, 129, 0, 0, 0, 0)),
  (129, (.aload_n 0, 130, 0, 0, 0, 0)),
  (130, (.getfield 9, 133, 0, 1, 20, 0)),
  (133, (.invokevirtual 96, 136, 18, 0, 69, 7)),
  (136, (.aload_n 1, 137, 0, 0, 0, 0)),
  (137, (.dup, 138, 0, 0, 0, 0)),
  (138, (.getfield 93, 141, 0, 0, 28, 0)),
  (141, (.iconst 1, 142, 0, 0, 0, 0)),
  (142, (.iadd, 143, 0, 0, 0, 0)),
  (143, (.putfield 93, 146, 0, 0, 28, 0)),
  (146, (.aload_n 0, 147, 0, 0, 0, 0)),
  (147, (.getfield 9, 150, 0, 1, 20, 0)),
  (150, (.bipush 59, 152, 0, 0, 0, 0)),
  (152, (.invokevirtual 129, 155, 61, 1, 79, 7)),
  (155, (.ireturn, 156, 0, 0, 0, 0))]
def am_r52 : List (Nat × am_R) := [(0, (.aload_n 0, 1, 0, 0, 0, 0)),
  (1, (.iload_n 1, 2, 0, 0, 0, 0)),
  (2, (.bipush 16, 4, 0, 0, 0, 0)),
  (4, (.aload_n 0, 5, 0, 0, 0, 0)),
  (5, (.getfield 30, 8, 3, 7, 7, 0)),
  (8, (.imul, 9, 0, 0, 0, 0)),
  (9, (.iadd, 10, 0, 0, 0, 0)),
  (10, (.putfield 21, 13, 7, 7, 18, 0)),
  (13, (.iconst 0, 14, 0, 0, 0, 0)),
  (14, (.ireturn, 15, 0, 0, 0, 0))]
def am_r53 : List (Nat × am_R) := [(0, (.aload_n 0, 1, 0, 0, 0, 0)),
  (1, (.getfield 9, 4, 0, 1, 20, 0)),
  (4, (.invokevirtual 78, 7, 54, 0, 71, 7)),
  (7, (.ifCond .ne 12, 10, 19, 0, 0, 0)),
  (10, (.aload_n 0, 11, 0, 0, 0, 0)),
  (11, (.getfield 9, 14, 0, 1, 20, 0)),
  (14, (.iconst 1, 15, 0, 0, 0, 0)),
  (15, (.invokevirtual 74, 18, 52, 1, 68, 7)),
  (18, (.ireturn, 19, 0, 0, 0, 0)),
  (19, (.aload_n 1, 20, 0, 0, 0, 0)),
  (20, (.aload_n 0, 21, 0, 0, 0, 0)),
  (21, (.getfield 9, 24, 0, 1, 20, 0)),
  (24, (.getfield 82, 27, 5, 7, 9, 0)),
  (27, (.invokevirtual 86, 30, 55, 1, 72, 0)),
  (30, (.iconst (-1), 31, 0, 0, 0, 0)),
  (31, (.if_icmp .ne 18, 34, 49, 0, 0, 0)),
  (34, (.aload_n 1, 35, 0, 0, 0, 0)),
  (35, (.aload_n 0, 36, 0, 0, 0, 0)),
  (36, (.getfield 9, 39, 0, 1, 20, 0)),
  (39, (.getfield 82, 42, 5, 7, 9, 0)),
  (42, (.invokevirtual 90, 45, 56, 1, 73, 0)),
  (45, (.iconst (-1), 46, 0, 0, 0, 0)),
  (46, (.if_icmp .eq 7, 49, 53, 0, 0, 0)),
  (49, (.iconst 1, 50, 0, 0, 0, 0)),
  (50, (.goto 4, 53, 54, 0, 0, 0)),
  (53, (.iconst 0, 54, 0, 0, 0, 0)),
  (54, (.istore_n 2, 55, 0, 0, 0, 0)),
  (55, (.iload_n 2, 56, 0, 0, 0, 0)),
  (56, (.ifCond .eq 14, 59, 70, 0, 0, 0)),
  (59, (.aload_n 0, 60, 0, 0, 0, 0)),
  (60, (.getfield 9, 63, 0, 1, 20, 0)),
  (63, (.iconst 3, 64, 0, 0, 0, 0)),
  (64, (.invokevirtual 74, 67, 52, 1, 68, 7)),
  (67, (.ifCond .eq 7, 70, 74, 0, 0, 0)),
  (70, (.iconst 1, 71, 0, 0, 0, 0)),
  (71, (.goto 4, 74, 75, 0, 0, 0)),
  (74, (.iconst 0, 75, 0, 0, 0, 0)),
  (75, (.ireturn, 76, 0, 0, 0, 0))]
def am_r54 : List (Nat × am_R) := [(0, (.aload_n 0, 1, 0, 0, 0, 0)),
  (1, (.getfield 33, 4, 2, 7, 5, 0)),
  (4, (.iconst 1, 5, 0, 0, 0, 0)),
  (5, (.if_icmp .eq 5, 8, 10, 0, 0, 0)),
  (8, (.iconst 0, 9, 0, 0, 0, 0)),
  (9, (.ireturn, 10, 0, 0, 0, 0)),
  (10, (.lconst 0, 11, 0, 0, 0, 0)),
  (11, (.lstore_n 1, 12, 0, 0, 0, 0)),
  (12, (.iconst 0, 13, 0, 0, 0, 0)),
  (13, (.istore_n 3, 14, 0, 0, 0, 0)),
  (14, (.iload_n 3, 15, 0, 0, 0, 0)),
  (15, (.ldc 64, 17, 0, 1, 2, 0)),
  (17, (.invokevirtual 57, 20, 24, 0, 59, 20)),
  (20, (.if_icmp .ge 49, 23, 69, 0, 0, 0)),
  (23, (.ldc 64, 25, 0, 1, 2, 0)),
  (25, (.iload_n 3, 26, 0, 0, 0, 0)),
  (26, (.invokevirtual 60, 29, 45, 1, 60, 20)),
  (29, (.bipush 32, 31, 0, 0, 0, 0)),
  (31, (.if_icmp .eq 19, 34, 50, 0, 0, 0)),
  (34, (.lload_n 1, 35, 0, 0, 0, 0)),
  (35, (.bipush 8, 37, 0, 0, 0, 0)),
  (37, (.lshl, 38, 0, 0, 0, 0)),
  (38, (.ldc 64, 40, 0, 1, 2, 0)),
  (40, (.iload_n 3, 41, 0, 0, 0, 0)),
  (41, (.invokevirtual 60, 44, 45, 1, 60, 20)),
  (44, (.i2l, 45, 0, 0, 0, 0)),
  (45, (.lor, 46, 0, 0, 0, 0)),
  (46, (.lstore_n 1, 47, 0, 0, 0, 0)),
  (47, (.goto 16, 50, 63, 0, 0, 0)),
  (50, (.lload_n 1, 51, 0, 0, 0, 0)),
  (51, (.aload_n 0, 52, 0, 0, 0, 0)),
  (52, (.getfield 50, 55, 5, 7, 10, 0)),
  (55, (.lcmp, 56, 0, 0, 0, 0)),
  (56, (.ifCond .ne 5, 59, 61, 0, 0, 0)),
  (59, (.iconst 0, 60, 0, 0, 0, 0)),
  (60, (.ireturn, 61, 0, 0, 0, 0)),
  (61, (.lconst 0, 62, 0, 0, 0, 0)),
  (62, (.lstore_n 1, 63, 0, 0, 0, 0)),
  (63, (.iinc 3 1, 66, 0, 0, 0, 0)),
  (66, (.goto (-52), 69, 14, 0, 0, 0)),
  (69, (.iconst 1, 70, 0, 0, 0, 0)),
  (70, (.ireturn, 71, 0, 0, 0, 0))]
def am_r55 : List (Nat × am_R) := [(0, (.iconst 0, 1, 0, 0, 0, 0)),
  (1, (.istore_n 3, 2, 0, 0, 0, 0)),
  (2, (.iload_n 3, 3, 0, 0, 0, 0)),
  (3, (.aload_n 0, 4, 0, 0, 0, 0)),
  (4, (.getfield 41, 7, 0, 0, 27, 0)),
  (7, (.if_icmp .ge 22, 10, 29, 0, 0, 0)),
  (10, (.aload_n 0, 11, 0, 0, 0, 0)),
  (11, (.getfield 9, 14, 1, 0, 30, 0)),
  (14, (.iload_n 3, 15, 0, 0, 0, 0)),
  (15, (.laload, 16, 0, 0, 0, 0)),
  (16, (.lload_n 1, 17, 0, 0, 0, 0)),
  (17, (.lcmp, 18, 0, 0, 0, 0)),
  (18, (.ifCond .ne 5, 21, 23, 0, 0, 0)),
  (21, (.iload_n 3, 22, 0, 0, 0, 0)),
  (22, (.ireturn, 23, 0, 0, 0, 0)),
  (23, (.iinc 3 1, 26, 0, 0, 0, 0)),
  (26, (.goto (-24), 29, 2, 0, 0, 0)),
  (29, (.iconst (-1), 30, 0, 0, 0, 0)),
  (30, (.ireturn, 31, 0, 0, 0, 0))]
def am_r56 : List (Nat × am_R) := [(0, (.iconst 0, 1, 0, 0, 0, 0)),
  (1, (.istore_n 3, 2, 0, 0, 0, 0)),
  (2, (.iload_n 3, 3, 0, 0, 0, 0)),
  (3, (.aload_n 0, 4, 0, 0, 0, 0)),
  (4, (.getfield 45, 7, 4, 0, 38, 0)),
  (7, (.if_icmp .ge 22, 10, 29, 0, 0, 0)),
  (10, (.aload_n 0, 11, 0, 0, 0, 0)),
  (11, (.getfield 22, 14, 5, 0, 41, 0)),
  (14, (.iload_n 3, 15, 0, 0, 0, 0)),
  (15, (.laload, 16, 0, 0, 0, 0)),
  (16, (.lload_n 1, 17, 0, 0, 0, 0)),
  (17, (.lcmp, 18, 0, 0, 0, 0)),
  (18, (.ifCond .ne 5, 21, 23, 0, 0, 0)),
  (21, (.iload_n 3, 22, 0, 0, 0, 0)),
  (22, (.ireturn, 23, 0, 0, 0, 0)),
  (23, (.iinc 3 1, 26, 0, 0, 0, 0)),
  (26, (.goto (-24), 29, 2, 0, 0, 0)),
  (29, (.iconst (-1), 30, 0, 0, 0, 0)),
  (30, (.ireturn, 31, 0, 0, 0, 0))]
def am_r57 : List (Nat × am_R) := [(0, (.aload_n 0, 1, 0, 0, 0, 0)),
  (1, (.getfield 9, 4, 0, 1, 20, 0)),
  (4, (.ldc 133, 6, 0, 1, 3, 0)),
  (6, (.invokevirtual 47, 9, 44, 1, 58, 7)),
  (9, (.ifCond .eq 5, 12, 14, 0, 0, 0)),
  (12, (.iconst 0, 13, 0, 0, 0, 0)),
  (13, (.ireturn, 14, 0, 0, 0, 0)),
  (14, (.aload_n 0, 15, 0, 0, 0, 0)),
  (15, (.getfield 9, 18, 0, 1, 20, 0)),
  (18, (.ldc 135, 20, 0, 1, 4, 0)),
  (20, (.invokevirtual 47, 23, 44, 1, 58, 7)),
  (23, (.ifCond .eq 5, 26, 28, 0, 0, 0)),
  (26, (.iconst 1, 27, 0, 0, 0, 0)),
  (27, (.ireturn, 28, 0, 0, 0, 0)),
  (28, (.aload_n 0, 29, 0, 0, 0, 0)),
  (29, (.getfield 9, 32, 0, 1, 20, 0)),
  (32, (.ldc 137, 34, 0, 1, 5, 0)),
  (34, (.invokevirtual 47, 37, 44, 1, 58, 7)),
  (37, (.ifCond .eq 5, 40, 42, 0, 0, 0)),
  (40, (.iconst 2, 41, 0, 0, 0, 0)),
  (41, (.ireturn, 42, 0, 0, 0, 0)),
  (42, (.aload_n 0, 43, 0, 0, 0, 0)),
  (43, (.getfield 9, 46, 0, 1, 20, 0)),
  (46, (.ldc 139, 48, 0, 1, 6, 0)),
  (48, (.invokevirtual 47, 51, 44, 1, 58, 7)),
  (51, (.ifCond .eq 7, 54, 58, 0, 0, 0)),
  (54, (.iconst 3, 55, 0, 0, 0, 0)),
  (55, (.goto 4, 58, 59, 0, 0, 0)),
  (58, (.iconst (-1), 59, 0, 0, 0, 0)),
  (59, (.ireturn, 60, 0, 0, 0, 0))]
def am_r58 : List (Nat × am_R) := [(0, (.aload_n 0, 1, 0, 0, 0, 0)),
  (1, (.aload_n 1, 2, 0, 0, 0, 0)),
  (2, (.invokevirtual 66, 5, 44, 1, 76, 7)),
  (5, (.ifCond .ne 9, 8, 14, 0, 0, 0)),
  (8, (.aload_n 0, 9, 0, 0, 0, 0)),
  (9, (.iconst 1, 10, 0, 0, 0, 0)),
  (10, (.invokevirtual 70, 13, 52, 1, 77, 7)),
  (13, (.ireturn, 14, 0, 0, 0, 0)),
  (14, (.aload_n 0, 15, 0, 0, 0, 0)),
  (15, (.invokevirtual 27, 18, 18, 0, 30, 7)),
  (18, (.iconst 1, 19, 0, 0, 0, 0)),
  (19, (.ireturn, 20, 0, 0, 0, 0))]
def am_r59 : List (Nat × am_R) := [(0, (.aload_n 0, 1, 0, 0, 0, 0)),
  (1, (.getfield 33, 4, 2, 7, 5, 0)),
  (4, (.iconst 2, 5, 0, 0, 0, 0)),
  (5, (.if_icmp .eq 9, 8, 14, 0, 0, 0)),
  (8, (.aload_n 0, 9, 0, 0, 0, 0)),
  (9, (.iconst 1, 10, 0, 0, 0, 0)),
  (10, (.invokevirtual 70, 13, 52, 1, 77, 7)),
  (13, (.ireturn, 14, 0, 0, 0, 0)),
  (14, (.aload_n 0, 15, 0, 0, 0, 0)),
  (15, (.getfield 54, 18, 6, 7, 13, 0)),
  (18, (.iload_n 1, 19, 0, 0, 0, 0)),
  (19, (.iload_n 2, 20, 0, 0, 0, 0)),
  (20, (.invokestatic 78, 23, 60, 3, 0, 1)),
  (23, (.ifCond .ne 11, 26, 34, 0, 0, 0)),
  (26, (.aload_n 0, 27, 0, 0, 0, 0)),
  (27, (.iconst 4, 28, 0, 0, 0, 0)),
  (28, (.invokevirtual 70, 31, 52, 1, 77, 7)),
  (31, (.ifCond .eq 7, 34, 38, 0, 0, 0)),
  (34, (.iconst 1, 35, 0, 0, 0, 0)),
  (35, (.goto 4, 38, 39, 0, 0, 0)),
  (38, (.iconst 0, 39, 0, 0, 0, 0)),
  (39, (.ireturn, 40, 0, 0, 0, 0))]
def am_r60 : List (Nat × am_R) := [(0, (.iload_n 0, 1, 0, 0, 0, 0)),
  (1, (.iload_n 1, 2, 0, 0, 0, 0)),
  (2, (.if_icmp .lt 12, 5, 14, 0, 0, 0)),
  (5, (.iload_n 0, 6, 0, 0, 0, 0)),
  (6, (.iload_n 2, 7, 0, 0, 0, 0)),
  (7, (.if_icmp .gt 7, 10, 14, 0, 0, 0)),
  (10, (.iconst 1, 11, 0, 0, 0, 0)),
  (11, (.goto 4, 14, 15, 0, 0, 0)),
  (14, (.iconst 0, 15, 0, 0, 0, 0)),
  (15, (.ireturn, 16, 0, 0, 0, 0))]
def am_r61 : List (Nat × am_R) := [(0, (.aload_n 0, 1, 0, 0, 0, 0)),
  (1, (.iload_n 1, 2, 0, 0, 0, 0)),
  (2, (.invokevirtual 74, 5, 62, 1, 80, 7)),
  (5, (.ifCond .ne 9, 8, 14, 0, 0, 0)),
  (8, (.aload_n 0, 9, 0, 0, 0, 0)),
  (9, (.iconst 1, 10, 0, 0, 0, 0)),
  (10, (.invokevirtual 70, 13, 52, 1, 77, 7)),
  (13, (.ireturn, 14, 0, 0, 0, 0)),
  (14, (.aload_n 0, 15, 0, 0, 0, 0)),
  (15, (.invokevirtual 27, 18, 18, 0, 30, 7)),
  (18, (.iconst 1, 19, 0, 0, 0, 0)),
  (19, (.ireturn, 20, 0, 0, 0, 0))]
def am_r62 : List (Nat × am_R) := [(0, (.aload_n 0, 1, 0, 0, 0, 0)),
  (1, (.getfield 33, 4, 2, 7, 5, 0)),
  (4, (.iconst 3, 5, 0, 0, 0, 0)),
  (5, (.if_icmp .ne 20, 8, 25, 0, 0, 0)),
  (8, (.aload_n 0, 9, 0, 0, 0, 0)),
  (9, (.getfield 9, 12, 0, 7, 0, 0)),
  (12, (.aload_n 0, 13, 0, 0, 0, 0)),
  (13, (.getfield 30, 16, 3, 7, 7, 0)),
  (16, (.caload, 17, 0, 0, 0, 0)),
  (17, (.iload_n 1, 18, 0, 0, 0, 0)),
  (18, (.if_icmp .ne 7, 21, 25, 0, 0, 0)),
  (21, (.iconst 1, 22, 0, 0, 0, 0)),
  (22, (.goto 4, 25, 26, 0, 0, 0)),
  (25, (.iconst 0, 26, 0, 0, 0, 0)),
  (26, (.ireturn, 27, 0, 0, 0, 0))]
def am_r63 : List (Nat × am_R) := [(0, (.aload_n 1, 1, 0, 0, 0, 0)),
  (1, (.getfield 141, 4, 4, 0, 39, 0)),
  (4, (.istore_n 2, 5, 0, 0, 0, 0)),
  (5, (.iload_n 2, 6, 0, 0, 0, 0)),
  (6, (.iconst 5, 7, 0, 0, 0, 0)),
  (7, (.if_icmp .lt 12, 10, 19, 0, 0, 0)),
  (10, (.aload_n 0, 11, 0, 0, 0, 0)),
  (11, (.getfield 9, 14, 0, 1, 20, 0)),
  (14, (.iconst 5, 15, 0, 0, 0, 0)),
  (15, (.invokevirtual 74, 18, 52, 1, 68, 7)),
  (18, (.ireturn, 19, 0, 0, 0, 0)),
  (19, (.aload_n 0, 20, 0, 0, 0, 0)),
  (20, (.getfield 9, 23, 0, 1, 20, 0)),
  (23, (.invokevirtual 96, 26, 18, 0, 69, 7)),
  (26, (.aload_n 0, 27, 0, 0, 0, 0)),
  (27, (.aload_n 1, 28, 0, 0, 0, 0)),
  (28, (.invokevirtual 99, 31, 53, 1, 70, 1)),
  (31, (.ifCond .ne 5, 34, 36, 0, 0, 0)),
  (34, (.iconst 0, 35, 0, 0, 0, 0)),
  (35, (.ireturn, 36, 0, 0, 0, 0)),
  (36, (.aload_n 1, 37, 0, 0, 0, 0)),
  (37, (.getfield 144, 40, 5, 0, 42, 0)),
  (40, (.iload_n 2, 41, 0, 0, 0, 0)),
  (41, (.aload_n 0, 42, 0, 0, 0, 0)),
  (42, (.getfield 9, 45, 0, 1, 20, 0)),
  (45, (.getfield 82, 48, 5, 7, 9, 0)),
  (48, (.lastore, 49, 0, 0, 0, 0)),
  (49, (.aload_n 0, 50, 0, 0, 0, 0)),
  (50, (.getfield 9, 53, 0, 1, 20, 0)),
  (53, (.invokevirtual 96, 56, 18, 0, 69, 7)),
  (56, (.aload_n 0, 57, 0, 0, 0, 0)),
  (57, (.getfield 9, 60, 0, 1, 20, 0)),
  (60, (.ldc 147, 62, 0, 1, 9, 0)),
  (62, (.invokevirtual 116, 65, 58, 1, 75, 7)),
  (65, (.ifCond .eq 16, 68, 81, 0, 0, 0)),
  (68, (.aload_n 0, 69, 0, 0, 0, 0)),
  (69, (.getfield 9, 72, 0, 1, 20, 0)),
  (72, (.iconst 0, 73, 0, 0, 0, 0)),
  (73, (.bipush 6, 75, 0, 0, 0, 0)),
  (75, (.invokevirtual 119, 78, 59, 2, 78, 7)),
  (78, (.ifCond .ne 5, 81, 83, 0, 0, 0)),
  (81, (.iconst 0, 82, 0, 0, 0, 0)),
  (82, (.ireturn, 83, 0, 0, 0, 0)),
  (83, (.aload_n 1, 84, 0, 0, 0, 0)),
  (84, (.getfield 149, 87, 6, 0, 45, 0)),
  (87, (.iload_n 2, 88, 0, 0, 0, 0)),
  (88, (.aload_n 0, 89, 0, 0, 0, 0)),
  (89, (.getfield 9, 92, 0, 1, 20, 0)),
  (92, (.getfield 126, 95, 6, 7, 12, 0)),
  (95, (.iastore, 96, 0, 0, 0, 0)),
  (96, (.aload_n 0, 97, 0, 0, 0, 0)),
  (97, (.getfield 9, 100, 0, 1, 20, 0)),
  (100, (.invokevirtual 96, 103, 18, 0, 69, 7)),
  (103, (.aload_n 0, 104, 0, 0, 0, 0)),
  (104, (.getfield 9, 107, 0, 1, 20, 0)),
  (107, (.ldc 152, 109, 0, 1, 10, 0)),
  (109, (.invokevirtual 116, 112, 58, 1, 75, 7)),
  (112, (.ifCond .eq 16, 115, 128, 0, 0, 0)),
  (115, (.aload_n 0, 116, 0, 0, 0, 0)),
  (116, (.getfield 9, 119, 0, 1, 20, 0)),
  (119, (.iconst 1, 120, 0, 0, 0, 0)),
  (120, (.bipush 6, 122, 0, 0, 0, 0)),
  (122, (.invokevirtual 119, 125, 59, 2, 78, 7)),
  (125, (.ifCond .ne 5, 128, 130, 0, 0, 0)),
  (128, (.iconst 0, 129, 0, 0, 0, 0)),
  (129, (.ireturn, 130, 0, 0, 0, 0)),
  (130, (.aload_n 1, 131, 0, 0, 0, 0)),
  (131, (.getfield 154, 134, 7, 0, 48, 0)),
  (134, (.iload_n 2, 135, 0, 0, 0, 0)),
  (135, (.aload_n 0, 136, 0, 0, 0, 0)),
  (136, (.getfield 9, 139, 0, 1, 20, 0)),
  (139, (.getfield 126, 142, 6, 7, 12, 0)),
  (142, (.iastore, 143, 0, 0, 0, 0)),
  (143, (.aload_n 1, 144, 0, 0, 0, 0)),
  (144, (.getfield 156, 147, 8, 0, 51, 0)),
  (147, (.iload_n 2, 148, 0, 0, 0, 0)),
  (148, (.iconst 0, 149, 0, 0, 0, 0)),
  (149, (.iastore, 150, 0, 0, 0, 0)),
  (150, (.aload_n 0, 151, 0, 0, 0, 0)),
  (151, (.getfield 9, 154, 0, 1, 20, 0)),
  (154, (.invokevirtual 96, 157, 18, 0, 69, 7)),
  (157, (.aload_n 1, 158, 0, 0, 0, 0)),
  (158, (.dup, 159, 0, 0, 0, 0)),
  (159, (.getfield 141, 162, 4, 0, 39, 0)),
  (162, (.iconst 1, 163, 0, 0, 0, 0)),
  (163, (.iadd, 164, 0, 0, 0, 0)),
  (164, (.putfield 141, 167, 4, 0, 39, 0)),
  (167, (.aload_n 0, 168, 0, 0, 0, 0)),
  (168, (.getfield 9, 171, 0, 1, 20, 0)),
  (171, (.bipush 59, 173, 0, 0, 0, 0)),
  (173, (.invokevirtual 129, 176, 61, 1, 79, 7)),
  (176, (.ireturn, 177, 0, 0, 0, 0))]
def am_r64 : List (Nat × am_R) := [(0, (.aload_n 0, 1, 0, 0, 0, 0)),
  (1, (.getfield 9, 4, 0, 1, 20, 0)),
  (4, (.invokevirtual 96, 7, 18, 0, 69, 7)),
  (7, (.aload_n 0, 8, 0, 0, 0, 0)),
  (8, (.getfield 9, 11, 0, 1, 20, 0)),
  (11, (.invokevirtual 78, 14, 54, 0, 71, 7)),
  (14, (.ifCond .ne 12, 17, 26, 0, 0, 0)),
  (17, (.aload_n 0, 18, 0, 0, 0, 0)),
  (18, (.getfield 9, 21, 0, 1, 20, 0)),
  (21, (.iconst 1, 22, 0, 0, 0, 0)),
  (22, (.invokevirtual 74, 25, 52, 1, 68, 7)),
  (25, (.ireturn, 26, 0, 0, 0, 0)),
  (26, (.aload_n 1, 27, 0, 0, 0, 0)),
  (27, (.aload_n 0, 28, 0, 0, 0, 0)),
  (28, (.getfield 9, 31, 0, 1, 20, 0)),
  (31, (.getfield 82, 34, 5, 7, 9, 0)),
  (34, (.invokevirtual 86, 37, 55, 1, 72, 0)),
  (37, (.istore_n 2, 38, 0, 0, 0, 0)),
  (38, (.iload_n 2, 39, 0, 0, 0, 0)),
  (39, (.iconst (-1), 40, 0, 0, 0, 0)),
  (40, (.if_icmp .ne 12, 43, 52, 0, 0, 0)),
  (43, (.aload_n 0, 44, 0, 0, 0, 0)),
  (44, (.getfield 9, 47, 0, 1, 20, 0)),
  (47, (.iconst 2, 48, 0, 0, 0, 0)),
  (48, (.invokevirtual 74, 51, 52, 1, 68, 7)),
  (51, (.ireturn, 52, 0, 0, 0, 0)),
  (52, (.aload_n 0, 53, 0, 0, 0, 0)),
  (53, (.getfield 9, 56, 0, 1, 20, 0)),
  (56, (.invokevirtual 96, 59, 18, 0, 69, 7)),
  (59, (.aload_n 0, 60, 0, 0, 0, 0)),
  (60, (.getfield 9, 63, 0, 1, 20, 0)),
  (63, (.invokevirtual 78, 66, 54, 0, 71, 7)),
  (66, (.ifCond .ne 12, 69, 78, 0, 0, 0)),
  (69, (.aload_n 0, 70, 0, 0, 0, 0)),
  (70, (.getfield 9, 73, 0, 1, 20, 0)),
  (73, (.iconst 1, 74, 0, 0, 0, 0)),
  (74, (.invokevirtual 74, 77, 52, 1, 68, 7)),
  (77, (.ireturn, 78, 0, 0, 0, 0)),
  (78, (.aload_n 1, 79, 0, 0, 0, 0)),
  (79, (.aload_n 0, 80, 0, 0, 0, 0)),
  (80, (.getfield 9, 83, 0, 1, 20, 0)),
  (83, (.getfield 82, 86, 5, 7, 9, 0)),
  (86, (.invokevirtual 90, 89, 56, 1, 73, 0)),
  (89, (.istore_n 3, 90, 0, 0, 0, 0)),
  (90, (.iload_n 3, 91, 0, 0, 0, 0)),
  (91, (.iconst (-1), 92, 0, 0, 0, 0)),
  (92, (.if_icmp .ne 12, 95, 104, 0, 0, 0)),
  (95, (.aload_n 0, 96, 0, 0, 0, 0)),
  (96, (.getfield 9, 99, 0, 1, 20, 0)),
  (99, (.iconst 2, 100, 0, 0, 0, 0)),
  (100, (.invokevirtual 74, 103, 52, 1, 68, 7)),
  (103, (.ireturn, 104, 0, 0, 0, 0)),
  (104, (.aload_n 1, 105, 0, 0, 0, 0)),
  (105, (.getfield 156, 108, 8, 0, 51, 0)),
  (108, (.iload_n 3, 109, 0, 0, 0, 0)),
  (109, (.iaload, 110, 0, 0, 0, 0)),
  (110, (.iload_n 2, 111, 0, 0, 0, 0)),
  (111, (.invokestatic 159, 114, 65, 2, 1, 1)),
  (114, (.ifCond .eq 12, 117, 126, 0, 0, 0)),
  (117, (.aload_n 0, 118, 0, 0, 0, 0)),
  (118, (.getfield 9, 121, 0, 1, 20, 0)),
  (121, (.iconst 3, 122, 0, 0, 0, 0)),
  (122, (.invokevirtual 74, 125, 52, 1, 68, 7)),
  (125, (.ireturn, 126, 0, 0, 0, 0)),
  (126, (.aload_n 1, 127, 0, 0, 0, 0)),
  (127, (.getfield 156, 130, 8, 0, 51, 0)),
  (130, (.iload_n 3, 131, 0, 0, 0, 0)),
  (131, (.dup2, 132, 0, 0, 0, 0)),
  (132, (.iaload, 133, 0, 0, 0, 0)),
  (133, (.iconst 1, 134, 0, 0, 0, 0)),
  (134, (.iload_n 2, 135, 0, 0, 0, 0)),
  (135, (.ishl, 136, 0, 0, 0, 0)),
  (136, (.ior, 137, 0, 0, 0, 0)),
  (137, (.iastore, 138, 0, 0, 0, 0)),
  (138, (.aload_n 0, 139, 0, 0, 0, 0)),
  (139, (.getfield 9, 142, 0, 1, 20, 0)),
  (142, (.invokevirtual 96, 145, 18, 0, 69, 7)),
  (145, (.aload_n 0, 146, 0, 0, 0, 0)),
  (146, (.getfield 9, 149, 0, 1, 20, 0)),
  (149, (.bipush 59, 151, 0, 0, 0, 0)),
  (151, (.invokevirtual 129, 154, 61, 1, 79, 7)),
  (154, (.ireturn, 155, 0, 0, 0, 0))]
def am_r65 : List (Nat × am_R) := [(0, (.iload_n 0, 1, 0, 0, 0, 0)),
  (1, (.iload_n 1, 2, 0, 0, 0, 0)),
  (2, (.ishr, 3, 0, 0, 0, 0)),
  (3, (.iconst 1, 4, 0, 0, 0, 0)),
  (4, (.iand, 5, 0, 0, 0, 0)),
  (5, (.ifCond .eq 7, 8, 12, 0, 0, 0)),
  (8, (.iconst 1, 9, 0, 0, 0, 0)),
  (9, (.goto 4, 12, 13, 0, 0, 0)),
  (12, (.iconst 0, 13, 0, 0, 0, 0)),
  (13, (.ireturn, 14, 0, 0, 0, 0))]
def am_r66 : List (Nat × am_R) := [(0, (.aload_n 1, 1, 0, 0, 0, 0)),
  (1, (.getfield 162, 4, 9, 0, 53, 0)),
  (4, (.ifCond .eq 12, 7, 16, 0, 0, 0)),
  (7, (.aload_n 0, 8, 0, 0, 0, 0)),
  (8, (.getfield 9, 11, 0, 1, 20, 0)),
  (11, (.iconst 3, 12, 0, 0, 0, 0)),
  (12, (.invokevirtual 74, 15, 52, 1, 68, 7)),
  (15, (.ireturn, 16, 0, 0, 0, 0)),
  (16, (.aload_n 1, 17, 0, 0, 0, 0)),
  (17, (.iconst 1, 18, 0, 0, 0, 0)),
  (18, (.putfield 162, 21, 9, 0, 53, 0)),
  (21, (.aload_n 0, 22, 0, 0, 0, 0)),
  (22, (.getfield 9, 25, 0, 1, 20, 0)),
  (25, (.invokevirtual 96, 28, 18, 0, 69, 7)),
  (28, (.aload_n 0, 29, 0, 0, 0, 0)),
  (29, (.aload_n 1, 30, 0, 0, 0, 0)),
  (30, (.invokevirtual 166, 33, 67, 1, 84, 1)),
  (33, (.istore_n 2, 34, 0, 0, 0, 0)),
  (34, (.iconst 0, 35, 0, 0, 0, 0)),
  (35, (.istore_n 3, 36, 0, 0, 0, 0)),
  (36, (.iload_n 2, 37, 0, 0, 0, 0)),
  (37, (.ifCond .eq 33, 40, 70, 0, 0, 0)),
  (40, (.aload_n 0, 41, 0, 0, 0, 0)),
  (41, (.getfield 9, 44, 0, 1, 20, 0)),
  (44, (.getfield 34, 47, 2, 7, 3, 0)),
  (47, (.iconst 2, 48, 0, 0, 0, 0)),
  (48, (.if_icmp .ne 22, 51, 70, 0, 0, 0)),
  (51, (.iload_n 3, 52, 0, 0, 0, 0)),
  (52, (.sipush 1000, 55, 0, 0, 0, 0)),
  (55, (.if_icmp .ge 15, 58, 70, 0, 0, 0)),
  (58, (.aload_n 0, 59, 0, 0, 0, 0)),
  (59, (.aload_n 1, 60, 0, 0, 0, 0)),
  (60, (.invokevirtual 166, 63, 67, 1, 84, 1)),
  (63, (.istore_n 2, 64, 0, 0, 0, 0)),
  (64, (.iinc 3 1, 67, 0, 0, 0, 0)),
  (67, (.goto (-31), 70, 36, 0, 0, 0)),
  (70, (.iload_n 2, 71, 0, 0, 0, 0)),
  (71, (.ifCond .eq 19, 74, 90, 0, 0, 0)),
  (74, (.aload_n 0, 75, 0, 0, 0, 0)),
  (75, (.getfield 9, 78, 0, 1, 20, 0)),
  (78, (.bipush 59, 80, 0, 0, 0, 0)),
  (80, (.invokevirtual 129, 83, 61, 1, 79, 7)),
  (83, (.ifCond .eq 7, 86, 90, 0, 0, 0)),
  (86, (.iconst 1, 87, 0, 0, 0, 0)),
  (87, (.goto 4, 90, 91, 0, 0, 0)),
  (90, (.iconst 0, 91, 0, 0, 0, 0)),
  (91, (.ireturn, 92, 0, 0, 0, 0))]
def am_r67 : List (Nat × am_R) := [(0, (.aload_n 0, 1, 0, 0, 0, 0)),
  (1, (.getfield 9, 4, 0, 1, 20, 0)),
  (4, (.getfield 34, 7, 2, 7, 3, 0)),
  (7, (.iconst 2, 8, 0, 0, 0, 0)),
  (8, (.if_icmp .ne 19, 11, 27, 0, 0, 0)),
  (11, (.aload_n 0, 12, 0, 0, 0, 0)),
  (12, (.getfield 9, 15, 0, 1, 20, 0)),
  (15, (.getfield 126, 18, 6, 7, 12, 0)),
  (18, (.bipush 28, 20, 0, 0, 0, 0)),
  (20, (.if_icmp .ge 7, 23, 27, 0, 0, 0)),
  (23, (.iconst 1, 24, 0, 0, 0, 0)),
  (24, (.goto 4, 27, 28, 0, 0, 0)),
  (27, (.iconst 0, 28, 0, 0, 0, 0)),
  (28, (.istore_n 2, 29, 0, 0, 0, 0)),
  (29, (.iload_n 2, 30, 0, 0, 0, 0)),
  (30, (.ifCond .eq 26, 33, 56, 0, 0, 0)),
  (33, (.aload_n 1, 34, 0, 0, 0, 0)),
  (34, (.aload_n 0, 35, 0, 0, 0, 0)),
  (35, (.getfield 9, 38, 0, 1, 20, 0)),
  (38, (.getfield 126, 41, 6, 7, 12, 0)),
  (41, (.invokevirtual 169, 44, 68, 1, 85, 0)),
  (44, (.ifCond .eq 12, 47, 56, 0, 0, 0)),
  (47, (.aload_n 0, 48, 0, 0, 0, 0)),
  (48, (.getfield 9, 51, 0, 1, 20, 0)),
  (51, (.iconst 3, 52, 0, 0, 0, 0)),
  (52, (.invokevirtual 74, 55, 52, 1, 68, 7)),
  (55, (.ireturn, 56, 0, 0, 0, 0)),
  (56, (.aload_n 0, 57, 0, 0, 0, 0)),
  (57, (.getfield 9, 60, 0, 1, 20, 0)),
  (60, (.iconst 0, 61, 0, 0, 0, 0)),
  (61, (.bipush 27, 63, 0, 0, 0, 0)),
  (63, (.invokevirtual 119, 66, 59, 2, 78, 7)),
  (66, (.ifCond .ne 5, 69, 71, 0, 0, 0)),
  (69, (.iconst 0, 70, 0, 0, 0, 0)),
  (70, (.ireturn, 71, 0, 0, 0, 0)),
  (71, (.aload_n 1, 72, 0, 0, 0, 0)),
  (72, (.getfield 172, 75, 10, 0, 55, 0)),
  (75, (.invokestatic 174, 78, 69, 1, 86, 0)),
  (78, (.bipush 8, 80, 0, 0, 0, 0)),
  (80, (.if_icmp .lt 12, 83, 92, 0, 0, 0)),
  (83, (.aload_n 0, 84, 0, 0, 0, 0)),
  (84, (.getfield 9, 87, 0, 1, 20, 0)),
  (87, (.iconst 5, 88, 0, 0, 0, 0)),
  (88, (.invokevirtual 74, 91, 52, 1, 68, 7)),
  (91, (.ireturn, 92, 0, 0, 0, 0)),
  (92, (.aload_n 1, 93, 0, 0, 0, 0)),
  (93, (.dup, 94, 0, 0, 0, 0)),
  (94, (.getfield 172, 97, 10, 0, 55, 0)),
  (97, (.iconst 1, 98, 0, 0, 0, 0)),
  (98, (.aload_n 0, 99, 0, 0, 0, 0)),
  (99, (.getfield 9, 102, 0, 1, 20, 0)),
  (102, (.getfield 126, 105, 6, 7, 12, 0)),
  (105, (.ishl, 106, 0, 0, 0, 0)),
  (106, (.ior, 107, 0, 0, 0, 0)),
  (107, (.putfield 172, 110, 10, 0, 55, 0)),
  (110, (.aload_n 0, 111, 0, 0, 0, 0)),
  (111, (.getfield 9, 114, 0, 1, 20, 0)),
  (114, (.invokevirtual 96, 117, 18, 0, 69, 7)),
  (117, (.iconst 1, 118, 0, 0, 0, 0)),
  (118, (.ireturn, 119, 0, 0, 0, 0))]
def am_r68 : List (Nat × am_R) := [(0, (.aload_n 0, 1, 0, 0, 0, 0)),
  (1, (.getfield 52, 4, 10, 0, 54, 0)),
  (4, (.iload_n 1, 5, 0, 0, 0, 0)),
  (5, (.bipush 28, 7, 0, 0, 0, 0)),
  (7, (.irem, 8, 0, 0, 0, 0)),
  (8, (.invokestatic 61, 11, 65, 2, 2, 1)),
  (11, (.ireturn, 12, 0, 0, 0, 0))]
def am_r69 : List (Nat × am_R) := [(0, (.iload_n 0, 1, 0, 0, 0, 0)),
  (1, (.iload_n 0, 2, 0, 0, 0, 0)),
  (2, (.iconst 1, 3, 0, 0, 0, 0)),
  (3, (.iushr, 4, 0, 0, 0, 0)),
  (4, (.ldc_w 265, 7, 0, 0, 3, 0)),
  (7, (.iand, 8, 0, 0, 0, 0)),
  (8, (.isub, 9, 0, 0, 0, 0)),
  (9, (.istore_n 0, 10, 0, 0, 0, 0)),
  (10, (.iload_n 0, 11, 0, 0, 0, 0)),
  (11, (.ldc_w 266, 14, 0, 0, 4, 0)),
  (14, (.iand, 15, 0, 0, 0, 0)),
  (15, (.iload_n 0, 16, 0, 0, 0, 0)),
  (16, (.iconst 2, 17, 0, 0, 0, 0)),
  (17, (.iushr, 18, 0, 0, 0, 0)),
  (18, (.ldc_w 266, 21, 0, 0, 4, 0)),
  (21, (.iand, 22, 0, 0, 0, 0)),
  (22, (.iadd, 23, 0, 0, 0, 0)),
  (23, (.istore_n 0, 24, 0, 0, 0, 0)),
  (24, (.iload_n 0, 25, 0, 0, 0, 0)),
  (25, (.iload_n 0, 26, 0, 0, 0, 0)),
  (26, (.iconst 4, 27, 0, 0, 0, 0)),
  (27, (.iushr, 28, 0, 0, 0, 0)),
  (28, (.iadd, 29, 0, 0, 0, 0)),
  (29, (.ldc_w 267, 32, 0, 0, 5, 0)),
  (32, (.iand, 33, 0, 0, 0, 0)),
  (33, (.istore_n 0, 34, 0, 0, 0, 0)),
  (34, (.iload_n 0, 35, 0, 0, 0, 0)),
  (35, (.iload_n 0, 36, 0, 0, 0, 0)),
  (36, (.bipush 8, 38, 0, 0, 0, 0)),
  (38, (.iushr, 39, 0, 0, 0, 0)),
  (39, (.iadd, 40, 0, 0, 0, 0)),
  (40, (.istore_n 0, 41, 0, 0, 0, 0)),
  (41, (.iload_n 0, 42, 0, 0, 0, 0)),
  (42, (.iload_n 0, 43, 0, 0, 0, 0)),
  (43, (.bipush 16, 45, 0, 0, 0, 0)),
  (45, (.iushr, 46, 0, 0, 0, 0)),
  (46, (.iadd, 47, 0, 0, 0, 0)),
  (47, (.istore_n 0, 48, 0, 0, 0, 0)),
  (48, (.iload_n 0, 49, 0, 0, 0, 0)),
  (49, (.bipush 63, 51, 0, 0, 0, 0)),
  (51, (.iand, 52, 0, 0, 0, 0)),
  (52, (.ireturn, 53, 0, 0, 0, 0))]
def am_r70 : List (Nat × am_R) := [(0, (.aload_n 1, 1, 0, 0, 0, 0)),
  (1, (.getfield 15, 4, 11, 0, 56, 0)),
  (4, (.ifCond .eq 12, 7, 16, 0, 0, 0)),
  (7, (.aload_n 0, 8, 0, 0, 0, 0)),
  (8, (.getfield 9, 11, 0, 4, 19, 0)),
  (11, (.iconst 3, 12, 0, 0, 0, 0)),
  (12, (.invokevirtual 23, 15, 52, 1, 88, 7)),
  (15, (.ireturn, 16, 0, 0, 0, 0)),
  (16, (.aload_n 1, 17, 0, 0, 0, 0)),
  (17, (.iconst 1, 18, 0, 0, 0, 0)),
  (18, (.putfield 15, 21, 11, 0, 56, 0)),
  (21, (.aload_n 0, 22, 0, 0, 0, 0)),
  (22, (.getfield 9, 25, 0, 4, 19, 0)),
  (25, (.invokevirtual 27, 28, 18, 0, 89, 7)),
  (28, (.aload_n 0, 29, 0, 0, 0, 0)),
  (29, (.aload_n 1, 30, 0, 0, 0, 0)),
  (30, (.getfield 30, 33, 12, 0, 59, 0)),
  (33, (.iconst 0, 34, 0, 0, 0, 0)),
  (34, (.invokevirtual 34, 37, 71, 2, 90, 4)),
  (37, (.ifCond .eq 19, 40, 56, 0, 0, 0)),
  (40, (.aload_n 0, 41, 0, 0, 0, 0)),
  (41, (.getfield 9, 44, 0, 4, 19, 0)),
  (44, (.bipush 59, 46, 0, 0, 0, 0)),
  (46, (.invokevirtual 38, 49, 61, 1, 99, 7)),
  (49, (.ifCond .eq 7, 52, 56, 0, 0, 0)),
  (52, (.iconst 1, 53, 0, 0, 0, 0)),
  (53, (.goto 4, 56, 57, 0, 0, 0)),
  (56, (.iconst 0, 57, 0, 0, 0, 0)),
  (57, (.ireturn, 58, 0, 0, 0, 0))]
def am_r71 : List (Nat × am_R) := [(0, (.aload_n 0, 1, 0, 0, 0, 0)),
  (1, (.aload_n 1, 2, 0, 0, 0, 0)),
  (2, (.iload_n 2, 3, 0, 0, 0, 0)),
  (3, (.invokevirtual 42, 6, 72, 2, 91, 4)),
  (6, (.istore_n 3, 7, 0, 0, 0, 0)),
  (7, (.iconst 0, 8, 0, 0, 0, 0)),
  (8, (.istore 4, 10, 0, 0, 0, 0)),
  (10, (.iload_n 3, 11, 0, 0, 0, 0)),
  (11, (.ifCond .eq 81, 14, 92, 0, 0, 0)),
  (14, (.iload 4, 16, 0, 0, 0, 0)),
  (16, (.sipush 1000, 19, 0, 0, 0, 0)),
  (19, (.if_icmp .ge 73, 22, 92, 0, 0, 0)),
  (22, (.aload_n 0, 23, 0, 0, 0, 0)),
  (23, (.getfield 9, 26, 0, 4, 19, 0)),
  (26, (.ldc 45, 28, 0, 1, 19, 0)),
  (28, (.invokevirtual 47, 31, 44, 1, 96, 7)),
  (31, (.ifCond .eq 8, 34, 39, 0, 0, 0)),
  (34, (.bipush (-6), 36, 0, 0, 0, 0)),
  (36, (.goto 21, 39, 57, 0, 0, 0)),
  (39, (.aload_n 0, 40, 0, 0, 0, 0)),
  (40, (.getfield 9, 43, 0, 4, 19, 0)),
  (43, (.ldc 53, 45, 0, 1, 20, 0)),
  (45, (.invokevirtual 47, 48, 44, 1, 96, 7)),
  (48, (.ifCond .eq 8, 51, 56, 0, 0, 0)),
  (51, (.bipush (-7), 53, 0, 0, 0, 0)),
  (53, (.goto 4, 56, 57, 0, 0, 0)),
  (56, (.iconst 0, 57, 0, 0, 0, 0)),
  (57, (.istore 5, 59, 0, 0, 0, 0)),
  (59, (.iload 5, 61, 0, 0, 0, 0)),
  (61, (.ifCond .ne 5, 64, 66, 0, 0, 0)),
  (64, (.iconst 1, 65, 0, 0, 0, 0)),
  (65, (.ireturn, 66, 0, 0, 0, 0)),
  (66, (.aload_n 0, 67, 0, 0, 0, 0)),
  (67, (.getfield 9, 70, 0, 4, 19, 0)),
  (70, (.invokevirtual 27, 73, 18, 0, 89, 7)),
  (73, (.aload_n 0, 74, 0, 0, 0, 0)),
  (74, (.aload_n 1, 75, 0, 0, 0, 0)),
  (75, (.iload_n 2, 76, 0, 0, 0, 0)),
  (76, (.invokevirtual 42, 79, 72, 2, 91, 4)),
  (79, (.istore_n 3, 80, 0, 0, 0, 0)),
  (80, (.aload_n 1, 81, 0, 0, 0, 0)),
  (81, (.iload 5, 83, 0, 0, 0, 0)),
  (83, (.invokevirtual 55, 86, 77, 1, 98, 3)),
  (86, (.iinc 4 1, 89, 0, 0, 0, 0)),
  (89, (.goto (-79), 92, 10, 0, 0, 0)),
  (92, (.iload_n 3, 93, 0, 0, 0, 0)),
  (93, (.ireturn, 94, 0, 0, 0, 0))]
def am_r72 : List (Nat × am_R) := [(0, (.aload_n 0, 1, 0, 0, 0, 0)),
  (1, (.aload_n 1, 2, 0, 0, 0, 0)),
  (2, (.iload_n 2, 3, 0, 0, 0, 0)),
  (3, (.invokevirtual 59, 6, 73, 2, 92, 4)),
  (6, (.ifCond .ne 5, 9, 11, 0, 0, 0)),
  (9, (.iconst 0, 10, 0, 0, 0, 0)),
  (10, (.ireturn, 11, 0, 0, 0, 0)),
  (11, (.aload_n 0, 12, 0, 0, 0, 0)),
  (12, (.getfield 9, 15, 0, 4, 19, 0)),
  (15, (.bipush 60, 17, 0, 0, 0, 0)),
  (17, (.invokevirtual 62, 20, 62, 1, 97, 7)),
  (20, (.ifCond .eq 8, 23, 28, 0, 0, 0)),
  (23, (.bipush (-8), 25, 0, 0, 0, 0)),
  (25, (.goto 21, 28, 46, 0, 0, 0)),
  (28, (.aload_n 0, 29, 0, 0, 0, 0)),
  (29, (.getfield 9, 32, 0, 4, 19, 0)),
  (32, (.bipush 61, 34, 0, 0, 0, 0)),
  (34, (.invokevirtual 62, 37, 62, 1, 97, 7)),
  (37, (.ifCond .eq 8, 40, 45, 0, 0, 0)),
  (40, (.bipush (-9), 42, 0, 0, 0, 0)),
  (42, (.goto 4, 45, 46, 0, 0, 0)),
  (45, (.iconst 0, 46, 0, 0, 0, 0)),
  (46, (.istore_n 3, 47, 0, 0, 0, 0)),
  (47, (.iload_n 3, 48, 0, 0, 0, 0)),
  (48, (.ifCond .ne 5, 51, 53, 0, 0, 0)),
  (51, (.iconst 1, 52, 0, 0, 0, 0)),
  (52, (.ireturn, 53, 0, 0, 0, 0)),
  (53, (.aload_n 0, 54, 0, 0, 0, 0)),
  (54, (.getfield 9, 57, 0, 4, 19, 0)),
  (57, (.invokevirtual 27, 60, 18, 0, 89, 7)),
  (60, (.aload_n 0, 61, 0, 0, 0, 0)),
  (61, (.aload_n 1, 62, 0, 0, 0, 0)),
  (62, (.iload_n 2, 63, 0, 0, 0, 0)),
  (63, (.invokevirtual 59, 66, 73, 2, 92, 4)),
  (66, (.istore 4, 68, 0, 0, 0, 0)),
  (68, (.aload_n 1, 69, 0, 0, 0, 0)),
  (69, (.iload_n 3, 70, 0, 0, 0, 0)),
  (70, (.invokevirtual 55, 73, 77, 1, 98, 3)),
  (73, (.iload 4, 75, 0, 0, 0, 0)),
  (75, (.ireturn, 76, 0, 0, 0, 0))]
def am_r73 : List (Nat × am_R) := [(0, (.aload_n 0, 1, 0, 0, 0, 0)),
  (1, (.aload_n 1, 2, 0, 0, 0, 0)),
  (2, (.iload_n 2, 3, 0, 0, 0, 0)),
  (3, (.invokevirtual 65, 6, 74, 2, 93, 4)),
  (6, (.istore_n 3, 7, 0, 0, 0, 0)),
  (7, (.iconst 0, 8, 0, 0, 0, 0)),
  (8, (.istore 4, 10, 0, 0, 0, 0)),
  (10, (.iload_n 3, 11, 0, 0, 0, 0)),
  (11, (.ifCond .eq 81, 14, 92, 0, 0, 0)),
  (14, (.iload 4, 16, 0, 0, 0, 0)),
  (16, (.sipush 1000, 19, 0, 0, 0, 0)),
  (19, (.if_icmp .ge 73, 22, 92, 0, 0, 0)),
  (22, (.aload_n 0, 23, 0, 0, 0, 0)),
  (23, (.getfield 9, 26, 0, 4, 19, 0)),
  (26, (.bipush 43, 28, 0, 0, 0, 0)),
  (28, (.invokevirtual 62, 31, 62, 1, 97, 7)),
  (31, (.ifCond .eq 8, 34, 39, 0, 0, 0)),
  (34, (.bipush (-10), 36, 0, 0, 0, 0)),
  (36, (.goto 21, 39, 57, 0, 0, 0)),
  (39, (.aload_n 0, 40, 0, 0, 0, 0)),
  (40, (.getfield 9, 43, 0, 4, 19, 0)),
  (43, (.bipush 45, 45, 0, 0, 0, 0)),
  (45, (.invokevirtual 62, 48, 62, 1, 97, 7)),
  (48, (.ifCond .eq 8, 51, 56, 0, 0, 0)),
  (51, (.bipush (-11), 53, 0, 0, 0, 0)),
  (53, (.goto 4, 56, 57, 0, 0, 0)),
  (56, (.iconst 0, 57, 0, 0, 0, 0)),
  (57, (.istore 5, 59, 0, 0, 0, 0)),
  (59, (.iload 5, 61, 0, 0, 0, 0)),
  (61, (.ifCond .ne 5, 64, 66, 0, 0, 0)),
  (64, (.iconst 1, 65, 0, 0, 0, 0)),
  (65, (.ireturn, 66, 0, 0, 0, 0)),
  (66, (.aload_n 0, 67, 0, 0, 0, 0)),
  (67, (.getfield 9, 70, 0, 4, 19, 0)),
  (70, (.invokevirtual 27, 73, 18, 0, 89, 7)),
  (73, (.aload_n 0, 74, 0, 0, 0, 0)),
  (74, (.aload_n 1, 75, 0, 0, 0, 0)),
  (75, (.iload_n 2, 76, 0, 0, 0, 0)),
  (76, (.invokevirtual 65, 79, 74, 2, 93, 4)),
  (79, (.istore_n 3, 80, 0, 0, 0, 0)),
  (80, (.aload_n 1, 81, 0, 0, 0, 0)),
  (81, (.iload 5, 83, 0, 0, 0, 0)),
  (83, (.invokevirtual 55, 86, 77, 1, 98, 3)),
  (86, (.iinc 4 1, 89, 0, 0, 0, 0)),
  (89, (.goto (-79), 92, 10, 0, 0, 0)),
  (92, (.iload_n 3, 93, 0, 0, 0, 0)),
  (93, (.ireturn, 94, 0, 0, 0, 0))]
def am_r74 : List (Nat × am_R) := [(0, (.aload_n 0, 1, 0, 0, 0, 0)),
  (1, (.aload_n 1, 2, 0, 0, 0, 0)),
  (2, (.iload_n 2, 3, 0, 0, 0, 0)),
  (3, (.invokevirtual 68, 6, 75, 2, 94, 4)),
  (6, (.istore_n 3, 7, 0, 0, 0, 0)),
  (7, (.iconst 0, 8, 0, 0, 0, 0)),
  (8, (.istore 4, 10, 0, 0, 0, 0)),
  (10, (.iload_n 3, 11, 0, 0, 0, 0)),
  (11, (.ifCond .eq 51, 14, 62, 0, 0, 0)),
  (14, (.iload 4, 16, 0, 0, 0, 0)),
  (16, (.sipush 1000, 19, 0, 0, 0, 0)),
  (19, (.if_icmp .ge 43, 22, 62, 0, 0, 0)),
  (22, (.aload_n 0, 23, 0, 0, 0, 0)),
  (23, (.getfield 9, 26, 0, 4, 19, 0)),
  (26, (.bipush 42, 28, 0, 0, 0, 0)),
  (28, (.invokevirtual 62, 31, 62, 1, 97, 7)),
  (31, (.ifCond .ne 5, 34, 36, 0, 0, 0)),
  (34, (.iconst 1, 35, 0, 0, 0, 0)),
  (35, (.ireturn, 36, 0, 0, 0, 0)),
  (36, (.aload_n 0, 37, 0, 0, 0, 0)),
  (37, (.getfield 9, 40, 0, 4, 19, 0)),
  (40, (.invokevirtual 27, 43, 18, 0, 89, 7)),
  (43, (.aload_n 0, 44, 0, 0, 0, 0)),
  (44, (.aload_n 1, 45, 0, 0, 0, 0)),
  (45, (.iload_n 2, 46, 0, 0, 0, 0)),
  (46, (.invokevirtual 68, 49, 75, 2, 94, 4)),
  (49, (.istore_n 3, 50, 0, 0, 0, 0)),
  (50, (.aload_n 1, 51, 0, 0, 0, 0)),
  (51, (.bipush (-12), 53, 0, 0, 0, 0)),
  (53, (.invokevirtual 55, 56, 77, 1, 98, 3)),
  (56, (.iinc 4 1, 59, 0, 0, 0, 0)),
  (59, (.goto (-49), 62, 10, 0, 0, 0)),
  (62, (.iload_n 3, 63, 0, 0, 0, 0)),
  (63, (.ireturn, 64, 0, 0, 0, 0))]
def am_r75 : List (Nat × am_R) := [(0, (.aload_n 0, 1, 0, 0, 0, 0)),
  (1, (.invokevirtual 71, 4, 76, 0, 95, 4)),
  (4, (.istore_n 3, 5, 0, 0, 0, 0)),
  (5, (.aload_n 0, 6, 0, 0, 0, 0)),
  (6, (.getfield 9, 9, 0, 4, 19, 0)),
  (9, (.getfield 75, 12, 2, 7, 6, 0)),
  (12, (.iconst 2, 13, 0, 0, 0, 0)),
  (13, (.if_icmp .ne 7, 16, 20, 0, 0, 0)),
  (16, (.iconst 1, 17, 0, 0, 0, 0)),
  (17, (.goto 4, 20, 21, 0, 0, 0)),
  (20, (.iconst 0, 21, 0, 0, 0, 0)),
  (21, (.istore 4, 23, 0, 0, 0, 0)),
  (23, (.aload_n 0, 24, 0, 0, 0, 0)),
  (24, (.getfield 9, 27, 0, 4, 19, 0)),
  (27, (.ldc 79, 29, 0, 1, 18, 0)),
  (29, (.invokevirtual 47, 32, 44, 1, 96, 7)),
  (32, (.istore 5, 34, 0, 0, 0, 0)),
  (34, (.iload_n 3, 35, 0, 0, 0, 0)),
  (35, (.ifCond .ne 34, 38, 69, 0, 0, 0)),
  (38, (.iload 4, 40, 0, 0, 0, 0)),
  (40, (.ifCond .ne 29, 43, 69, 0, 0, 0)),
  (43, (.iload 5, 45, 0, 0, 0, 0)),
  (45, (.ifCond .ne 24, 48, 69, 0, 0, 0)),
  (48, (.aload_n 0, 49, 0, 0, 0, 0)),
  (49, (.getfield 9, 52, 0, 4, 19, 0)),
  (52, (.bipush 40, 54, 0, 0, 0, 0)),
  (54, (.invokevirtual 62, 57, 62, 1, 97, 7)),
  (57, (.ifCond .ne 12, 60, 69, 0, 0, 0)),
  (60, (.aload_n 0, 61, 0, 0, 0, 0)),
  (61, (.getfield 9, 64, 0, 4, 19, 0)),
  (64, (.iconst 1, 65, 0, 0, 0, 0)),
  (65, (.invokevirtual 23, 68, 52, 1, 88, 7)),
  (68, (.ireturn, 69, 0, 0, 0, 0)),
  (69, (.iload_n 2, 70, 0, 0, 0, 0)),
  (70, (.iconst 5, 71, 0, 0, 0, 0)),
  (71, (.if_icmp .lt 12, 74, 83, 0, 0, 0)),
  (74, (.aload_n 0, 75, 0, 0, 0, 0)),
  (75, (.getfield 9, 78, 0, 4, 19, 0)),
  (78, (.iconst 5, 79, 0, 0, 0, 0)),
  (79, (.invokevirtual 23, 82, 52, 1, 88, 7)),
  (82, (.ireturn, 83, 0, 0, 0, 0)),
  (83, (.iload 4, 85, 0, 0, 0, 0)),
  (85, (.ifCond .ne 7, 88, 92, 0, 0, 0)),
  (88, (.iload_n 3, 89, 0, 0, 0, 0)),
  (89, (.ifCond .eq 32, 92, 121, 0, 0, 0)),
  (92, (.aload_n 1, 93, 0, 0, 0, 0)),
  (93, (.iload 4, 95, 0, 0, 0, 0)),
  (95, (.ifCond .eq 13, 98, 108, 0, 0, 0)),
  (98, (.aload_n 0, 99, 0, 0, 0, 0)),
  (99, (.getfield 9, 102, 0, 4, 19, 0)),
  (102, (.getfield 81, 105, 6, 7, 15, 0)),
  (105, (.goto 4, 108, 109, 0, 0, 0)),
  (108, (.iload_n 3, 109, 0, 0, 0, 0)),
  (109, (.invokevirtual 55, 112, 77, 1, 98, 3)),
  (112, (.aload_n 0, 113, 0, 0, 0, 0)),
  (113, (.getfield 9, 116, 0, 4, 19, 0)),
  (116, (.invokevirtual 27, 119, 18, 0, 89, 7)),
  (119, (.iconst 1, 120, 0, 0, 0, 0)),
  (120, (.ireturn, 121, 0, 0, 0, 0)),
  (121, (.aload_n 0, 122, 0, 0, 0, 0)),
  (122, (.getfield 9, 125, 0, 4, 19, 0)),
  (125, (.invokevirtual 27, 128, 18, 0, 89, 7)),
  (128, (.iload 5, 130, 0, 0, 0, 0)),
  (130, (.ifCond .eq 22, 133, 152, 0, 0, 0)),
  (133, (.aload_n 0, 134, 0, 0, 0, 0)),
  (134, (.aload_n 1, 135, 0, 0, 0, 0)),
  (135, (.iload_n 2, 136, 0, 0, 0, 0)),
  (136, (.iconst 1, 137, 0, 0, 0, 0)),
  (137, (.iadd, 138, 0, 0, 0, 0)),
  (138, (.invokevirtual 68, 141, 75, 2, 94, 4)),
  (141, (.istore 6, 143, 0, 0, 0, 0)),
  (143, (.aload_n 1, 144, 0, 0, 0, 0)),
  (144, (.bipush (-5), 146, 0, 0, 0, 0)),
  (146, (.invokevirtual 55, 149, 77, 1, 98, 3)),
  (149, (.iload 6, 151, 0, 0, 0, 0)),
  (151, (.ireturn, 152, 0, 0, 0, 0)),
  (152, (.aload_n 0, 153, 0, 0, 0, 0)),
  (153, (.aload_n 1, 154, 0, 0, 0, 0)),
  (154, (.iload_n 2, 155, 0, 0, 0, 0)),
  (155, (.iconst 1, 156, 0, 0, 0, 0)),
  (156, (.iadd, 157, 0, 0, 0, 0)),
  (157, (.invokevirtual 34, 160, 71, 2, 90, 4)),
  (160, (.ifCond .eq 19, 163, 179, 0, 0, 0)),
  (163, (.aload_n 0, 164, 0, 0, 0, 0)),
  (164, (.getfield 9, 167, 0, 4, 19, 0)),
  (167, (.bipush 41, 169, 0, 0, 0, 0)),
  (169, (.invokevirtual 38, 172, 61, 1, 99, 7)),
  (172, (.ifCond .eq 7, 175, 179, 0, 0, 0)),
  (175, (.iconst 1, 176, 0, 0, 0, 0)),
  (176, (.goto 4, 179, 180, 0, 0, 0)),
  (179, (.iconst 0, 180, 0, 0, 0, 0)),
  (180, (.ireturn, 181, 0, 0, 0, 0))]
def am_r76 : List (Nat × am_R) := [(0, (.aload_n 0, 1, 0, 0, 0, 0)),
  (1, (.getfield 9, 4, 0, 4, 19, 0)),
  (4, (.ldc 84, 6, 0, 1, 14, 0)),
  (6, (.invokevirtual 47, 9, 44, 1, 96, 7)),
  (9, (.ifCond .eq 5, 12, 14, 0, 0, 0)),
  (12, (.iconst (-1), 13, 0, 0, 0, 0)),
  (13, (.ireturn, 14, 0, 0, 0, 0)),
  (14, (.aload_n 0, 15, 0, 0, 0, 0)),
  (15, (.getfield 9, 18, 0, 4, 19, 0)),
  (18, (.ldc 86, 20, 0, 1, 15, 0)),
  (20, (.invokevirtual 47, 23, 44, 1, 96, 7)),
  (23, (.ifCond .eq 6, 26, 29, 0, 0, 0)),
  (26, (.bipush (-2), 28, 0, 0, 0, 0)),
  (28, (.ireturn, 29, 0, 0, 0, 0)),
  (29, (.aload_n 0, 30, 0, 0, 0, 0)),
  (30, (.getfield 9, 33, 0, 4, 19, 0)),
  (33, (.ldc 88, 35, 0, 1, 16, 0)),
  (35, (.invokevirtual 47, 38, 44, 1, 96, 7)),
  (38, (.ifCond .eq 6, 41, 44, 0, 0, 0)),
  (41, (.bipush (-3), 43, 0, 0, 0, 0)),
  (43, (.ireturn, 44, 0, 0, 0, 0)),
  (44, (.aload_n 0, 45, 0, 0, 0, 0)),
  (45, (.getfield 9, 48, 0, 4, 19, 0)),
  (48, (.ldc 90, 50, 0, 1, 17, 0)),
  (50, (.invokevirtual 47, 53, 44, 1, 96, 7)),
  (53, (.ifCond .eq 8, 56, 61, 0, 0, 0)),
  (56, (.bipush (-4), 58, 0, 0, 0, 0)),
  (58, (.goto 4, 61, 62, 0, 0, 0)),
  (61, (.iconst 0, 62, 0, 0, 0, 0)),
  (62, (.ireturn, 63, 0, 0, 0, 0))]
def am_r77 : List (Nat × am_R) := [(0, (.aload_n 0, 1, 0, 0, 0, 0)),
  (1, (.getfield 18, 4, 2, 3, 25, 0)),
  (4, (.sipush 1000, 7, 0, 0, 0, 0)),
  (7, (.if_icmp .ge 23, 10, 30, 0, 0, 0)),
  (10, (.aload_n 0, 11, 0, 0, 0, 0)),
  (11, (.getfield 9, 14, 0, 3, 23, 0)),
  (14, (.aload_n 0, 15, 0, 0, 0, 0)),
  (15, (.getfield 18, 18, 2, 3, 25, 0)),
  (18, (.iload_n 1, 19, 0, 0, 0, 0)),
  (19, (.iastore, 20, 0, 0, 0, 0)),
  (20, (.aload_n 0, 21, 0, 0, 0, 0)),
  (21, (.dup, 22, 0, 0, 0, 0)),
  (22, (.getfield 18, 25, 2, 3, 25, 0)),
  (25, (.iconst 1, 26, 0, 0, 0, 0)),
  (26, (.iadd, 27, 0, 0, 0, 0)),
  (27, (.putfield 18, 30, 2, 3, 25, 0)),
  (30, (.return_, 31, 0, 0, 0, 0))]
def am_r78 : List (Nat × am_R) := [(0, (.aload_n 0, 1, 0, 0, 0, 0)),
  (1, (.getfield 55, 4, 7, 10, 107, 0)),
  (4, (.aload_n 0, 5, 0, 0, 0, 0)),
  (5, (.getfield 35, 8, 3, 10, 103, 0)),
  (8, (.invokevirtual 104, 11, 79, 1, 101, 6)),
  (11, (.aload_n 0, 12, 0, 0, 0, 0)),
  (12, (.getfield 45, 15, 5, 10, 105, 0)),
  (15, (.iconst 0, 16, 0, 0, 0, 0)),
  (16, (.putfield 108, 19, 3, 8, 70, 0)),
  (19, (.aload_n 0, 20, 0, 0, 0, 0)),
  (20, (.getfield 69, 23, 10, 10, 110, 0)),
  (23, (.iconst 0, 24, 0, 0, 0, 0)),
  (24, (.putfield 109, 27, 2, 2, 91, 0)),
  (27, (.aload_n 0, 28, 0, 0, 0, 0)),
  (28, (.iconst 0, 29, 0, 0, 0, 0)),
  (29, (.putfield 80, 32, 12, 10, 112, 0)),
  (32, (.aload_n 0, 33, 0, 0, 0, 0)),
  (33, (.bipush 31, 35, 0, 0, 0, 0)),
  (35, (.putfield 84, 38, 13, 10, 113, 0)),
  (38, (.iconst 0, 39, 0, 0, 0, 0)),
  (39, (.istore_n 1, 40, 0, 0, 0, 0)),
  (40, (.iload_n 1, 41, 0, 0, 0, 0)),
  (41, (.iconst 4, 42, 0, 0, 0, 0)),
  (42, (.if_icmp .ge 19, 45, 61, 0, 0, 0)),
  (45, (.aload_n 0, 46, 0, 0, 0, 0)),
  (46, (.getfield 75, 49, 11, 10, 111, 0)),
  (49, (.iload_n 1, 50, 0, 0, 0, 0)),
  (50, (.aaload, 51, 0, 0, 0, 0)),
  (51, (.iconst 0, 52, 0, 0, 0, 0)),
  (52, (.putfield 110, 55, 0, 5, 93, 0)),
  (55, (.iinc 1 1, 58, 0, 0, 0, 0)),
  (58, (.goto (-18), 61, 40, 0, 0, 0)),
  (61, (.return_, 62, 0, 0, 0, 0))]
def am_r79 : List (Nat × am_R) := [(0, (.aload_n 0, 1, 0, 0, 0, 0)),
  (1, (.iconst 0, 2, 0, 0, 0, 0)),
  (2, (.putfield 24, 5, 0, 6, 71, 0)),
  (5, (.aload_n 0, 6, 0, 0, 0, 0)),
  (6, (.iconst 0, 7, 0, 0, 0, 0)),
  (7, (.putfield 28, 10, 1, 6, 74, 0)),
  (10, (.iconst 0, 11, 0, 0, 0, 0)),
  (11, (.istore_n 2, 12, 0, 0, 0, 0)),
  (12, (.iload_n 2, 13, 0, 0, 0, 0)),
  (13, (.bipush 6, 15, 0, 0, 0, 0)),
  (15, (.if_icmp .ge 28, 18, 43, 0, 0, 0)),
  (18, (.aload_n 0, 19, 0, 0, 0, 0)),
  (19, (.getfield 9, 22, 2, 6, 76, 0)),
  (22, (.iload_n 2, 23, 0, 0, 0, 0)),
  (23, (.aload_n 1, 24, 0, 0, 0, 0)),
  (24, (.getfield 31, 27, 3, 0, 36, 0)),
  (27, (.iload_n 2, 28, 0, 0, 0, 0)),
  (28, (.iaload, 29, 0, 0, 0, 0)),
  (29, (.iastore, 30, 0, 0, 0, 0)),
  (30, (.aload_n 0, 31, 0, 0, 0, 0)),
  (31, (.getfield 15, 34, 3, 6, 79, 0)),
  (34, (.iload_n 2, 35, 0, 0, 0, 0)),
  (35, (.iconst 0, 36, 0, 0, 0, 0)),
  (36, (.iastore, 37, 0, 0, 0, 0)),
  (37, (.iinc 2 1, 40, 0, 0, 0, 0)),
  (40, (.goto (-28), 43, 12, 0, 0, 0)),
  (43, (.iconst 0, 44, 0, 0, 0, 0)),
  (44, (.istore_n 2, 45, 0, 0, 0, 0)),
  (45, (.iload_n 2, 46, 0, 0, 0, 0)),
  (46, (.iconst 5, 47, 0, 0, 0, 0)),
  (47, (.if_icmp .ge 23, 50, 70, 0, 0, 0)),
  (50, (.aload_n 0, 51, 0, 0, 0, 0)),
  (51, (.getfield 18, 54, 4, 6, 82, 0)),
  (54, (.iload_n 2, 55, 0, 0, 0, 0)),
  (55, (.iconst 0, 56, 0, 0, 0, 0)),
  (56, (.iastore, 57, 0, 0, 0, 0)),
  (57, (.aload_n 0, 58, 0, 0, 0, 0)),
  (58, (.getfield 21, 61, 5, 6, 85, 0)),
  (61, (.iload_n 2, 62, 0, 0, 0, 0)),
  (62, (.iconst 0, 63, 0, 0, 0, 0)),
  (63, (.iastore, 64, 0, 0, 0, 0)),
  (64, (.iinc 2 1, 67, 0, 0, 0, 0)),
  (67, (.goto (-22), 70, 45, 0, 0, 0)),
  (70, (.return_, 71, 0, 0, 0, 0))]
def am_inf_1 : List (List (Nat × am_R) × Nat × Option FieldType) := [(am_r40, 2, (Option.some Jvm.ClassFile.FieldType.boolean)), (am_r41, 1, (Option.some Jvm.ClassFile.FieldType.char)), (am_r42, 1, (Option.some Jvm.ClassFile.FieldType.char)), (am_r43, 2, (Option.some Jvm.ClassFile.FieldType.boolean)), (am_r44, 5, (Option.some Jvm.ClassFile.FieldType.boolean)), (am_r45, 2, (Option.some Jvm.ClassFile.FieldType.char)), (am_r46, 2, (Option.some Jvm.ClassFile.FieldType.char)), (am_r47, 2, (Option.none : Option Jvm.ClassFile.FieldType)), (am_r48, 3, (Option.some Jvm.ClassFile.FieldType.int)), (am_r49, 2, (Option.some Jvm.ClassFile.FieldType.char)), (am_r50, 2, (Option.none : Option Jvm.ClassFile.FieldType)), (am_r51, 4, (Option.some Jvm.ClassFile.FieldType.boolean)), (am_r52, 2, (Option.some Jvm.ClassFile.FieldType.boolean)), (am_r53, 3, (Option.some Jvm.ClassFile.FieldType.boolean)), (am_r54, 4, (Option.some Jvm.ClassFile.FieldType.boolean)), (am_r55, 4, (Option.some Jvm.ClassFile.FieldType.int)), (am_r56, 4, (Option.some Jvm.ClassFile.FieldType.int)), (am_r57, 1, (Option.some Jvm.ClassFile.FieldType.int)), (am_r58, 2, (Option.some Jvm.ClassFile.FieldType.boolean)), (am_r59, 3, (Option.some Jvm.ClassFile.FieldType.boolean)), (am_r60, 3, (Option.some Jvm.ClassFile.FieldType.boolean)), (am_r61, 2, (Option.some Jvm.ClassFile.FieldType.boolean)), (am_r62, 2, (Option.some Jvm.ClassFile.FieldType.boolean)), (am_r63, 3, (Option.some Jvm.ClassFile.FieldType.boolean)), (am_r64, 4, (Option.some Jvm.ClassFile.FieldType.boolean)), (am_r65, 2, (Option.some Jvm.ClassFile.FieldType.boolean)), (am_r66, 4, (Option.some Jvm.ClassFile.FieldType.boolean)), (am_r67, 3, (Option.some Jvm.ClassFile.FieldType.boolean)), (am_r68, 2, (Option.some Jvm.ClassFile.FieldType.boolean)), (am_r69, 1, (Option.some Jvm.ClassFile.FieldType.int)), (am_r70, 2, (Option.some Jvm.ClassFile.FieldType.boolean)), (am_r71, 6, (Option.some Jvm.ClassFile.FieldType.boolean)), (am_r72, 5, (Option.some Jvm.ClassFile.FieldType.boolean)), (am_r73, 6, (Option.some Jvm.ClassFile.FieldType.boolean)), (am_r74, 5, (Option.some Jvm.ClassFile.FieldType.boolean)), (am_r75, 7, (Option.some Jvm.ClassFile.FieldType.boolean)), (am_r76, 1, (Option.some Jvm.ClassFile.FieldType.int)), (am_r77, 2, (Option.none : Option Jvm.ClassFile.FieldType)), (am_r78, 2, (Option.none : Option Jvm.ClassFile.FieldType)), (am_r79, 3, (Option.none : Option Jvm.ClassFile.FieldType))]
theorem am_ck_1_0 : ((am_mi_1.zip am_inf_1).take 10).all am_chk = true := by decide +kernel
theorem am_ck_1_1 : (((am_mi_1.zip am_inf_1).drop 10).take 10).all am_chk = true := by decide +kernel
theorem am_ck_1_2 : (((am_mi_1.zip am_inf_1).drop 20).take 10).all am_chk = true := by decide +kernel
theorem am_ck_1_3 : (((am_mi_1.zip am_inf_1).drop 30)).all am_chk = true := by decide +kernel
theorem am_ck_1 : (am_mi_1.zip am_inf_1).all am_chk = true := am_all_cut _ 10 _ am_ck_1_0 (am_all_cut _ 10 _ am_ck_1_1 (by
  rw [List.drop_drop]
  exact am_all_cut _ 10 _ am_ck_1_2 (by
    rw [List.drop_drop]
    exact am_ck_1_3)))
end
section
/-! rows of methods, checked against their bytes -/
def am_r80 : List (Nat × am_R) := [(0, (.aload_n 0, 1, 0, 0, 0, 0)),
  (1, (.getfield 28, 4, 2, 10, 102, 0)),
  (4, (.aload_n 0, 5, 0, 0, 0, 0)),
  (5, (.getfield 49, 8, 6, 10, 106, 0)),
  (8, (.aload_n 0, 9, 0, 0, 0, 0)),
  (9, (.getfield 35, 12, 3, 10, 103, 0)),
  (12, (.invokevirtual 101, 15, 81, 2, 103, 9)),
  (15, (.istore_n 1, 16, 0, 0, 0, 0)),
  (16, (.aload_n 0, 17, 0, 0, 0, 0)),
  (17, (.getfield 10, 20, 0, 10, 100, 0)),
  (20, (.iconst 0, 21, 0, 0, 0, 0)),
  (21, (.putfield 91, 24, 1, 7, 1, 0)),
  (24, (.iload_n 1, 25, 0, 0, 0, 0)),
  (25, (.ifCond .eq 5, 28, 30, 0, 0, 0)),
  (28, (.iload_n 1, 29, 0, 0, 0, 0)),
  (29, (.ireturn, 30, 0, 0, 0, 0)),
  (30, (.aload_n 0, 31, 0, 0, 0, 0)),
  (31, (.getfield 49, 34, 6, 10, 106, 0)),
  (34, (.astore_n 2, 35, 0, 0, 0, 0)),
  (35, (.aload_n 0, 36, 0, 0, 0, 0)),
  (36, (.aload_n 0, 37, 0, 0, 0, 0)),
  (37, (.getfield 45, 40, 5, 10, 105, 0)),
  (40, (.putfield 49, 43, 6, 10, 106, 0)),
  (43, (.aload_n 0, 44, 0, 0, 0, 0)),
  (44, (.aload_n 2, 45, 0, 0, 0, 0)),
  (45, (.putfield 45, 48, 5, 10, 105, 0)),
  (48, (.iconst 0, 49, 0, 0, 0, 0)),
  (49, (.ireturn, 50, 0, 0, 0, 0))]
def am_r81 : List (Nat × am_R) := [(0, (.aload_n 1, 1, 0, 0, 0, 0)),
  (1, (.iconst 0, 2, 0, 0, 0, 0)),
  (2, (.putfield 15, 5, 3, 8, 69, 0)),
  (5, (.aload_n 0, 6, 0, 0, 0, 0)),
  (6, (.getfield 9, 9, 0, 9, 22, 0)),
  (9, (.invokevirtual 21, 12, 17, 0, 104, 7)),
  (12, (.iconst 1, 13, 0, 0, 0, 0)),
  (13, (.istore_n 3, 14, 0, 0, 0, 0)),
  (14, (.iconst 0, 15, 0, 0, 0, 0)),
  (15, (.istore 4, 17, 0, 0, 0, 0)),
  (17, (.iload_n 3, 18, 0, 0, 0, 0)),
  (18, (.ifCond .eq 35, 21, 53, 0, 0, 0)),
  (21, (.aload_n 0, 22, 0, 0, 0, 0)),
  (22, (.getfield 9, 25, 0, 9, 22, 0)),
  (25, (.getfield 26, 28, 2, 7, 4, 0)),
  (28, (.iconst 4, 29, 0, 0, 0, 0)),
  (29, (.if_icmp .eq 24, 32, 53, 0, 0, 0)),
  (32, (.iload 4, 34, 0, 0, 0, 0)),
  (34, (.sipush 1000, 37, 0, 0, 0, 0)),
  (37, (.if_icmp .ge 16, 40, 53, 0, 0, 0)),
  (40, (.aload_n 0, 41, 0, 0, 0, 0)),
  (41, (.aload_n 1, 42, 0, 0, 0, 0)),
  (42, (.aload_n 2, 43, 0, 0, 0, 0)),
  (43, (.invokevirtual 29, 46, 82, 2, 105, 9)),
  (46, (.istore_n 3, 47, 0, 0, 0, 0)),
  (47, (.iinc 4 1, 50, 0, 0, 0, 0)),
  (50, (.goto (-33), 53, 17, 0, 0, 0)),
  (53, (.aload_n 0, 54, 0, 0, 0, 0)),
  (54, (.getfield 9, 57, 0, 9, 22, 0)),
  (57, (.getfield 33, 60, 7, 7, 17, 0)),
  (60, (.ireturn, 61, 0, 0, 0, 0))]
def am_r82 : List (Nat × am_R) := [(0, (.aload_n 0, 1, 0, 0, 0, 0)),
  (1, (.invokevirtual 36, 4, 83, 0, 106, 9)),
  (4, (.istore_n 3, 5, 0, 0, 0, 0)),
  (5, (.iload_n 3, 6, 0, 0, 0, 0)),
  (6, (.iconst (-1), 7, 0, 0, 0, 0)),
  (7, (.if_icmp .ne 12, 10, 19, 0, 0, 0)),
  (10, (.aload_n 0, 11, 0, 0, 0, 0)),
  (11, (.getfield 9, 14, 0, 9, 22, 0)),
  (14, (.iconst 1, 15, 0, 0, 0, 0)),
  (15, (.invokevirtual 40, 18, 52, 1, 108, 7)),
  (18, (.ireturn, 19, 0, 0, 0, 0)),
  (19, (.aload_n 1, 20, 0, 0, 0, 0)),
  (20, (.getfield 15, 23, 3, 8, 69, 0)),
  (23, (.istore 4, 25, 0, 0, 0, 0)),
  (25, (.iload 4, 27, 0, 0, 0, 0)),
  (27, (.bipush 40, 29, 0, 0, 0, 0)),
  (29, (.if_icmp .lt 12, 32, 41, 0, 0, 0)),
  (32, (.aload_n 0, 33, 0, 0, 0, 0)),
  (33, (.getfield 9, 36, 0, 9, 22, 0)),
  (36, (.iconst 5, 37, 0, 0, 0, 0)),
  (37, (.invokevirtual 40, 40, 52, 1, 108, 7)),
  (40, (.ireturn, 41, 0, 0, 0, 0)),
  (41, (.aload_n 1, 42, 0, 0, 0, 0)),
  (42, (.getfield 44, 45, 0, 8, 61, 0)),
  (45, (.iload 4, 47, 0, 0, 0, 0)),
  (47, (.iload_n 3, 48, 0, 0, 0, 0)),
  (48, (.iastore, 49, 0, 0, 0, 0)),
  (49, (.aload_n 1, 50, 0, 0, 0, 0)),
  (50, (.getfield 48, 53, 1, 8, 64, 0)),
  (53, (.iload 4, 55, 0, 0, 0, 0)),
  (55, (.iconst 0, 56, 0, 0, 0, 0)),
  (56, (.iastore, 57, 0, 0, 0, 0)),
  (57, (.aload_n 1, 58, 0, 0, 0, 0)),
  (58, (.getfield 51, 61, 2, 8, 67, 0)),
  (61, (.iload 4, 63, 0, 0, 0, 0)),
  (63, (.iconst 0, 64, 0, 0, 0, 0)),
  (64, (.iastore, 65, 0, 0, 0, 0)),
  (65, (.aload_n 0, 66, 0, 0, 0, 0)),
  (66, (.getfield 9, 69, 0, 9, 22, 0)),
  (69, (.invokevirtual 54, 72, 18, 0, 109, 7)),
  (72, (.iload_n 3, 73, 0, 0, 0, 0)),
  (73, (.ifCond .eq 14, 76, 87, 0, 0, 0)),
  (76, (.aload_n 0, 77, 0, 0, 0, 0)),
  (77, (.aload_n 1, 78, 0, 0, 0, 0)),
  (78, (.aload_n 2, 79, 0, 0, 0, 0)),
  (79, (.invokevirtual 57, 82, 84, 2, 110, 9)),
  (82, (.ifCond .ne 5, 85, 87, 0, 0, 0)),
  (85, (.iconst 0, 86, 0, 0, 0, 0)),
  (86, (.ireturn, 87, 0, 0, 0, 0)),
  (87, (.iload_n 3, 88, 0, 0, 0, 0)),
  (88, (.iconst 1, 89, 0, 0, 0, 0)),
  (89, (.if_icmp .ne 13, 92, 102, 0, 0, 0)),
  (92, (.aload_n 0, 93, 0, 0, 0, 0)),
  (93, (.aload_n 1, 94, 0, 0, 0, 0)),
  (94, (.invokevirtual 60, 97, 85, 1, 113, 9)),
  (97, (.ifCond .ne 5, 100, 102, 0, 0, 0)),
  (100, (.iconst 0, 101, 0, 0, 0, 0)),
  (101, (.ireturn, 102, 0, 0, 0, 0)),
  (102, (.aload_n 1, 103, 0, 0, 0, 0)),
  (103, (.dup, 104, 0, 0, 0, 0)),
  (104, (.getfield 15, 107, 3, 8, 69, 0)),
  (107, (.iconst 1, 108, 0, 0, 0, 0)),
  (108, (.iadd, 109, 0, 0, 0, 0)),
  (109, (.putfield 15, 112, 3, 8, 69, 0)),
  (112, (.aload_n 0, 113, 0, 0, 0, 0)),
  (113, (.getfield 9, 116, 0, 9, 22, 0)),
  (116, (.bipush 59, 118, 0, 0, 0, 0)),
  (118, (.invokevirtual 64, 121, 61, 1, 115, 7)),
  (121, (.ireturn, 122, 0, 0, 0, 0))]
def am_r83 : List (Nat × am_R) := [(0, (.aload_n 0, 1, 0, 0, 0, 0)),
  (1, (.getfield 9, 4, 0, 9, 22, 0)),
  (4, (.ldc 68, 6, 0, 1, 21, 0)),
  (6, (.invokevirtual 70, 9, 44, 1, 107, 7)),
  (9, (.ifCond .eq 5, 12, 14, 0, 0, 0)),
  (12, (.iconst 0, 13, 0, 0, 0, 0)),
  (13, (.ireturn, 14, 0, 0, 0, 0)),
  (14, (.aload_n 0, 15, 0, 0, 0, 0)),
  (15, (.getfield 9, 18, 0, 9, 22, 0)),
  (18, (.ldc 74, 20, 0, 1, 22, 0)),
  (20, (.invokevirtual 70, 23, 44, 1, 107, 7)),
  (23, (.ifCond .eq 5, 26, 28, 0, 0, 0)),
  (26, (.iconst 1, 27, 0, 0, 0, 0)),
  (27, (.ireturn, 28, 0, 0, 0, 0)),
  (28, (.aload_n 0, 29, 0, 0, 0, 0)),
  (29, (.getfield 9, 32, 0, 9, 22, 0)),
  (32, (.ldc 76, 34, 0, 1, 23, 0)),
  (34, (.invokevirtual 70, 37, 44, 1, 107, 7)),
  (37, (.ifCond .eq 7, 40, 44, 0, 0, 0)),
  (40, (.iconst 2, 41, 0, 0, 0, 0)),
  (41, (.goto 4, 44, 45, 0, 0, 0)),
  (44, (.iconst (-1), 45, 0, 0, 0, 0)),
  (45, (.ireturn, 46, 0, 0, 0, 0))]
def am_r84 : List (Nat × am_R) := [(0, (.aload_n 0, 1, 0, 0, 0, 0)),
  (1, (.getfield 9, 4, 0, 9, 22, 0)),
  (4, (.invokevirtual 78, 7, 54, 0, 111, 7)),
  (7, (.ifCond .ne 12, 10, 19, 0, 0, 0)),
  (10, (.aload_n 0, 11, 0, 0, 0, 0)),
  (11, (.getfield 9, 14, 0, 9, 22, 0)),
  (14, (.iconst 1, 15, 0, 0, 0, 0)),
  (15, (.invokevirtual 40, 18, 52, 1, 108, 7)),
  (18, (.ireturn, 19, 0, 0, 0, 0)),
  (19, (.aload_n 2, 20, 0, 0, 0, 0)),
  (20, (.aload_n 0, 21, 0, 0, 0, 0)),
  (21, (.getfield 9, 24, 0, 9, 22, 0)),
  (24, (.getfield 82, 27, 5, 7, 11, 0)),
  (27, (.invokevirtual 86, 30, 55, 1, 112, 0)),
  (30, (.istore_n 3, 31, 0, 0, 0, 0)),
  (31, (.iload_n 3, 32, 0, 0, 0, 0)),
  (32, (.iconst (-1), 33, 0, 0, 0, 0)),
  (33, (.if_icmp .ne 12, 36, 45, 0, 0, 0)),
  (36, (.aload_n 0, 37, 0, 0, 0, 0)),
  (37, (.getfield 9, 40, 0, 9, 22, 0)),
  (40, (.iconst 2, 41, 0, 0, 0, 0)),
  (41, (.invokevirtual 40, 44, 52, 1, 108, 7)),
  (44, (.ireturn, 45, 0, 0, 0, 0)),
  (45, (.aload_n 1, 46, 0, 0, 0, 0)),
  (46, (.getfield 48, 49, 1, 8, 64, 0)),
  (49, (.aload_n 1, 50, 0, 0, 0, 0)),
  (50, (.getfield 15, 53, 3, 8, 69, 0)),
  (53, (.iload_n 3, 54, 0, 0, 0, 0)),
  (54, (.iastore, 55, 0, 0, 0, 0)),
  (55, (.aload_n 0, 56, 0, 0, 0, 0)),
  (56, (.getfield 9, 59, 0, 9, 22, 0)),
  (59, (.invokevirtual 54, 62, 18, 0, 109, 7)),
  (62, (.iconst 1, 63, 0, 0, 0, 0)),
  (63, (.ireturn, 64, 0, 0, 0, 0))]
def am_r85 : List (Nat × am_R) := [(0, (.aload_n 0, 1, 0, 0, 0, 0)),
  (1, (.getfield 9, 4, 0, 9, 22, 0)),
  (4, (.iconst 0, 5, 0, 0, 0, 0)),
  (5, (.iconst 4, 6, 0, 0, 0, 0)),
  (6, (.invokevirtual 92, 9, 59, 2, 114, 7)),
  (9, (.ifCond .ne 5, 12, 14, 0, 0, 0)),
  (12, (.iconst 0, 13, 0, 0, 0, 0)),
  (13, (.ireturn, 14, 0, 0, 0, 0)),
  (14, (.aload_n 1, 15, 0, 0, 0, 0)),
  (15, (.getfield 51, 18, 2, 8, 67, 0)),
  (18, (.aload_n 1, 19, 0, 0, 0, 0)),
  (19, (.getfield 15, 22, 3, 8, 69, 0)),
  (22, (.aload_n 0, 23, 0, 0, 0, 0)),
  (23, (.getfield 9, 26, 0, 9, 22, 0)),
  (26, (.getfield 96, 29, 6, 7, 14, 0)),
  (29, (.iastore, 30, 0, 0, 0, 0)),
  (30, (.aload_n 0, 31, 0, 0, 0, 0)),
  (31, (.getfield 9, 34, 0, 9, 22, 0)),
  (34, (.invokevirtual 54, 37, 18, 0, 109, 7)),
  (37, (.iconst 1, 38, 0, 0, 0, 0)),
  (38, (.ireturn, 39, 0, 0, 0, 0))]
def am_r86 : List (Nat × am_R) := [(0, (.aload_n 0, 1, 0, 0, 0, 0)),
  (1, (.iload_n 1, 2, 0, 0, 0, 0)),
  (2, (.invokevirtual 114, 5, 87, 1, 117, 10)),
  (5, (.ifCond .ne 6, 8, 11, 0, 0, 0)),
  (8, (.bipush (-2), 10, 0, 0, 0, 0)),
  (10, (.ireturn, 11, 0, 0, 0, 0)),
  (11, (.iload_n 2, 12, 0, 0, 0, 0)),
  (12, (.tableswitch 102 0 4 #[36, 46, 56, 83, 92], 48, 0, 0, 0, 0)),
  (48, (.aload_n 0, 49, 0, 0, 0, 0)),
  (49, (.getfield 35, 52, 3, 10, 103, 0)),
  (52, (.getfield 118, 55, 2, 0, 34, 0)),
  (55, (.iload_n 1, 56, 0, 0, 0, 0)),
  (56, (.iaload, 57, 0, 0, 0, 0)),
  (57, (.ireturn, 58, 0, 0, 0, 0)),
  (58, (.aload_n 0, 59, 0, 0, 0, 0)),
  (59, (.getfield 55, 62, 7, 10, 107, 0)),
  (62, (.getfield 121, 65, 2, 6, 78, 0)),
  (65, (.iload_n 1, 66, 0, 0, 0, 0)),
  (66, (.iaload, 67, 0, 0, 0, 0)),
  (67, (.ireturn, 68, 0, 0, 0, 0)),
  (68, (.aload_n 0, 69, 0, 0, 0, 0)),
  (69, (.getfield 35, 72, 3, 10, 103, 0)),
  (72, (.iload_n 1, 73, 0, 0, 0, 0)),
  (73, (.aload_n 0, 74, 0, 0, 0, 0)),
  (74, (.getfield 55, 77, 7, 10, 107, 0)),
  (77, (.aload_n 0, 78, 0, 0, 0, 0)),
  (78, (.getfield 35, 81, 3, 10, 103, 0)),
  (81, (.aload_n 0, 82, 0, 0, 0, 0)),
  (82, (.getfield 55, 85, 7, 10, 107, 0)),
  (85, (.getfield 124, 88, 0, 6, 72, 0)),
  (88, (.invokevirtual 127, 91, 68, 1, 118, 0)),
  (91, (.invokevirtual 130, 94, 88, 3, 119, 0)),
  (94, (.ireturn, 95, 0, 0, 0, 0)),
  (95, (.aload_n 0, 96, 0, 0, 0, 0)),
  (96, (.getfield 35, 99, 3, 10, 103, 0)),
  (99, (.iload_n 1, 100, 0, 0, 0, 0)),
  (100, (.invokevirtual 134, 103, 91, 1, 122, 0)),
  (103, (.ireturn, 104, 0, 0, 0, 0)),
  (104, (.aload_n 0, 105, 0, 0, 0, 0)),
  (105, (.getfield 55, 108, 7, 10, 107, 0)),
  (108, (.getfield 138, 111, 3, 6, 80, 0)),
  (111, (.iload_n 1, 112, 0, 0, 0, 0)),
  (112, (.iaload, 113, 0, 0, 0, 0)),
  (113, (.ireturn, 114, 0, 0, 0, 0)),
  (114, (.bipush (-2), 116, 0, 0, 0, 0)),
  (116, (.ireturn, 117, 0, 0, 0, 0))]
def am_r87 : List (Nat × am_R) := [(0, (.iload_n 1, 1, 0, 0, 0, 0)),
  (1, (.ifCond .lt 18, 4, 19, 0, 0, 0)),
  (4, (.iload_n 1, 5, 0, 0, 0, 0)),
  (5, (.aload_n 0, 6, 0, 0, 0, 0)),
  (6, (.getfield 35, 9, 3, 10, 103, 0)),
  (9, (.getfield 159, 12, 0, 0, 29, 0)),
  (12, (.if_icmp .ge 7, 15, 19, 0, 0, 0)),
  (15, (.iconst 1, 16, 0, 0, 0, 0)),
  (16, (.goto 4, 19, 20, 0, 0, 0)),
  (19, (.iconst 0, 20, 0, 0, 0, 0)),
  (20, (.ireturn, 21, 0, 0, 0, 0))]
def am_r88 : List (Nat × am_R) := [(0, (.iload_n 3, 1, 0, 0, 0, 0)),
  (1, (.ifCond .eq 7, 4, 8, 0, 0, 0)),
  (4, (.iconst 0, 5, 0, 0, 0, 0)),
  (5, (.goto 9, 8, 14, 0, 0, 0)),
  (8, (.aload_n 0, 9, 0, 0, 0, 0)),
  (9, (.iload_n 1, 10, 0, 0, 0, 0)),
  (10, (.aload_n 2, 11, 0, 0, 0, 0)),
  (11, (.invokevirtual 68, 14, 89, 2, 120, 0)),
  (14, (.istore 4, 16, 0, 0, 0, 0)),
  (16, (.aload_n 2, 17, 0, 0, 0, 0)),
  (17, (.getfield 72, 20, 0, 6, 73, 0)),
  (20, (.iload 4, 22, 0, 0, 0, 0)),
  (22, (.iadd, 23, 0, 0, 0, 0)),
  (23, (.bipush 7, 25, 0, 0, 0, 0)),
  (25, (.invokestatic 75, 28, 90, 2, 121, 0)),
  (28, (.ireturn, 29, 0, 0, 0, 0))]
def am_r89 : List (Nat × am_R) := [(0, (.aload_n 0, 1, 0, 0, 0, 0)),
  (1, (.getfield 15, 4, 2, 0, 32, 0)),
  (4, (.iload_n 1, 5, 0, 0, 0, 0)),
  (5, (.iaload, 6, 0, 0, 0, 0)),
  (6, (.iconst 3, 7, 0, 0, 0, 0)),
  (7, (.if_icmp .ne 7, 10, 14, 0, 0, 0)),
  (10, (.iconst 0, 11, 0, 0, 0, 0)),
  (11, (.goto 11, 14, 22, 0, 0, 0)),
  (14, (.aload_n 2, 15, 0, 0, 0, 0)),
  (15, (.getfield 65, 18, 2, 6, 77, 0)),
  (18, (.iload_n 1, 19, 0, 0, 0, 0)),
  (19, (.iaload, 20, 0, 0, 0, 0)),
  (20, (.iconst 2, 21, 0, 0, 0, 0)),
  (21, (.isub, 22, 0, 0, 0, 0)),
  (22, (.ireturn, 23, 0, 0, 0, 0))]
def am_r90 : List (Nat × am_R) := [(0, (.iload_n 0, 1, 0, 0, 0, 0)),
  (1, (.iload_n 1, 2, 0, 0, 0, 0)),
  (2, (.irem, 3, 0, 0, 0, 0)),
  (3, (.istore_n 2, 4, 0, 0, 0, 0)),
  (4, (.iload_n 0, 5, 0, 0, 0, 0)),
  (5, (.iload_n 1, 6, 0, 0, 0, 0)),
  (6, (.ixor, 7, 0, 0, 0, 0)),
  (7, (.ifCond .ge 11, 10, 18, 0, 0, 0)),
  (10, (.iload_n 2, 11, 0, 0, 0, 0)),
  (11, (.ifCond .eq 7, 14, 18, 0, 0, 0)),
  (14, (.iload_n 2, 15, 0, 0, 0, 0)),
  (15, (.iload_n 1, 16, 0, 0, 0, 0)),
  (16, (.iadd, 17, 0, 0, 0, 0)),
  (17, (.ireturn, 18, 0, 0, 0, 0)),
  (18, (.iload_n 2, 19, 0, 0, 0, 0)),
  (19, (.ireturn, 20, 0, 0, 0, 0))]
def am_r91 : List (Nat × am_R) := [(0, (.iconst 0, 1, 0, 0, 0, 0)),
  (1, (.istore_n 2, 2, 0, 0, 0, 0)),
  (2, (.iconst 0, 3, 0, 0, 0, 0)),
  (3, (.istore_n 3, 4, 0, 0, 0, 0)),
  (4, (.iload_n 3, 5, 0, 0, 0, 0)),
  (5, (.aload_n 0, 6, 0, 0, 0, 0)),
  (6, (.getfield 45, 9, 4, 0, 38, 0)),
  (9, (.if_icmp .ge 28, 12, 37, 0, 0, 0)),
  (12, (.aload_n 0, 13, 0, 0, 0, 0)),
  (13, (.getfield 31, 16, 8, 0, 49, 0)),
  (16, (.iload_n 3, 17, 0, 0, 0, 0)),
  (17, (.iaload, 18, 0, 0, 0, 0)),
  (18, (.iload_n 1, 19, 0, 0, 0, 0)),
  (19, (.invokestatic 61, 22, 65, 2, 2, 1)),
  (22, (.ifCond .eq 9, 25, 31, 0, 0, 0)),
  (25, (.iload_n 2, 26, 0, 0, 0, 0)),
  (26, (.iconst 1, 27, 0, 0, 0, 0)),
  (27, (.iload_n 3, 28, 0, 0, 0, 0)),
  (28, (.ishl, 29, 0, 0, 0, 0)),
  (29, (.ior, 30, 0, 0, 0, 0)),
  (30, (.istore_n 2, 31, 0, 0, 0, 0)),
  (31, (.iinc 3 1, 34, 0, 0, 0, 0)),
  (34, (.goto (-30), 37, 4, 0, 0, 0)),
  (37, (.iload_n 2, 38, 0, 0, 0, 0)),
  (38, (.ireturn, 39, 0, 0, 0, 0))]
def am_r92 : List (Nat × am_R) := [(0, (.aload_n 0, 1, 0, 0, 0, 0)),
  (1, (.iload_n 1, 2, 0, 0, 0, 0)),
  (2, (.invokevirtual 141, 5, 93, 1, 124, 10)),
  (5, (.ifCond .ne 6, 8, 11, 0, 0, 0)),
  (8, (.bipush (-2), 10, 0, 0, 0, 0)),
  (10, (.ireturn, 11, 0, 0, 0, 0)),
  (11, (.iload_n 2, 12, 0, 0, 0, 0)),
  (12, (.tableswitch 86 0 4 #[36, 46, 56, 66, 76], 48, 0, 0, 0, 0)),
  (48, (.aload_n 0, 49, 0, 0, 0, 0)),
  (49, (.getfield 35, 52, 3, 10, 103, 0)),
  (52, (.getfield 144, 55, 6, 0, 44, 0)),
  (55, (.iload_n 1, 56, 0, 0, 0, 0)),
  (56, (.iaload, 57, 0, 0, 0, 0)),
  (57, (.ireturn, 58, 0, 0, 0, 0)),
  (58, (.aload_n 0, 59, 0, 0, 0, 0)),
  (59, (.getfield 35, 62, 3, 10, 103, 0)),
  (62, (.getfield 147, 65, 7, 0, 47, 0)),
  (65, (.iload_n 1, 66, 0, 0, 0, 0)),
  (66, (.iaload, 67, 0, 0, 0, 0)),
  (67, (.ireturn, 68, 0, 0, 0, 0)),
  (68, (.aload_n 0, 69, 0, 0, 0, 0)),
  (69, (.getfield 35, 72, 3, 10, 103, 0)),
  (72, (.getfield 150, 75, 8, 0, 50, 0)),
  (75, (.iload_n 1, 76, 0, 0, 0, 0)),
  (76, (.iaload, 77, 0, 0, 0, 0)),
  (77, (.ireturn, 78, 0, 0, 0, 0)),
  (78, (.aload_n 0, 79, 0, 0, 0, 0)),
  (79, (.getfield 55, 82, 7, 10, 107, 0)),
  (82, (.getfield 153, 85, 4, 6, 83, 0)),
  (85, (.iload_n 1, 86, 0, 0, 0, 0)),
  (86, (.iaload, 87, 0, 0, 0, 0)),
  (87, (.ireturn, 88, 0, 0, 0, 0)),
  (88, (.aload_n 0, 89, 0, 0, 0, 0)),
  (89, (.getfield 55, 92, 7, 10, 107, 0)),
  (92, (.getfield 156, 95, 5, 6, 86, 0)),
  (95, (.iload_n 1, 96, 0, 0, 0, 0)),
  (96, (.iaload, 97, 0, 0, 0, 0)),
  (97, (.ireturn, 98, 0, 0, 0, 0)),
  (98, (.bipush (-2), 100, 0, 0, 0, 0)),
  (100, (.ireturn, 101, 0, 0, 0, 0))]
def am_r93 : List (Nat × am_R) := [(0, (.iload_n 1, 1, 0, 0, 0, 0)),
  (1, (.ifCond .lt 18, 4, 19, 0, 0, 0)),
  (4, (.iload_n 1, 5, 0, 0, 0, 0)),
  (5, (.aload_n 0, 6, 0, 0, 0, 0)),
  (6, (.getfield 35, 9, 3, 10, 103, 0)),
  (9, (.getfield 162, 12, 4, 0, 40, 0)),
  (12, (.if_icmp .ge 7, 15, 19, 0, 0, 0)),
  (15, (.iconst 1, 16, 0, 0, 0, 0)),
  (16, (.goto 4, 19, 20, 0, 0, 0)),
  (19, (.iconst 0, 20, 0, 0, 0, 0)),
  (20, (.ireturn, 21, 0, 0, 0, 0))]
def am_r94 : List (Nat × am_R) := [(0, (.iload_n 1, 1, 0, 0, 0, 0)),
  (1, (.tableswitch 174 0 11 #[63, 71, 79, 87, 98, 121, 129, 137, 145, 153, 158, 166], 64, 0, 0, 0, 0)),
  (64, (.aload_n 0, 65, 0, 0, 0, 0)),
  (65, (.getfield 35, 68, 3, 10, 103, 0)),
  (68, (.getfield 159, 71, 0, 0, 29, 0)),
  (71, (.ireturn, 72, 0, 0, 0, 0)),
  (72, (.aload_n 0, 73, 0, 0, 0, 0)),
  (73, (.getfield 35, 76, 3, 10, 103, 0)),
  (76, (.getfield 162, 79, 4, 0, 40, 0)),
  (79, (.ireturn, 80, 0, 0, 0, 0)),
  (80, (.aload_n 0, 81, 0, 0, 0, 0)),
  (81, (.getfield 55, 84, 7, 10, 107, 0)),
  (84, (.getfield 124, 87, 0, 6, 72, 0)),
  (87, (.ireturn, 88, 0, 0, 0, 0)),
  (88, (.aload_n 0, 89, 0, 0, 0, 0)),
  (89, (.getfield 55, 92, 7, 10, 107, 0)),
  (92, (.getfield 124, 95, 0, 6, 72, 0)),
  (95, (.bipush 7, 97, 0, 0, 0, 0)),
  (97, (.irem, 98, 0, 0, 0, 0)),
  (98, (.ireturn, 99, 0, 0, 0, 0)),
  (99, (.aload_n 0, 100, 0, 0, 0, 0)),
  (100, (.getfield 35, 103, 3, 10, 103, 0)),
  (103, (.aload_n 0, 104, 0, 0, 0, 0)),
  (104, (.getfield 55, 107, 7, 10, 107, 0)),
  (107, (.getfield 124, 110, 0, 6, 72, 0)),
  (110, (.invokevirtual 127, 113, 68, 1, 118, 0)),
  (113, (.ifCond .eq 7, 116, 120, 0, 0, 0)),
  (116, (.iconst 1, 117, 0, 0, 0, 0)),
  (117, (.goto 4, 120, 121, 0, 0, 0)),
  (120, (.iconst 0, 121, 0, 0, 0, 0)),
  (121, (.ireturn, 122, 0, 0, 0, 0)),
  (122, (.aload_n 0, 123, 0, 0, 0, 0)),
  (123, (.getfield 55, 126, 7, 10, 107, 0)),
  (126, (.invokevirtual 165, 129, 95, 0, 126, 6)),
  (129, (.ireturn, 130, 0, 0, 0, 0)),
  (130, (.aload_n 0, 131, 0, 0, 0, 0)),
  (131, (.getfield 55, 134, 7, 10, 107, 0)),
  (134, (.invokevirtual 169, 137, 96, 0, 127, 6)),
  (137, (.ireturn, 138, 0, 0, 0, 0)),
  (138, (.aload_n 0, 139, 0, 0, 0, 0)),
  (139, (.getfield 55, 142, 7, 10, 107, 0)),
  (142, (.getfield 172, 145, 1, 6, 75, 0)),
  (145, (.ireturn, 146, 0, 0, 0, 0)),
  (146, (.aload_n 0, 147, 0, 0, 0, 0)),
  (147, (.getfield 45, 150, 5, 10, 105, 0)),
  (150, (.getfield 108, 153, 3, 8, 70, 0)),
  (153, (.ireturn, 154, 0, 0, 0, 0)),
  (154, (.aload_n 0, 155, 0, 0, 0, 0)),
  (155, (.getfield 80, 158, 12, 10, 112, 0)),
  (158, (.ireturn, 159, 0, 0, 0, 0)),
  (159, (.aload_n 0, 160, 0, 0, 0, 0)),
  (160, (.getfield 69, 163, 10, 10, 110, 0)),
  (163, (.getfield 109, 166, 2, 2, 91, 0)),
  (166, (.ireturn, 167, 0, 0, 0, 0)),
  (167, (.aload_n 0, 168, 0, 0, 0, 0)),
  (168, (.getfield 10, 171, 0, 10, 100, 0)),
  (171, (.getfield 91, 174, 1, 7, 1, 0)),
  (174, (.ireturn, 175, 0, 0, 0, 0)),
  (175, (.iconst (-1), 176, 0, 0, 0, 0)),
  (176, (.ireturn, 177, 0, 0, 0, 0))]
def am_r95 : List (Nat × am_R) := [(0, (.iconst 0, 1, 0, 0, 0, 0)),
  (1, (.istore_n 1, 2, 0, 0, 0, 0)),
  (2, (.iconst 0, 3, 0, 0, 0, 0)),
  (3, (.istore_n 2, 4, 0, 0, 0, 0)),
  (4, (.iload_n 2, 5, 0, 0, 0, 0)),
  (5, (.iconst 5, 6, 0, 0, 0, 0)),
  (6, (.if_icmp .ge 18, 9, 24, 0, 0, 0)),
  (9, (.iload_n 1, 10, 0, 0, 0, 0)),
  (10, (.aload_n 0, 11, 0, 0, 0, 0)),
  (11, (.getfield 18, 14, 4, 6, 82, 0)),
  (14, (.iload_n 2, 15, 0, 0, 0, 0)),
  (15, (.iaload, 16, 0, 0, 0, 0)),
  (16, (.iadd, 17, 0, 0, 0, 0)),
  (17, (.istore_n 1, 18, 0, 0, 0, 0)),
  (18, (.iinc 2 1, 21, 0, 0, 0, 0)),
  (21, (.goto (-17), 24, 4, 0, 0, 0)),
  (24, (.iload_n 1, 25, 0, 0, 0, 0)),
  (25, (.ireturn, 26, 0, 0, 0, 0))]
def am_r96 : List (Nat × am_R) := [(0, (.iconst 0, 1, 0, 0, 0, 0)),
  (1, (.istore_n 1, 2, 0, 0, 0, 0)),
  (2, (.iconst 0, 3, 0, 0, 0, 0)),
  (3, (.istore_n 2, 4, 0, 0, 0, 0)),
  (4, (.iload_n 2, 5, 0, 0, 0, 0)),
  (5, (.bipush 6, 7, 0, 0, 0, 0)),
  (7, (.if_icmp .ge 21, 10, 28, 0, 0, 0)),
  (10, (.iload_n 1, 11, 0, 0, 0, 0)),
  (11, (.aload_n 0, 12, 0, 0, 0, 0)),
  (12, (.getfield 15, 15, 3, 6, 79, 0)),
  (15, (.iload_n 2, 16, 0, 0, 0, 0)),
  (16, (.iaload, 17, 0, 0, 0, 0)),
  (17, (.invokestatic 38, 20, 69, 1, 128, 0)),
  (20, (.iadd, 21, 0, 0, 0, 0)),
  (21, (.istore_n 1, 22, 0, 0, 0, 0)),
  (22, (.iinc 2 1, 25, 0, 0, 0, 0)),
  (25, (.goto (-21), 28, 4, 0, 0, 0)),
  (28, (.iload_n 1, 29, 0, 0, 0, 0)),
  (29, (.iconst 2, 30, 0, 0, 0, 0)),
  (30, (.idiv, 31, 0, 0, 0, 0)),
  (31, (.ireturn, 32, 0, 0, 0, 0))]
def am_r97 : List (Nat × am_R) := [(0, (.aload_n 0, 1, 0, 0, 0, 0)),
  (1, (.getfield 69, 4, 10, 10, 110, 0)),
  (4, (.aload_n 0, 5, 0, 0, 0, 0)),
  (5, (.getfield 55, 8, 7, 10, 107, 0)),
  (8, (.invokevirtual 175, 11, 98, 1, 130, 2)),
  (11, (.aload_n 0, 12, 0, 0, 0, 0)),
  (12, (.getfield 35, 15, 3, 10, 103, 0)),
  (15, (.aload_n 0, 16, 0, 0, 0, 0)),
  (16, (.getfield 55, 19, 7, 10, 107, 0)),
  (19, (.aload_n 0, 20, 0, 0, 0, 0)),
  (20, (.getfield 35, 23, 3, 10, 103, 0)),
  (23, (.aload_n 0, 24, 0, 0, 0, 0)),
  (24, (.getfield 55, 27, 7, 10, 107, 0)),
  (27, (.getfield 124, 30, 0, 6, 72, 0)),
  (30, (.iconst 1, 31, 0, 0, 0, 0)),
  (31, (.iadd, 32, 0, 0, 0, 0)),
  (32, (.invokevirtual 127, 35, 68, 1, 118, 0)),
  (35, (.invokevirtual 179, 38, 100, 2, 133, 0)),
  (38, (.ireturn, 39, 0, 0, 0, 0))]
def am_r98 : List (Nat × am_R) := [(0, (.aload_n 0, 1, 0, 0, 0, 0)),
  (1, (.aload_n 0, 2, 0, 0, 0, 0)),
  (2, (.getfield 18, 5, 1, 2, 89, 0)),
  (5, (.iconst 1, 6, 0, 0, 0, 0)),
  (6, (.iadd, 7, 0, 0, 0, 0)),
  (7, (.bipush 16, 9, 0, 0, 0, 0)),
  (9, (.irem, 10, 0, 0, 0, 0)),
  (10, (.putfield 18, 13, 1, 2, 89, 0)),
  (13, (.aload_n 0, 14, 0, 0, 0, 0)),
  (14, (.getfield 11, 17, 0, 2, 88, 0)),
  (17, (.aload_n 0, 18, 0, 0, 0, 0)),
  (18, (.getfield 18, 21, 1, 2, 89, 0)),
  (21, (.aaload, 22, 0, 0, 0, 0)),
  (22, (.aload_n 1, 23, 0, 0, 0, 0)),
  (23, (.invokevirtual 22, 26, 99, 1, 131, 6)),
  (26, (.aload_n 0, 27, 0, 0, 0, 0)),
  (27, (.aload_n 0, 28, 0, 0, 0, 0)),
  (28, (.getfield 26, 31, 2, 2, 90, 0)),
  (31, (.iconst 1, 32, 0, 0, 0, 0)),
  (32, (.iadd, 33, 0, 0, 0, 0)),
  (33, (.bipush 16, 35, 0, 0, 0, 0)),
  (35, (.invokestatic 29, 38, 29, 2, 132, 0)),
  (38, (.putfield 26, 41, 2, 2, 90, 0)),
  (41, (.return_, 42, 0, 0, 0, 0))]
def am_r99 : List (Nat × am_R) := [(0, (.aload_n 0, 1, 0, 0, 0, 0)),
  (1, (.aload_n 1, 2, 0, 0, 0, 0)),
  (2, (.getfield 24, 5, 0, 6, 71, 0)),
  (5, (.putfield 24, 8, 0, 6, 71, 0)),
  (8, (.aload_n 0, 9, 0, 0, 0, 0)),
  (9, (.aload_n 1, 10, 0, 0, 0, 0)),
  (10, (.getfield 28, 13, 1, 6, 74, 0)),
  (13, (.putfield 28, 16, 1, 6, 74, 0)),
  (16, (.iconst 0, 17, 0, 0, 0, 0)),
  (17, (.istore_n 2, 18, 0, 0, 0, 0)),
  (18, (.iload_n 2, 19, 0, 0, 0, 0)),
  (19, (.bipush 6, 21, 0, 0, 0, 0)),
  (21, (.if_icmp .ge 33, 24, 54, 0, 0, 0)),
  (24, (.aload_n 0, 25, 0, 0, 0, 0)),
  (25, (.getfield 9, 28, 2, 6, 76, 0)),
  (28, (.iload_n 2, 29, 0, 0, 0, 0)),
  (29, (.aload_n 1, 30, 0, 0, 0, 0)),
  (30, (.getfield 9, 33, 2, 6, 76, 0)),
  (33, (.iload_n 2, 34, 0, 0, 0, 0)),
  (34, (.iaload, 35, 0, 0, 0, 0)),
  (35, (.iastore, 36, 0, 0, 0, 0)),
  (36, (.aload_n 0, 37, 0, 0, 0, 0)),
  (37, (.getfield 15, 40, 3, 6, 79, 0)),
  (40, (.iload_n 2, 41, 0, 0, 0, 0)),
  (41, (.aload_n 1, 42, 0, 0, 0, 0)),
  (42, (.getfield 15, 45, 3, 6, 79, 0)),
  (45, (.iload_n 2, 46, 0, 0, 0, 0)),
  (46, (.iaload, 47, 0, 0, 0, 0)),
  (47, (.iastore, 48, 0, 0, 0, 0)),
  (48, (.iinc 2 1, 51, 0, 0, 0, 0)),
  (51, (.goto (-33), 54, 18, 0, 0, 0)),
  (54, (.iconst 0, 55, 0, 0, 0, 0)),
  (55, (.istore_n 2, 56, 0, 0, 0, 0)),
  (56, (.iload_n 2, 57, 0, 0, 0, 0)),
  (57, (.iconst 5, 58, 0, 0, 0, 0)),
  (58, (.if_icmp .ge 33, 61, 91, 0, 0, 0)),
  (61, (.aload_n 0, 62, 0, 0, 0, 0)),
  (62, (.getfield 18, 65, 4, 6, 82, 0)),
  (65, (.iload_n 2, 66, 0, 0, 0, 0)),
  (66, (.aload_n 1, 67, 0, 0, 0, 0)),
  (67, (.getfield 18, 70, 4, 6, 82, 0)),
  (70, (.iload_n 2, 71, 0, 0, 0, 0)),
  (71, (.iaload, 72, 0, 0, 0, 0)),
  (72, (.iastore, 73, 0, 0, 0, 0)),
  (73, (.aload_n 0, 74, 0, 0, 0, 0)),
  (74, (.getfield 21, 77, 5, 6, 85, 0)),
  (77, (.iload_n 2, 78, 0, 0, 0, 0)),
  (78, (.aload_n 1, 79, 0, 0, 0, 0)),
  (79, (.getfield 21, 82, 5, 6, 85, 0)),
  (82, (.iload_n 2, 83, 0, 0, 0, 0)),
  (83, (.iaload, 84, 0, 0, 0, 0)),
  (84, (.iastore, 85, 0, 0, 0, 0)),
  (85, (.iinc 2 1, 88, 0, 0, 0, 0)),
  (88, (.goto (-32), 91, 56, 0, 0, 0)),
  (91, (.return_, 92, 0, 0, 0, 0))]
def am_r100 : List (Nat × am_R) := [(0, (.aload_n 1, 1, 0, 0, 0, 0)),
  (1, (.dup, 2, 0, 0, 0, 0)),
  (2, (.getfield 72, 5, 0, 6, 73, 0)),
  (5, (.iconst 1, 6, 0, 0, 0, 0)),
  (6, (.iadd, 7, 0, 0, 0, 0)),
  (7, (.putfield 72, 10, 0, 6, 73, 0)),
  (10, (.aload_n 0, 11, 0, 0, 0, 0)),
  (11, (.aload_n 1, 12, 0, 0, 0, 0)),
  (12, (.iload_n 2, 13, 0, 0, 0, 0)),
  (13, (.invokevirtual 85, 16, 101, 2, 134, 0)),
  (16, (.iconst 0, 17, 0, 0, 0, 0)),
  (17, (.istore_n 3, 18, 0, 0, 0, 0)),
  (18, (.iconst 0, 19, 0, 0, 0, 0)),
  (19, (.istore 4, 21, 0, 0, 0, 0)),
  (21, (.iload 4, 23, 0, 0, 0, 0)),
  (23, (.aload_n 0, 24, 0, 0, 0, 0)),
  (24, (.getfield 45, 27, 4, 0, 38, 0)),
  (27, (.if_icmp .ge 58, 30, 85, 0, 0, 0)),
  (30, (.aload_n 1, 31, 0, 0, 0, 0)),
  (31, (.aload_n 1, 32, 0, 0, 0, 0)),
  (32, (.getfield 89, 35, 5, 6, 87, 0)),
  (35, (.iload 4, 37, 0, 0, 0, 0)),
  (37, (.iaload, 38, 0, 0, 0, 0)),
  (38, (.invokevirtual 92, 41, 108, 1, 143, 6)),
  (41, (.aload_n 1, 42, 0, 0, 0, 0)),
  (42, (.getfield 89, 45, 5, 6, 87, 0)),
  (45, (.iload 4, 47, 0, 0, 0, 0)),
  (47, (.iaload, 48, 0, 0, 0, 0)),
  (48, (.invokestatic 96, 51, 69, 1, 139, 0)),
  (51, (.aload_n 0, 52, 0, 0, 0, 0)),
  (52, (.getfield 28, 55, 7, 0, 46, 0)),
  (55, (.iload 4, 57, 0, 0, 0, 0)),
  (57, (.iaload, 58, 0, 0, 0, 0)),
  (58, (.if_icmp .lt 21, 61, 79, 0, 0, 0)),
  (61, (.aload_n 1, 62, 0, 0, 0, 0)),
  (62, (.getfield 102, 65, 4, 6, 84, 0)),
  (65, (.iload 4, 67, 0, 0, 0, 0)),
  (67, (.dup2, 68, 0, 0, 0, 0)),
  (68, (.iaload, 69, 0, 0, 0, 0)),
  (69, (.iconst 1, 70, 0, 0, 0, 0)),
  (70, (.iadd, 71, 0, 0, 0, 0)),
  (71, (.iastore, 72, 0, 0, 0, 0)),
  (72, (.iload_n 3, 73, 0, 0, 0, 0)),
  (73, (.iconst 1, 74, 0, 0, 0, 0)),
  (74, (.iload 4, 76, 0, 0, 0, 0)),
  (76, (.ishl, 77, 0, 0, 0, 0)),
  (77, (.ior, 78, 0, 0, 0, 0)),
  (78, (.istore_n 3, 79, 0, 0, 0, 0)),
  (79, (.iinc 4 1, 82, 0, 0, 0, 0)),
  (82, (.goto (-61), 85, 21, 0, 0, 0)),
  (85, (.iload_n 3, 86, 0, 0, 0, 0)),
  (86, (.ireturn, 87, 0, 0, 0, 0))]
def am_r101 : List (Nat × am_R) := [(0, (.iconst 0, 1, 0, 0, 0, 0)),
  (1, (.istore_n 3, 2, 0, 0, 0, 0)),
  (2, (.iload_n 3, 3, 0, 0, 0, 0)),
  (3, (.aload_n 0, 4, 0, 0, 0, 0)),
  (4, (.getfield 45, 7, 4, 0, 38, 0)),
  (7, (.if_icmp .ge 16, 10, 23, 0, 0, 0)),
  (10, (.aload_n 1, 11, 0, 0, 0, 0)),
  (11, (.getfield 89, 14, 5, 6, 87, 0)),
  (14, (.iload_n 3, 15, 0, 0, 0, 0)),
  (15, (.iconst 0, 16, 0, 0, 0, 0)),
  (16, (.iastore, 17, 0, 0, 0, 0)),
  (17, (.iinc 3 1, 20, 0, 0, 0, 0)),
  (20, (.goto (-18), 23, 2, 0, 0, 0)),
  (23, (.iconst 0, 24, 0, 0, 0, 0)),
  (24, (.istore_n 3, 25, 0, 0, 0, 0)),
  (25, (.iload_n 3, 26, 0, 0, 0, 0)),
  (26, (.aload_n 0, 27, 0, 0, 0, 0)),
  (27, (.getfield 41, 30, 0, 0, 27, 0)),
  (30, (.if_icmp .ge 75, 33, 105, 0, 0, 0)),
  (33, (.aload_n 0, 34, 0, 0, 0, 0)),
  (34, (.iload_n 3, 35, 0, 0, 0, 0)),
  (35, (.aload_n 0, 36, 0, 0, 0, 0)),
  (36, (.iload_n 3, 37, 0, 0, 0, 0)),
  (37, (.aload_n 1, 38, 0, 0, 0, 0)),
  (38, (.iload_n 2, 39, 0, 0, 0, 0)),
  (39, (.invokevirtual 105, 42, 88, 3, 135, 0)),
  (42, (.invokevirtual 109, 45, 102, 2, 136, 0)),
  (45, (.istore 4, 47, 0, 0, 0, 0)),
  (47, (.iload 4, 49, 0, 0, 0, 0)),
  (49, (.ifCond .eq 50, 52, 99, 0, 0, 0)),
  (52, (.aload_n 0, 53, 0, 0, 0, 0)),
  (53, (.iload_n 3, 54, 0, 0, 0, 0)),
  (54, (.aload_n 1, 55, 0, 0, 0, 0)),
  (55, (.iload_n 2, 56, 0, 0, 0, 0)),
  (56, (.invokevirtual 112, 59, 104, 3, 138, 0)),
  (59, (.ifCond .eq 40, 62, 99, 0, 0, 0)),
  (62, (.iconst 0, 63, 0, 0, 0, 0)),
  (63, (.istore 5, 65, 0, 0, 0, 0)),
  (65, (.iload 5, 67, 0, 0, 0, 0)),
  (67, (.aload_n 0, 68, 0, 0, 0, 0)),
  (68, (.getfield 45, 71, 4, 0, 38, 0)),
  (71, (.if_icmp .ge 28, 74, 99, 0, 0, 0)),
  (74, (.aload_n 1, 75, 0, 0, 0, 0)),
  (75, (.getfield 89, 78, 5, 6, 87, 0)),
  (78, (.iload 5, 80, 0, 0, 0, 0)),
  (80, (.dup2, 81, 0, 0, 0, 0)),
  (81, (.iaload, 82, 0, 0, 0, 0)),
  (82, (.iload 4, 84, 0, 0, 0, 0)),
  (84, (.iload 5, 86, 0, 0, 0, 0)),
  (86, (.ishr, 87, 0, 0, 0, 0)),
  (87, (.iconst 1, 88, 0, 0, 0, 0)),
  (88, (.iand, 89, 0, 0, 0, 0)),
  (89, (.iload_n 3, 90, 0, 0, 0, 0)),
  (90, (.ishl, 91, 0, 0, 0, 0)),
  (91, (.ior, 92, 0, 0, 0, 0)),
  (92, (.iastore, 93, 0, 0, 0, 0)),
  (93, (.iinc 5 1, 96, 0, 0, 0, 0)),
  (96, (.goto (-31), 99, 65, 0, 0, 0)),
  (99, (.iinc 3 1, 102, 0, 0, 0, 0)),
  (102, (.goto (-77), 105, 25, 0, 0, 0)),
  (105, (.return_, 106, 0, 0, 0, 0))]
def am_r102 : List (Nat × am_R) := [(0, (.iconst 0, 1, 0, 0, 0, 0)),
  (1, (.istore_n 3, 2, 0, 0, 0, 0)),
  (2, (.iconst 0, 3, 0, 0, 0, 0)),
  (3, (.istore 4, 5, 0, 0, 0, 0)),
  (5, (.iload 4, 7, 0, 0, 0, 0)),
  (7, (.aload_n 0, 8, 0, 0, 0, 0)),
  (8, (.getfield 45, 11, 4, 0, 38, 0)),
  (11, (.if_icmp .ge 50, 14, 61, 0, 0, 0)),
  (14, (.aload_n 0, 15, 0, 0, 0, 0)),
  (15, (.getfield 31, 18, 8, 0, 49, 0)),
  (18, (.iload 4, 20, 0, 0, 0, 0)),
  (20, (.iaload, 21, 0, 0, 0, 0)),
  (21, (.iload_n 1, 22, 0, 0, 0, 0)),
  (22, (.invokestatic 61, 25, 65, 2, 2, 1)),
  (25, (.ifCond .eq 30, 28, 55, 0, 0, 0)),
  (28, (.aload_n 0, 29, 0, 0, 0, 0)),
  (29, (.getfield 15, 32, 2, 0, 32, 0)),
  (32, (.iload_n 1, 33, 0, 0, 0, 0)),
  (33, (.iaload, 34, 0, 0, 0, 0)),
  (34, (.aload_n 0, 35, 0, 0, 0, 0)),
  (35, (.getfield 25, 38, 6, 0, 43, 0)),
  (38, (.iload 4, 40, 0, 0, 0, 0)),
  (40, (.iaload, 41, 0, 0, 0, 0)),
  (41, (.iload_n 2, 42, 0, 0, 0, 0)),
  (42, (.invokestatic 116, 45, 103, 3, 137, 0)),
  (45, (.ifCond .eq 10, 48, 55, 0, 0, 0)),
  (48, (.iload_n 3, 49, 0, 0, 0, 0)),
  (49, (.iconst 1, 50, 0, 0, 0, 0)),
  (50, (.iload 4, 52, 0, 0, 0, 0)),
  (52, (.ishl, 53, 0, 0, 0, 0)),
  (53, (.ior, 54, 0, 0, 0, 0)),
  (54, (.istore_n 3, 55, 0, 0, 0, 0)),
  (55, (.iinc 4 1, 58, 0, 0, 0, 0)),
  (58, (.goto (-53), 61, 5, 0, 0, 0)),
  (61, (.iload_n 3, 62, 0, 0, 0, 0)),
  (62, (.ireturn, 63, 0, 0, 0, 0))]
def am_r103 : List (Nat × am_R) := [(0, (.iload_n 0, 1, 0, 0, 0, 0)),
  (1, (.iconst 2, 2, 0, 0, 0, 0)),
  (2, (.if_icmp .ne 10, 5, 12, 0, 0, 0)),
  (5, (.iload_n 1, 6, 0, 0, 0, 0)),
  (6, (.iconst 1, 7, 0, 0, 0, 0)),
  (7, (.if_icmp .eq 5, 10, 12, 0, 0, 0)),
  (10, (.iconst 0, 11, 0, 0, 0, 0)),
  (11, (.ireturn, 12, 0, 0, 0, 0)),
  (12, (.iload_n 2, 13, 0, 0, 0, 0)),
  (13, (.iload_n 1, 14, 0, 0, 0, 0)),
  (14, (.if_icmp .eq 18, 17, 32, 0, 0, 0)),
  (17, (.iload_n 0, 18, 0, 0, 0, 0)),
  (18, (.iconst 1, 19, 0, 0, 0, 0)),
  (19, (.if_icmp .ne 17, 22, 36, 0, 0, 0)),
  (22, (.iload_n 2, 23, 0, 0, 0, 0)),
  (23, (.iload_n 1, 24, 0, 0, 0, 0)),
  (24, (.iconst 1, 25, 0, 0, 0, 0)),
  (25, (.iadd, 26, 0, 0, 0, 0)),
  (26, (.bipush 7, 28, 0, 0, 0, 0)),
  (28, (.irem, 29, 0, 0, 0, 0)),
  (29, (.if_icmp .ne 7, 32, 36, 0, 0, 0)),
  (32, (.iconst 1, 33, 0, 0, 0, 0)),
  (33, (.goto 4, 36, 37, 0, 0, 0)),
  (36, (.iconst 0, 37, 0, 0, 0, 0)),
  (37, (.ireturn, 38, 0, 0, 0, 0))]
def am_r104 : List (Nat × am_R) := [(0, (.aload_n 2, 1, 0, 0, 0, 0)),
  (1, (.getfield 120, 4, 3, 6, 81, 0)),
  (4, (.iload_n 1, 5, 0, 0, 0, 0)),
  (5, (.iaload, 6, 0, 0, 0, 0)),
  (6, (.invokestatic 96, 9, 69, 1, 139, 0)),
  (9, (.istore 4, 11, 0, 0, 0, 0)),
  (11, (.aload_n 0, 12, 0, 0, 0, 0)),
  (12, (.getfield 37, 15, 12, 0, 58, 0)),
  (15, (.aload_n 0, 16, 0, 0, 0, 0)),
  (16, (.iload_n 1, 17, 0, 0, 0, 0)),
  (17, (.aload_n 2, 18, 0, 0, 0, 0)),
  (18, (.invokevirtual 68, 21, 89, 2, 120, 0)),
  (21, (.aload_n 2, 22, 0, 0, 0, 0)),
  (22, (.getfield 72, 25, 0, 6, 73, 0)),
  (25, (.bipush 7, 27, 0, 0, 0, 0)),
  (27, (.idiv, 28, 0, 0, 0, 0)),
  (28, (.iload 4, 30, 0, 0, 0, 0)),
  (30, (.iload_n 3, 31, 0, 0, 0, 0)),
  (31, (.ifCond .eq 7, 34, 38, 0, 0, 0)),
  (34, (.iconst 1, 35, 0, 0, 0, 0)),
  (35, (.goto 4, 38, 39, 0, 0, 0)),
  (38, (.iconst 0, 39, 0, 0, 0, 0)),
  (39, (.invokevirtual 123, 42, 105, 4, 140, 3)),
  (42, (.ifCond .eq 7, 45, 49, 0, 0, 0)),
  (45, (.iconst 1, 46, 0, 0, 0, 0)),
  (46, (.goto 4, 49, 50, 0, 0, 0)),
  (49, (.iconst 0, 50, 0, 0, 0, 0)),
  (50, (.ireturn, 51, 0, 0, 0, 0))]
def am_r105 : List (Nat × am_R) := [(0, (.iconst 0, 1, 0, 0, 0, 0)),
  (1, (.istore 5, 3, 0, 0, 0, 0)),
  (3, (.iconst 0, 4, 0, 0, 0, 0)),
  (4, (.istore 6, 6, 0, 0, 0, 0)),
  (6, (.iload 6, 8, 0, 0, 0, 0)),
  (8, (.aload_n 0, 9, 0, 0, 0, 0)),
  (9, (.getfield 18, 12, 2, 3, 25, 0)),
  (12, (.if_icmp .ge 152, 15, 164, 0, 0, 0)),
  (15, (.aload_n 0, 16, 0, 0, 0, 0)),
  (16, (.getfield 9, 19, 0, 3, 23, 0)),
  (19, (.iload 6, 21, 0, 0, 0, 0)),
  (21, (.iaload, 22, 0, 0, 0, 0)),
  (22, (.istore 7, 24, 0, 0, 0, 0)),
  (24, (.iload 7, 26, 0, 0, 0, 0)),
  (26, (.bipush (-4), 28, 0, 0, 0, 0)),
  (28, (.if_icmp .lt 43, 31, 71, 0, 0, 0)),
  (31, (.iload 5, 33, 0, 0, 0, 0)),
  (33, (.bipush 32, 35, 0, 0, 0, 0)),
  (35, (.if_icmp .ge 36, 38, 71, 0, 0, 0)),
  (38, (.aload_n 0, 39, 0, 0, 0, 0)),
  (39, (.getfield 15, 42, 1, 3, 24, 0)),
  (42, (.iload 5, 44, 0, 0, 0, 0)),
  (44, (.iload 7, 46, 0, 0, 0, 0)),
  (46, (.ifCond .lt 8, 49, 54, 0, 0, 0)),
  (49, (.iload 7, 51, 0, 0, 0, 0)),
  (51, (.goto 13, 54, 64, 0, 0, 0)),
  (54, (.iload 7, 56, 0, 0, 0, 0)),
  (56, (.iload_n 1, 57, 0, 0, 0, 0)),
  (57, (.iload_n 2, 58, 0, 0, 0, 0)),
  (58, (.iload_n 3, 59, 0, 0, 0, 0)),
  (59, (.iload 4, 61, 0, 0, 0, 0)),
  (61, (.invokestatic 22, 64, 106, 5, 141, 0)),
  (64, (.iastore, 65, 0, 0, 0, 0)),
  (65, (.iinc 5 1, 68, 0, 0, 0, 0)),
  (68, (.goto 90, 71, 158, 0, 0, 0)),
  (71, (.iload 7, 73, 0, 0, 0, 0)),
  (73, (.bipush (-5), 75, 0, 0, 0, 0)),
  (75, (.if_icmp .ne 37, 78, 112, 0, 0, 0)),
  (78, (.iload 5, 80, 0, 0, 0, 0)),
  (80, (.ifCond .le 32, 83, 112, 0, 0, 0)),
  (83, (.aload_n 0, 84, 0, 0, 0, 0)),
  (84, (.getfield 15, 87, 1, 3, 24, 0)),
  (87, (.iload 5, 89, 0, 0, 0, 0)),
  (89, (.iconst 1, 90, 0, 0, 0, 0)),
  (90, (.isub, 91, 0, 0, 0, 0)),
  (91, (.aload_n 0, 92, 0, 0, 0, 0)),
  (92, (.getfield 15, 95, 1, 3, 24, 0)),
  (95, (.iload 5, 97, 0, 0, 0, 0)),
  (97, (.iconst 1, 98, 0, 0, 0, 0)),
  (98, (.isub, 99, 0, 0, 0, 0)),
  (99, (.iaload, 100, 0, 0, 0, 0)),
  (100, (.ifCond .ne 7, 103, 107, 0, 0, 0)),
  (103, (.iconst 1, 104, 0, 0, 0, 0)),
  (104, (.goto 4, 107, 108, 0, 0, 0)),
  (107, (.iconst 0, 108, 0, 0, 0, 0)),
  (108, (.iastore, 109, 0, 0, 0, 0)),
  (109, (.goto 49, 112, 158, 0, 0, 0)),
  (112, (.iload 7, 114, 0, 0, 0, 0)),
  (114, (.bipush (-5), 116, 0, 0, 0, 0)),
  (116, (.if_icmp .ge 42, 119, 158, 0, 0, 0)),
  (119, (.iload 5, 121, 0, 0, 0, 0)),
  (121, (.iconst 1, 122, 0, 0, 0, 0)),
  (122, (.if_icmp .le 36, 125, 158, 0, 0, 0)),
  (125, (.iinc 5 (-1), 128, 0, 0, 0, 0)),
  (128, (.aload_n 0, 129, 0, 0, 0, 0)),
  (129, (.getfield 15, 132, 1, 3, 24, 0)),
  (132, (.iload 5, 134, 0, 0, 0, 0)),
  (134, (.iconst 1, 135, 0, 0, 0, 0)),
  (135, (.isub, 136, 0, 0, 0, 0)),
  (136, (.iload 7, 138, 0, 0, 0, 0)),
  (138, (.aload_n 0, 139, 0, 0, 0, 0)),
  (139, (.getfield 15, 142, 1, 3, 24, 0)),
  (142, (.iload 5, 144, 0, 0, 0, 0)),
  (144, (.iconst 1, 145, 0, 0, 0, 0)),
  (145, (.isub, 146, 0, 0, 0, 0)),
  (146, (.iaload, 147, 0, 0, 0, 0)),
  (147, (.aload_n 0, 148, 0, 0, 0, 0)),
  (148, (.getfield 15, 151, 1, 3, 24, 0)),
  (151, (.iload 5, 153, 0, 0, 0, 0)),
  (153, (.iaload, 154, 0, 0, 0, 0)),
  (154, (.invokestatic 26, 157, 107, 3, 142, 0)),
  (157, (.iastore, 158, 0, 0, 0, 0)),
  (158, (.iinc 6 1, 161, 0, 0, 0, 0)),
  (161, (.goto (-155), 164, 6, 0, 0, 0)),
  (164, (.iload 5, 166, 0, 0, 0, 0)),
  (166, (.ifCond .le 12, 169, 178, 0, 0, 0)),
  (169, (.aload_n 0, 170, 0, 0, 0, 0)),
  (170, (.getfield 15, 173, 1, 3, 24, 0)),
  (173, (.iconst 0, 174, 0, 0, 0, 0)),
  (174, (.iaload, 175, 0, 0, 0, 0)),
  (175, (.goto 4, 178, 179, 0, 0, 0)),
  (178, (.iconst 1, 179, 0, 0, 0, 0)),
  (179, (.ireturn, 180, 0, 0, 0, 0))]
def am_r106 : List (Nat × am_R) := [(0, (.iload_n 0, 1, 0, 0, 0, 0)),
  (1, (.tableswitch 33 (-3) (-1) #[31, 29, 27], 28, 0, 0, 0, 0)),
  (28, (.iload_n 1, 29, 0, 0, 0, 0)),
  (29, (.ireturn, 30, 0, 0, 0, 0)),
  (30, (.iload_n 2, 31, 0, 0, 0, 0)),
  (31, (.ireturn, 32, 0, 0, 0, 0)),
  (32, (.iload_n 3, 33, 0, 0, 0, 0)),
  (33, (.ireturn, 34, 0, 0, 0, 0)),
  (34, (.iload 4, 36, 0, 0, 0, 0)),
  (36, (.ireturn, 37, 0, 0, 0, 0))]
def am_r107 : List (Nat × am_R) := [(0, (.iload_n 0, 1, 0, 0, 0, 0)),
  (1, (.tableswitch 97 (-11) (-6) #[93, 89, 78, 67, 53, 39], 40, 0, 0, 0, 0)),
  (40, (.iload_n 1, 41, 0, 0, 0, 0)),
  (41, (.ifCond .eq 11, 44, 52, 0, 0, 0)),
  (44, (.iload_n 2, 45, 0, 0, 0, 0)),
  (45, (.ifCond .eq 7, 48, 52, 0, 0, 0)),
  (48, (.iconst 1, 49, 0, 0, 0, 0)),
  (49, (.goto 4, 52, 53, 0, 0, 0)),
  (52, (.iconst 0, 53, 0, 0, 0, 0)),
  (53, (.ireturn, 54, 0, 0, 0, 0)),
  (54, (.iload_n 1, 55, 0, 0, 0, 0)),
  (55, (.ifCond .ne 7, 58, 62, 0, 0, 0)),
  (58, (.iload_n 2, 59, 0, 0, 0, 0)),
  (59, (.ifCond .eq 7, 62, 66, 0, 0, 0)),
  (62, (.iconst 1, 63, 0, 0, 0, 0)),
  (63, (.goto 4, 66, 67, 0, 0, 0)),
  (66, (.iconst 0, 67, 0, 0, 0, 0)),
  (67, (.ireturn, 68, 0, 0, 0, 0)),
  (68, (.iload_n 1, 69, 0, 0, 0, 0)),
  (69, (.iload_n 2, 70, 0, 0, 0, 0)),
  (70, (.if_icmp .ge 7, 73, 77, 0, 0, 0)),
  (73, (.iconst 1, 74, 0, 0, 0, 0)),
  (74, (.goto 4, 77, 78, 0, 0, 0)),
  (77, (.iconst 0, 78, 0, 0, 0, 0)),
  (78, (.ireturn, 79, 0, 0, 0, 0)),
  (79, (.iload_n 1, 80, 0, 0, 0, 0)),
  (80, (.iload_n 2, 81, 0, 0, 0, 0)),
  (81, (.if_icmp .ne 7, 84, 88, 0, 0, 0)),
  (84, (.iconst 1, 85, 0, 0, 0, 0)),
  (85, (.goto 4, 88, 89, 0, 0, 0)),
  (88, (.iconst 0, 89, 0, 0, 0, 0)),
  (89, (.ireturn, 90, 0, 0, 0, 0)),
  (90, (.iload_n 1, 91, 0, 0, 0, 0)),
  (91, (.iload_n 2, 92, 0, 0, 0, 0)),
  (92, (.iadd, 93, 0, 0, 0, 0)),
  (93, (.ireturn, 94, 0, 0, 0, 0)),
  (94, (.iload_n 1, 95, 0, 0, 0, 0)),
  (95, (.iload_n 2, 96, 0, 0, 0, 0)),
  (96, (.isub, 97, 0, 0, 0, 0)),
  (97, (.ireturn, 98, 0, 0, 0, 0)),
  (98, (.iload_n 1, 99, 0, 0, 0, 0)),
  (99, (.iload_n 2, 100, 0, 0, 0, 0)),
  (100, (.imul, 101, 0, 0, 0, 0)),
  (101, (.ireturn, 102, 0, 0, 0, 0))]
def am_r108 : List (Nat × am_R) := [(0, (.iconst 0, 1, 0, 0, 0, 0)),
  (1, (.istore_n 2, 2, 0, 0, 0, 0)),
  (2, (.iload_n 2, 3, 0, 0, 0, 0)),
  (3, (.bipush 6, 5, 0, 0, 0, 0)),
  (5, (.if_icmp .ge 33, 8, 38, 0, 0, 0)),
  (8, (.iload_n 1, 9, 0, 0, 0, 0)),
  (9, (.iload_n 2, 10, 0, 0, 0, 0)),
  (10, (.invokestatic 34, 13, 65, 2, 3, 1)),
  (13, (.ifCond .eq 19, 16, 32, 0, 0, 0)),
  (16, (.aload_n 0, 17, 0, 0, 0, 0)),
  (17, (.getfield 15, 20, 3, 6, 79, 0)),
  (20, (.iload_n 2, 21, 0, 0, 0, 0)),
  (21, (.dup2, 22, 0, 0, 0, 0)),
  (22, (.iaload, 23, 0, 0, 0, 0)),
  (23, (.iload_n 1, 24, 0, 0, 0, 0)),
  (24, (.iconst 1, 25, 0, 0, 0, 0)),
  (25, (.iload_n 2, 26, 0, 0, 0, 0)),
  (26, (.ishl, 27, 0, 0, 0, 0)),
  (27, (.iconst (-1), 28, 0, 0, 0, 0)),
  (28, (.ixor, 29, 0, 0, 0, 0)),
  (29, (.iand, 30, 0, 0, 0, 0)),
  (30, (.ior, 31, 0, 0, 0, 0)),
  (31, (.iastore, 32, 0, 0, 0, 0)),
  (32, (.iinc 2 1, 35, 0, 0, 0, 0)),
  (35, (.goto (-33), 38, 2, 0, 0, 0)),
  (38, (.return_, 39, 0, 0, 0, 0))]
def am_r109 : List (Nat × am_R) := [(0, (.aload_n 0, 1, 0, 0, 0, 0)),
  (1, (.iload_n 1, 2, 0, 0, 0, 0)),
  (2, (.invokevirtual 114, 5, 87, 1, 117, 10)),
  (5, (.ifCond .eq 12, 8, 17, 0, 0, 0)),
  (8, (.iload_n 2, 9, 0, 0, 0, 0)),
  (9, (.iconst 0, 10, 0, 0, 0, 0)),
  (10, (.iconst 4, 11, 0, 0, 0, 0)),
  (11, (.invokestatic 183, 14, 60, 3, 145, 0)),
  (14, (.ifCond .ne 5, 17, 19, 0, 0, 0)),
  (17, (.iconst (-1), 18, 0, 0, 0, 0)),
  (18, (.ireturn, 19, 0, 0, 0, 0)),
  (19, (.aload_n 0, 20, 0, 0, 0, 0)),
  (20, (.getfield 69, 23, 10, 10, 110, 0)),
  (23, (.aload_n 0, 24, 0, 0, 0, 0)),
  (24, (.getfield 55, 27, 7, 10, 107, 0)),
  (27, (.invokevirtual 175, 30, 98, 1, 130, 2)),
  (30, (.aload_n 0, 31, 0, 0, 0, 0)),
  (31, (.getfield 55, 34, 7, 10, 107, 0)),
  (34, (.getfield 121, 37, 2, 6, 78, 0)),
  (37, (.iload_n 1, 38, 0, 0, 0, 0)),
  (38, (.iaload, 39, 0, 0, 0, 0)),
  (39, (.istore_n 3, 40, 0, 0, 0, 0)),
  (40, (.aload_n 0, 41, 0, 0, 0, 0)),
  (41, (.getfield 55, 44, 7, 10, 107, 0)),
  (44, (.getfield 121, 47, 2, 6, 78, 0)),
  (47, (.iload_n 1, 48, 0, 0, 0, 0)),
  (48, (.iload_n 2, 49, 0, 0, 0, 0)),
  (49, (.iastore, 50, 0, 0, 0, 0)),
  (50, (.iload_n 3, 51, 0, 0, 0, 0)),
  (51, (.ireturn, 52, 0, 0, 0, 0))]
def am_r110 : List (Nat × am_R) := [(0, (.aload_n 0, 1, 0, 0, 0, 0)),
  (1, (.iload_n 1, 2, 0, 0, 0, 0)),
  (2, (.invokevirtual 114, 5, 87, 1, 117, 10)),
  (5, (.ifCond .ne 5, 8, 10, 0, 0, 0)),
  (8, (.iconst (-1), 9, 0, 0, 0, 0)),
  (9, (.ireturn, 10, 0, 0, 0, 0)),
  (10, (.aload_n 0, 11, 0, 0, 0, 0)),
  (11, (.getfield 69, 14, 10, 10, 110, 0)),
  (14, (.aload_n 0, 15, 0, 0, 0, 0)),
  (15, (.getfield 55, 18, 7, 10, 107, 0)),
  (18, (.invokevirtual 175, 21, 98, 1, 130, 2)),
  (21, (.aload_n 0, 22, 0, 0, 0, 0)),
  (22, (.getfield 55, 25, 7, 10, 107, 0)),
  (25, (.iload_n 1, 26, 0, 0, 0, 0)),
  (26, (.invokevirtual 187, 29, 111, 1, 147, 6)),
  (29, (.aload_n 0, 30, 0, 0, 0, 0)),
  (30, (.getfield 55, 33, 7, 10, 107, 0)),
  (33, (.getfield 172, 36, 1, 6, 75, 0)),
  (36, (.ireturn, 37, 0, 0, 0, 0))]
def am_r111 : List (Nat × am_R) := [(0, (.aload_n 0, 1, 0, 0, 0, 0)),
  (1, (.getfield 9, 4, 2, 6, 76, 0)),
  (4, (.iload_n 1, 5, 0, 0, 0, 0)),
  (5, (.iconst 2, 6, 0, 0, 0, 0)),
  (6, (.iastore, 7, 0, 0, 0, 0)),
  (7, (.aload_n 0, 8, 0, 0, 0, 0)),
  (8, (.dup, 9, 0, 0, 0, 0)),
  (9, (.getfield 28, 12, 1, 6, 74, 0)),
  (12, (.iconst 1, 13, 0, 0, 0, 0)),
  (13, (.iadd, 14, 0, 0, 0, 0)),
  (14, (.putfield 28, 17, 1, 6, 74, 0)),
  (17, (.return_, 18, 0, 0, 0, 0))]
def am_r112 : List (Nat × am_R) := [(0, (.aload_n 0, 1, 0, 0, 0, 0)),
  (1, (.getfield 69, 4, 10, 10, 110, 0)),
  (4, (.aload_n 0, 5, 0, 0, 0, 0)),
  (5, (.getfield 55, 8, 7, 10, 107, 0)),
  (8, (.invokevirtual 191, 11, 113, 1, 149, 2)),
  (11, (.ireturn, 12, 0, 0, 0, 0))]
def am_r113 : List (Nat × am_R) := [(0, (.aload_n 0, 1, 0, 0, 0, 0)),
  (1, (.getfield 26, 4, 2, 2, 90, 0)),
  (4, (.ifCond .ne 5, 7, 9, 0, 0, 0)),
  (7, (.iconst 0, 8, 0, 0, 0, 0)),
  (8, (.ireturn, 9, 0, 0, 0, 0)),
  (9, (.aload_n 1, 10, 0, 0, 0, 0)),
  (10, (.aload_n 0, 11, 0, 0, 0, 0)),
  (11, (.getfield 11, 14, 0, 2, 88, 0)),
  (14, (.aload_n 0, 15, 0, 0, 0, 0)),
  (15, (.getfield 18, 18, 1, 2, 89, 0)),
  (18, (.aaload, 19, 0, 0, 0, 0)),
  (19, (.invokevirtual 22, 22, 99, 1, 131, 6)),
  (22, (.aload_n 0, 23, 0, 0, 0, 0)),
  (23, (.aload_n 0, 24, 0, 0, 0, 0)),
  (24, (.getfield 18, 27, 1, 2, 89, 0)),
  (27, (.bipush 16, 29, 0, 0, 0, 0)),
  (29, (.iadd, 30, 0, 0, 0, 0)),
  (30, (.iconst 1, 31, 0, 0, 0, 0)),
  (31, (.isub, 32, 0, 0, 0, 0)),
  (32, (.bipush 16, 34, 0, 0, 0, 0)),
  (34, (.irem, 35, 0, 0, 0, 0)),
  (35, (.putfield 18, 38, 1, 2, 89, 0)),
  (38, (.aload_n 0, 39, 0, 0, 0, 0)),
  (39, (.dup, 40, 0, 0, 0, 0)),
  (40, (.getfield 26, 43, 2, 2, 90, 0)),
  (43, (.iconst 1, 44, 0, 0, 0, 0)),
  (44, (.isub, 45, 0, 0, 0, 0)),
  (45, (.putfield 26, 48, 2, 2, 90, 0)),
  (48, (.iconst 1, 49, 0, 0, 0, 0)),
  (49, (.ireturn, 50, 0, 0, 0, 0))]
def am_r114 : List (Nat × am_R) := [(0, (.iload_n 1, 1, 0, 0, 0, 0)),
  (1, (.iconst 0, 2, 0, 0, 0, 0)),
  (2, (.iconst 3, 3, 0, 0, 0, 0)),
  (3, (.invokestatic 183, 6, 60, 3, 145, 0)),
  (6, (.ifCond .ne 5, 9, 11, 0, 0, 0)),
  (9, (.iconst 0, 10, 0, 0, 0, 0)),
  (10, (.ireturn, 11, 0, 0, 0, 0)),
  (11, (.aload_n 0, 12, 0, 0, 0, 0)),
  (12, (.getfield 75, 15, 11, 10, 111, 0)),
  (15, (.iload_n 1, 16, 0, 0, 0, 0)),
  (16, (.aaload, 17, 0, 0, 0, 0)),
  (17, (.astore_n 3, 18, 0, 0, 0, 0)),
  (18, (.iload_n 2, 19, 0, 0, 0, 0)),
  (19, (.ifCond .ne 21, 22, 40, 0, 0, 0)),
  (22, (.aload_n 3, 23, 0, 0, 0, 0)),
  (23, (.aload_n 0, 24, 0, 0, 0, 0)),
  (24, (.getfield 55, 27, 7, 10, 107, 0)),
  (27, (.aload_n 0, 28, 0, 0, 0, 0)),
  (28, (.getfield 80, 31, 12, 10, 112, 0)),
  (31, (.aload_n 0, 32, 0, 0, 0, 0)),
  (32, (.getfield 84, 35, 13, 10, 113, 0)),
  (35, (.invokevirtual 195, 38, 115, 3, 151, 5)),
  (38, (.iconst 1, 39, 0, 0, 0, 0)),
  (39, (.ireturn, 40, 0, 0, 0, 0)),
  (40, (.aload_n 3, 41, 0, 0, 0, 0)),
  (41, (.getfield 110, 44, 0, 5, 93, 0)),
  (44, (.ifCond .ne 5, 47, 49, 0, 0, 0)),
  (47, (.iconst 0, 48, 0, 0, 0, 0)),
  (48, (.ireturn, 49, 0, 0, 0, 0)),
  (49, (.aload_n 0, 50, 0, 0, 0, 0)),
  (50, (.getfield 55, 53, 7, 10, 107, 0)),
  (53, (.aload_n 3, 54, 0, 0, 0, 0)),
  (54, (.getfield 199, 57, 1, 5, 95, 0)),
  (57, (.invokevirtual 202, 60, 99, 1, 153, 6)),
  (60, (.aload_n 0, 61, 0, 0, 0, 0)),
  (61, (.aload_n 3, 62, 0, 0, 0, 0)),
  (62, (.getfield 205, 65, 2, 5, 97, 0)),
  (65, (.putfield 80, 68, 12, 10, 112, 0)),
  (68, (.aload_n 0, 69, 0, 0, 0, 0)),
  (69, (.aload_n 3, 70, 0, 0, 0, 0)),
  (70, (.getfield 206, 73, 3, 5, 99, 0)),
  (73, (.putfield 84, 76, 13, 10, 113, 0)),
  (76, (.aload_n 0, 77, 0, 0, 0, 0)),
  (77, (.getfield 69, 80, 10, 10, 110, 0)),
  (80, (.iconst 0, 81, 0, 0, 0, 0)),
  (81, (.putfield 109, 84, 2, 2, 91, 0)),
  (84, (.iconst 1, 85, 0, 0, 0, 0)),
  (85, (.ireturn, 86, 0, 0, 0, 0))]
def am_r115 : List (Nat × am_R) := [(0, (.aload_n 0, 1, 0, 0, 0, 0)),
  (1, (.iconst 1, 2, 0, 0, 0, 0)),
  (2, (.putfield 16, 5, 0, 5, 92, 0)),
  (5, (.aload_n 0, 6, 0, 0, 0, 0)),
  (6, (.getfield 10, 9, 1, 5, 94, 0)),
  (9, (.aload_n 1, 10, 0, 0, 0, 0)),
  (10, (.invokevirtual 20, 13, 99, 1, 152, 6)),
  (13, (.aload_n 0, 14, 0, 0, 0, 0)),
  (14, (.iload_n 2, 15, 0, 0, 0, 0)),
  (15, (.putfield 24, 18, 2, 5, 96, 0)),
  (18, (.aload_n 0, 19, 0, 0, 0, 0)),
  (19, (.iload_n 3, 20, 0, 0, 0, 0)),
  (20, (.putfield 28, 23, 3, 5, 98, 0)),
  (23, (.return_, 24, 0, 0, 0, 0))]
def am_r116 : List (Nat × am_R) := [(0, (.iload_n 1, 1, 0, 0, 0, 0)),
  (1, (.iconst 0, 2, 0, 0, 0, 0)),
  (2, (.iconst 2, 3, 0, 0, 0, 0)),
  (3, (.invokestatic 183, 6, 60, 3, 145, 0)),
  (6, (.ifCond .ne 6, 9, 12, 0, 0, 0)),
  (9, (.bipush (-2), 11, 0, 0, 0, 0)),
  (11, (.ireturn, 12, 0, 0, 0, 0)),
  (12, (.iconst (-1), 13, 0, 0, 0, 0)),
  (13, (.istore_n 2, 14, 0, 0, 0, 0)),
  (14, (.iconst (-1), 15, 0, 0, 0, 0)),
  (15, (.istore_n 3, 16, 0, 0, 0, 0)),
  (16, (.aload_n 0, 17, 0, 0, 0, 0)),
  (17, (.getfield 59, 20, 8, 10, 108, 0)),
  (20, (.aload_n 0, 21, 0, 0, 0, 0)),
  (21, (.getfield 35, 24, 3, 10, 103, 0)),
  (24, (.invokevirtual 104, 27, 79, 1, 101, 6)),
  (27, (.iconst 0, 28, 0, 0, 0, 0)),
  (28, (.istore 4, 30, 0, 0, 0, 0)),
  (30, (.iload 4, 32, 0, 0, 0, 0)),
  (32, (.aload_n 0, 33, 0, 0, 0, 0)),
  (33, (.getfield 45, 36, 5, 10, 105, 0)),
  (36, (.getfield 108, 39, 3, 8, 70, 0)),
  (39, (.if_icmp .ge 48, 42, 87, 0, 0, 0)),
  (42, (.aload_n 0, 43, 0, 0, 0, 0)),
  (43, (.iload 4, 45, 0, 0, 0, 0)),
  (45, (.invokevirtual 207, 48, 117, 1, 155, 10)),
  (48, (.istore 5, 50, 0, 0, 0, 0)),
  (50, (.iload_n 2, 51, 0, 0, 0, 0)),
  (51, (.iconst (-1), 52, 0, 0, 0, 0)),
  (52, (.if_icmp .ne 11, 55, 63, 0, 0, 0)),
  (55, (.iload 5, 57, 0, 0, 0, 0)),
  (57, (.ifCond .eq 6, 60, 63, 0, 0, 0)),
  (60, (.iload 4, 62, 0, 0, 0, 0)),
  (62, (.istore_n 2, 63, 0, 0, 0, 0)),
  (63, (.iload_n 3, 64, 0, 0, 0, 0)),
  (64, (.iconst (-1), 65, 0, 0, 0, 0)),
  (65, (.if_icmp .ne 16, 68, 81, 0, 0, 0)),
  (68, (.aload_n 0, 69, 0, 0, 0, 0)),
  (69, (.getfield 59, 72, 8, 10, 108, 0)),
  (72, (.invokevirtual 169, 75, 96, 0, 127, 6)),
  (75, (.ifCond .le 6, 78, 81, 0, 0, 0)),
  (78, (.iload 4, 80, 0, 0, 0, 0)),
  (80, (.istore_n 3, 81, 0, 0, 0, 0)),
  (81, (.iinc 4 1, 84, 0, 0, 0, 0)),
  (84, (.goto (-54), 87, 30, 0, 0, 0)),
  (87, (.iload_n 1, 88, 0, 0, 0, 0)),
  (88, (.iconst 2, 89, 0, 0, 0, 0)),
  (89, (.if_icmp .ne 11, 92, 100, 0, 0, 0)),
  (92, (.aload_n 0, 93, 0, 0, 0, 0)),
  (93, (.getfield 59, 96, 8, 10, 108, 0)),
  (96, (.invokevirtual 165, 99, 95, 0, 126, 6)),
  (99, (.ireturn, 100, 0, 0, 0, 0)),
  (100, (.iload_n 1, 101, 0, 0, 0, 0)),
  (101, (.ifCond .ne 7, 104, 108, 0, 0, 0)),
  (104, (.iload_n 2, 105, 0, 0, 0, 0)),
  (105, (.goto 4, 108, 109, 0, 0, 0)),
  (108, (.iload_n 3, 109, 0, 0, 0, 0)),
  (109, (.ireturn, 110, 0, 0, 0, 0))]
def am_r117 : List (Nat × am_R) := [(0, (.aload_n 0, 1, 0, 0, 0, 0)),
  (1, (.getfield 45, 4, 5, 10, 105, 0)),
  (4, (.getfield 210, 7, 1, 8, 65, 0)),
  (7, (.iload_n 1, 8, 0, 0, 0, 0)),
  (8, (.iaload, 9, 0, 0, 0, 0)),
  (9, (.istore_n 2, 10, 0, 0, 0, 0)),
  (10, (.aload_n 0, 11, 0, 0, 0, 0)),
  (11, (.getfield 45, 14, 5, 10, 105, 0)),
  (14, (.getfield 212, 17, 0, 8, 62, 0)),
  (17, (.iload_n 1, 18, 0, 0, 0, 0)),
  (18, (.iaload, 19, 0, 0, 0, 0)),
  (19, (.lookupswitch 55 #[(1, 25), (2, 45)], 44, 0, 0, 0, 0)),
  (44, (.aload_n 0, 45, 0, 0, 0, 0)),
  (45, (.getfield 59, 48, 8, 10, 108, 0)),
  (48, (.getfield 121, 51, 2, 6, 78, 0)),
  (51, (.iload_n 2, 52, 0, 0, 0, 0)),
  (52, (.aload_n 0, 53, 0, 0, 0, 0)),
  (53, (.getfield 45, 56, 5, 10, 105, 0)),
  (56, (.getfield 215, 59, 2, 8, 68, 0)),
  (59, (.iload_n 1, 60, 0, 0, 0, 0)),
  (60, (.iaload, 61, 0, 0, 0, 0)),
  (61, (.iastore, 62, 0, 0, 0, 0)),
  (62, (.iconst 0, 63, 0, 0, 0, 0)),
  (63, (.ireturn, 64, 0, 0, 0, 0)),
  (64, (.aload_n 0, 65, 0, 0, 0, 0)),
  (65, (.getfield 59, 68, 8, 10, 108, 0)),
  (68, (.iload_n 2, 69, 0, 0, 0, 0)),
  (69, (.invokevirtual 187, 72, 111, 1, 147, 6)),
  (72, (.iconst 0, 73, 0, 0, 0, 0)),
  (73, (.ireturn, 74, 0, 0, 0, 0)),
  (74, (.aload_n 0, 75, 0, 0, 0, 0)),
  (75, (.invokevirtual 216, 78, 118, 0, 156, 10)),
  (78, (.ireturn, 79, 0, 0, 0, 0))]
def am_r118 : List (Nat × am_R) := [(0, (.aload_n 0, 1, 0, 0, 0, 0)),
  (1, (.getfield 35, 4, 3, 10, 103, 0)),
  (4, (.aload_n 0, 5, 0, 0, 0, 0)),
  (5, (.getfield 59, 8, 8, 10, 108, 0)),
  (8, (.aload_n 0, 9, 0, 0, 0, 0)),
  (9, (.getfield 35, 12, 3, 10, 103, 0)),
  (12, (.aload_n 0, 13, 0, 0, 0, 0)),
  (13, (.getfield 59, 16, 8, 10, 108, 0)),
  (16, (.getfield 124, 19, 0, 6, 72, 0)),
  (19, (.iconst 1, 20, 0, 0, 0, 0)),
  (20, (.iadd, 21, 0, 0, 0, 0)),
  (21, (.invokevirtual 127, 24, 68, 1, 118, 0)),
  (24, (.invokevirtual 179, 27, 100, 2, 133, 0)),
  (27, (.ireturn, 28, 0, 0, 0, 0))]
def am_r119 : List (Nat × am_R) := [(0, (.aload_n 0, 1, 0, 0, 0, 0)),
  (1, (.iload_n 1, 2, 0, 0, 0, 0)),
  (2, (.invokevirtual 141, 5, 93, 1, 124, 10)),
  (5, (.ifCond .eq 13, 8, 18, 0, 0, 0)),
  (8, (.iload_n 2, 9, 0, 0, 0, 0)),
  (9, (.iconst 1, 10, 0, 0, 0, 0)),
  (10, (.bipush 60, 12, 0, 0, 0, 0)),
  (12, (.invokestatic 183, 15, 60, 3, 145, 0)),
  (15, (.ifCond .ne 5, 18, 20, 0, 0, 0)),
  (18, (.iconst (-1), 19, 0, 0, 0, 0)),
  (19, (.ireturn, 20, 0, 0, 0, 0)),
  (20, (.aload_n 0, 21, 0, 0, 0, 0)),
  (21, (.getfield 59, 24, 8, 10, 108, 0)),
  (24, (.aload_n 0, 25, 0, 0, 0, 0)),
  (25, (.getfield 55, 28, 7, 10, 107, 0)),
  (28, (.invokevirtual 202, 31, 99, 1, 153, 6)),
  (31, (.iconst 1, 32, 0, 0, 0, 0)),
  (32, (.istore_n 3, 33, 0, 0, 0, 0)),
  (33, (.iload_n 3, 34, 0, 0, 0, 0)),
  (34, (.iload_n 2, 35, 0, 0, 0, 0)),
  (35, (.if_icmp .gt 14, 38, 49, 0, 0, 0)),
  (38, (.aload_n 0, 39, 0, 0, 0, 0)),
  (39, (.invokevirtual 216, 42, 118, 0, 156, 10)),
  (42, (.pop, 43, 0, 0, 0, 0)),
  (43, (.iinc 3 1, 46, 0, 0, 0, 0)),
  (46, (.goto (-13), 49, 33, 0, 0, 0)),
  (49, (.aload_n 0, 50, 0, 0, 0, 0)),
  (50, (.getfield 59, 53, 8, 10, 108, 0)),
  (53, (.getfield 156, 56, 5, 6, 86, 0)),
  (56, (.iload_n 1, 57, 0, 0, 0, 0)),
  (57, (.iaload, 58, 0, 0, 0, 0)),
  (58, (.ireturn, 59, 0, 0, 0, 0))]
def am_inf_2 : List (List (Nat × am_R) × Nat × Option FieldType) := [(am_r80, 3, (Option.some Jvm.ClassFile.FieldType.int)), (am_r81, 5, (Option.some Jvm.ClassFile.FieldType.int)), (am_r82, 5, (Option.some Jvm.ClassFile.FieldType.boolean)), (am_r83, 1, (Option.some Jvm.ClassFile.FieldType.int)), (am_r84, 4, (Option.some Jvm.ClassFile.FieldType.boolean)), (am_r85, 2, (Option.some Jvm.ClassFile.FieldType.boolean)), (am_r86, 3, (Option.some Jvm.ClassFile.FieldType.int)), (am_r87, 2, (Option.some Jvm.ClassFile.FieldType.boolean)), (am_r88, 5, (Option.some Jvm.ClassFile.FieldType.int)), (am_r89, 3, (Option.some Jvm.ClassFile.FieldType.int)), (am_r90, 3, (Option.some Jvm.ClassFile.FieldType.int)), (am_r91, 4, (Option.some Jvm.ClassFile.FieldType.int)), (am_r92, 3, (Option.some Jvm.ClassFile.FieldType.int)), (am_r93, 2, (Option.some Jvm.ClassFile.FieldType.boolean)), (am_r94, 2, (Option.some Jvm.ClassFile.FieldType.int)), (am_r95, 3, (Option.some Jvm.ClassFile.FieldType.int)), (am_r96, 3, (Option.some Jvm.ClassFile.FieldType.int)), (am_r97, 1, (Option.some Jvm.ClassFile.FieldType.int)), (am_r98, 2, (Option.none : Option Jvm.ClassFile.FieldType)), (am_r99, 3, (Option.none : Option Jvm.ClassFile.FieldType)), (am_r100, 5, (Option.some Jvm.ClassFile.FieldType.int)), (am_r101, 6, (Option.none : Option Jvm.ClassFile.FieldType)), (am_r102, 5, (Option.some Jvm.ClassFile.FieldType.int)), (am_r103, 3, (Option.some Jvm.ClassFile.FieldType.boolean)), (am_r104, 5, (Option.some Jvm.ClassFile.FieldType.boolean)), (am_r105, 8, (Option.some Jvm.ClassFile.FieldType.int)), (am_r106, 5, (Option.some Jvm.ClassFile.FieldType.int)), (am_r107, 3, (Option.some Jvm.ClassFile.FieldType.int)), (am_r108, 3, (Option.none : Option Jvm.ClassFile.FieldType)), (am_r109, 4, (Option.some Jvm.ClassFile.FieldType.int)), (am_r110, 2, (Option.some Jvm.ClassFile.FieldType.int)), (am_r111, 2, (Option.none : Option Jvm.ClassFile.FieldType)), (am_r112, 1, (Option.some Jvm.ClassFile.FieldType.boolean)), (am_r113, 2, (Option.some Jvm.ClassFile.FieldType.boolean)), (am_r114, 4, (Option.some Jvm.ClassFile.FieldType.boolean)), (am_r115, 4, (Option.none : Option Jvm.ClassFile.FieldType)), (am_r116, 6, (Option.some Jvm.ClassFile.FieldType.int)), (am_r117, 3, (Option.some Jvm.ClassFile.FieldType.int)), (am_r118, 1, (Option.some Jvm.ClassFile.FieldType.int)), (am_r119, 4, (Option.some Jvm.ClassFile.FieldType.int))]
theorem am_ck_2_0 : ((am_mi_2.zip am_inf_2).take 10).all am_chk = true := by decide +kernel
theorem am_ck_2_1 : (((am_mi_2.zip am_inf_2).drop 10).take 10).all am_chk = true := by decide +kernel
theorem am_ck_2_2 : (((am_mi_2.zip am_inf_2).drop 20).take 10).all am_chk = true := by decide +kernel
theorem am_ck_2_3 : (((am_mi_2.zip am_inf_2).drop 30)).all am_chk = true := by decide +kernel
theorem am_ck_2 : (am_mi_2.zip am_inf_2).all am_chk = true := am_all_cut _ 10 _ am_ck_2_0 (am_all_cut _ 10 _ am_ck_2_1 (by
  rw [List.drop_drop]
  exact am_all_cut _ 10 _ am_ck_2_2 (by
    rw [List.drop_drop]
    exact am_ck_2_3)))
def am_r120 : List (Nat × am_R) := [(0, (.aload_n 0, 1, 0, 0, 0, 0)),
  (1, (.iload_n 1, 2, 0, 0, 0, 0)),
  (2, (.invokevirtual 114, 5, 87, 1, 117, 10)),
  (5, (.ifCond .eq 11, 8, 16, 0, 0, 0)),
  (8, (.aload_n 0, 9, 0, 0, 0, 0)),
  (9, (.iload_n 2, 10, 0, 0, 0, 0)),
  (10, (.invokevirtual 141, 13, 93, 1, 124, 10)),
  (13, (.ifCond .ne 5, 16, 18, 0, 0, 0)),
  (16, (.iconst (-1), 17, 0, 0, 0, 0)),
  (17, (.ireturn, 18, 0, 0, 0, 0)),
  (18, (.aload_n 0, 19, 0, 0, 0, 0)),
  (19, (.getfield 59, 22, 8, 10, 108, 0)),
  (22, (.aload_n 0, 23, 0, 0, 0, 0)),
  (23, (.getfield 55, 26, 7, 10, 107, 0)),
  (26, (.invokevirtual 202, 29, 99, 1, 153, 6)),
  (29, (.iconst 1, 30, 0, 0, 0, 0)),
  (30, (.istore_n 3, 31, 0, 0, 0, 0)),
  (31, (.iload_n 3, 32, 0, 0, 0, 0)),
  (32, (.bipush 60, 34, 0, 0, 0, 0)),
  (34, (.if_icmp .gt 32, 37, 66, 0, 0, 0)),
  (37, (.aload_n 0, 38, 0, 0, 0, 0)),
  (38, (.invokevirtual 216, 41, 118, 0, 156, 10)),
  (41, (.pop, 42, 0, 0, 0, 0)),
  (42, (.aload_n 0, 43, 0, 0, 0, 0)),
  (43, (.getfield 59, 46, 8, 10, 108, 0)),
  (46, (.getfield 156, 49, 5, 6, 86, 0)),
  (49, (.iload_n 2, 50, 0, 0, 0, 0)),
  (50, (.iaload, 51, 0, 0, 0, 0)),
  (51, (.iload_n 1, 52, 0, 0, 0, 0)),
  (52, (.invokestatic 219, 55, 65, 2, 159, 0)),
  (55, (.ifCond .eq 5, 58, 60, 0, 0, 0)),
  (58, (.iload_n 3, 59, 0, 0, 0, 0)),
  (59, (.ireturn, 60, 0, 0, 0, 0)),
  (60, (.iinc 3 1, 63, 0, 0, 0, 0)),
  (63, (.goto (-32), 66, 31, 0, 0, 0)),
  (66, (.iconst (-1), 67, 0, 0, 0, 0)),
  (67, (.ireturn, 68, 0, 0, 0, 0))]
def am_r121 : List (Nat × am_R) := [(0, (.aload_n 0, 1, 0, 0, 0, 0)),
  (1, (.iload_n 1, 2, 0, 0, 0, 0)),
  (2, (.invokevirtual 141, 5, 93, 1, 124, 10)),
  (5, (.ifCond .ne 5, 8, 10, 0, 0, 0)),
  (8, (.iconst (-1), 9, 0, 0, 0, 0)),
  (9, (.ireturn, 10, 0, 0, 0, 0)),
  (10, (.aload_n 0, 11, 0, 0, 0, 0)),
  (11, (.getfield 59, 14, 8, 10, 108, 0)),
  (14, (.aload_n 0, 15, 0, 0, 0, 0)),
  (15, (.getfield 55, 18, 7, 10, 107, 0)),
  (18, (.invokevirtual 202, 21, 99, 1, 153, 6)),
  (21, (.iconst 1, 22, 0, 0, 0, 0)),
  (22, (.istore_n 2, 23, 0, 0, 0, 0)),
  (23, (.iload_n 2, 24, 0, 0, 0, 0)),
  (24, (.bipush 60, 26, 0, 0, 0, 0)),
  (26, (.if_icmp .gt 22, 29, 48, 0, 0, 0)),
  (29, (.aload_n 0, 30, 0, 0, 0, 0)),
  (30, (.invokevirtual 216, 33, 118, 0, 156, 10)),
  (33, (.iload_n 1, 34, 0, 0, 0, 0)),
  (34, (.invokestatic 219, 37, 65, 2, 159, 0)),
  (37, (.ifCond .eq 5, 40, 42, 0, 0, 0)),
  (40, (.iload_n 2, 41, 0, 0, 0, 0)),
  (41, (.ireturn, 42, 0, 0, 0, 0)),
  (42, (.iinc 2 1, 45, 0, 0, 0, 0)),
  (45, (.goto (-22), 48, 23, 0, 0, 0)),
  (48, (.iconst (-1), 49, 0, 0, 0, 0)),
  (49, (.ireturn, 50, 0, 0, 0, 0))]
def am_r122 : List (Nat × am_R) := [(0, (.aload_n 0, 1, 0, 0, 0, 0)),
  (1, (.iload_n 1, 2, 0, 0, 0, 0)),
  (2, (.invokevirtual 141, 5, 93, 1, 124, 10)),
  (5, (.ifCond .eq 13, 8, 18, 0, 0, 0)),
  (8, (.iload_n 2, 9, 0, 0, 0, 0)),
  (9, (.iconst 1, 10, 0, 0, 0, 0)),
  (10, (.bipush 60, 12, 0, 0, 0, 0)),
  (12, (.invokestatic 183, 15, 60, 3, 145, 0)),
  (15, (.ifCond .ne 5, 18, 20, 0, 0, 0)),
  (18, (.iconst (-1), 19, 0, 0, 0, 0)),
  (19, (.ireturn, 20, 0, 0, 0, 0)),
  (20, (.aload_n 0, 21, 0, 0, 0, 0)),
  (21, (.iload_n 1, 22, 0, 0, 0, 0)),
  (22, (.iload_n 2, 23, 0, 0, 0, 0)),
  (23, (.invokevirtual 223, 26, 123, 2, 162, 10)),
  (26, (.ireturn, 27, 0, 0, 0, 0))]
def am_r123 : List (Nat × am_R) := [(0, (.aload_n 0, 1, 0, 0, 0, 0)),
  (1, (.getfield 59, 4, 8, 10, 108, 0)),
  (4, (.aload_n 0, 5, 0, 0, 0, 0)),
  (5, (.getfield 55, 8, 7, 10, 107, 0)),
  (8, (.invokevirtual 202, 11, 99, 1, 153, 6)),
  (11, (.iconst 1, 12, 0, 0, 0, 0)),
  (12, (.istore_n 3, 13, 0, 0, 0, 0)),
  (13, (.iload_n 3, 14, 0, 0, 0, 0)),
  (14, (.iload_n 2, 15, 0, 0, 0, 0)),
  (15, (.if_icmp .gt 14, 18, 29, 0, 0, 0)),
  (18, (.aload_n 0, 19, 0, 0, 0, 0)),
  (19, (.invokevirtual 216, 22, 118, 0, 156, 10)),
  (22, (.pop, 23, 0, 0, 0, 0)),
  (23, (.iinc 3 1, 26, 0, 0, 0, 0)),
  (26, (.goto (-13), 29, 13, 0, 0, 0)),
  (29, (.aload_n 0, 30, 0, 0, 0, 0)),
  (30, (.getfield 59, 33, 8, 10, 108, 0)),
  (33, (.getfield 153, 36, 4, 6, 83, 0)),
  (36, (.iload_n 1, 37, 0, 0, 0, 0)),
  (37, (.iaload, 38, 0, 0, 0, 0)),
  (38, (.aload_n 0, 39, 0, 0, 0, 0)),
  (39, (.getfield 55, 42, 7, 10, 107, 0)),
  (42, (.getfield 153, 45, 4, 6, 83, 0)),
  (45, (.iload_n 1, 46, 0, 0, 0, 0)),
  (46, (.iaload, 47, 0, 0, 0, 0)),
  (47, (.isub, 48, 0, 0, 0, 0)),
  (48, (.ireturn, 49, 0, 0, 0, 0))]
def am_r124 : List (Nat × am_R) := [(0, (.aload_n 0, 1, 0, 0, 0, 0)),
  (1, (.iload_n 1, 2, 0, 0, 0, 0)),
  (2, (.invokevirtual 141, 5, 93, 1, 124, 10)),
  (5, (.ifCond .ne 5, 8, 10, 0, 0, 0)),
  (8, (.iconst (-1), 9, 0, 0, 0, 0)),
  (9, (.ireturn, 10, 0, 0, 0, 0)),
  (10, (.iconst (-1), 11, 0, 0, 0, 0)),
  (11, (.istore_n 2, 12, 0, 0, 0, 0)),
  (12, (.aload_n 0, 13, 0, 0, 0, 0)),
  (13, (.getfield 59, 16, 8, 10, 108, 0)),
  (16, (.aload_n 0, 17, 0, 0, 0, 0)),
  (17, (.getfield 55, 20, 7, 10, 107, 0)),
  (20, (.invokevirtual 202, 23, 99, 1, 153, 6)),
  (23, (.iconst 1, 24, 0, 0, 0, 0)),
  (24, (.istore_n 3, 25, 0, 0, 0, 0)),
  (25, (.iload_n 3, 26, 0, 0, 0, 0)),
  (26, (.bipush 60, 28, 0, 0, 0, 0)),
  (28, (.if_icmp .gt 22, 31, 50, 0, 0, 0)),
  (31, (.aload_n 0, 32, 0, 0, 0, 0)),
  (32, (.invokevirtual 216, 35, 118, 0, 156, 10)),
  (35, (.iload_n 1, 36, 0, 0, 0, 0)),
  (36, (.invokestatic 219, 39, 65, 2, 159, 0)),
  (39, (.ifCond .eq 5, 42, 44, 0, 0, 0)),
  (42, (.iload_n 3, 43, 0, 0, 0, 0)),
  (43, (.istore_n 2, 44, 0, 0, 0, 0)),
  (44, (.iinc 3 1, 47, 0, 0, 0, 0)),
  (47, (.goto (-22), 50, 25, 0, 0, 0)),
  (50, (.iload_n 2, 51, 0, 0, 0, 0)),
  (51, (.ireturn, 52, 0, 0, 0, 0))]
def am_r125 : List (Nat × am_R) := [(0, (.aload_n 0, 1, 0, 0, 0, 0)),
  (1, (.iload_n 1, 2, 0, 0, 0, 0)),
  (2, (.invokevirtual 114, 5, 87, 1, 117, 10)),
  (5, (.ifCond .eq 16, 8, 21, 0, 0, 0)),
  (8, (.aload_n 0, 9, 0, 0, 0, 0)),
  (9, (.iload_n 2, 10, 0, 0, 0, 0)),
  (10, (.invokevirtual 114, 13, 87, 1, 117, 10)),
  (13, (.ifCond .eq 8, 16, 21, 0, 0, 0)),
  (16, (.iload_n 1, 17, 0, 0, 0, 0)),
  (17, (.iload_n 2, 18, 0, 0, 0, 0)),
  (18, (.if_icmp .ne 5, 21, 23, 0, 0, 0)),
  (21, (.iconst (-1), 22, 0, 0, 0, 0)),
  (22, (.ireturn, 23, 0, 0, 0, 0)),
  (23, (.aload_n 0, 24, 0, 0, 0, 0)),
  (24, (.getfield 59, 27, 8, 10, 108, 0)),
  (27, (.aload_n 0, 28, 0, 0, 0, 0)),
  (28, (.getfield 55, 31, 7, 10, 107, 0)),
  (31, (.invokevirtual 202, 34, 99, 1, 153, 6)),
  (34, (.iconst 0, 35, 0, 0, 0, 0)),
  (35, (.istore_n 3, 36, 0, 0, 0, 0)),
  (36, (.iload_n 3, 37, 0, 0, 0, 0)),
  (37, (.bipush 60, 39, 0, 0, 0, 0)),
  (39, (.if_icmp .gt 32, 42, 71, 0, 0, 0)),
  (42, (.aload_n 0, 43, 0, 0, 0, 0)),
  (43, (.getfield 59, 46, 8, 10, 108, 0)),
  (46, (.getfield 138, 49, 3, 6, 80, 0)),
  (49, (.iload_n 1, 50, 0, 0, 0, 0)),
  (50, (.iaload, 51, 0, 0, 0, 0)),
  (51, (.iload_n 2, 52, 0, 0, 0, 0)),
  (52, (.invokestatic 219, 55, 65, 2, 159, 0)),
  (55, (.ifCond .eq 5, 58, 60, 0, 0, 0)),
  (58, (.iload_n 3, 59, 0, 0, 0, 0)),
  (59, (.ireturn, 60, 0, 0, 0, 0)),
  (60, (.aload_n 0, 61, 0, 0, 0, 0)),
  (61, (.invokevirtual 216, 64, 118, 0, 156, 10)),
  (64, (.pop, 65, 0, 0, 0, 0)),
  (65, (.iinc 3 1, 68, 0, 0, 0, 0)),
  (68, (.goto (-32), 71, 36, 0, 0, 0)),
  (71, (.iconst (-1), 72, 0, 0, 0, 0)),
  (72, (.ireturn, 73, 0, 0, 0, 0))]
def am_r126 : List (Nat × am_R) := [(0, (.iload_n 1, 1, 0, 0, 0, 0)),
  (1, (.iconst 1, 2, 0, 0, 0, 0)),
  (2, (.bipush 60, 4, 0, 0, 0, 0)),
  (4, (.invokestatic 183, 7, 60, 3, 145, 0)),
  (7, (.ifCond .ne 5, 10, 12, 0, 0, 0)),
  (10, (.iconst (-1), 11, 0, 0, 0, 0)),
  (11, (.ireturn, 12, 0, 0, 0, 0)),
  (12, (.iconst 0, 13, 0, 0, 0, 0)),
  (13, (.istore_n 2, 14, 0, 0, 0, 0)),
  (14, (.aload_n 0, 15, 0, 0, 0, 0)),
  (15, (.getfield 59, 18, 8, 10, 108, 0)),
  (18, (.aload_n 0, 19, 0, 0, 0, 0)),
  (19, (.getfield 55, 22, 7, 10, 107, 0)),
  (22, (.invokevirtual 202, 25, 99, 1, 153, 6)),
  (25, (.iconst 1, 26, 0, 0, 0, 0)),
  (26, (.istore_n 3, 27, 0, 0, 0, 0)),
  (27, (.iload_n 3, 28, 0, 0, 0, 0)),
  (28, (.iload_n 1, 29, 0, 0, 0, 0)),
  (29, (.if_icmp .gt 27, 32, 56, 0, 0, 0)),
  (32, (.aload_n 0, 33, 0, 0, 0, 0)),
  (33, (.invokevirtual 216, 36, 118, 0, 156, 10)),
  (36, (.pop, 37, 0, 0, 0, 0)),
  (37, (.aload_n 0, 38, 0, 0, 0, 0)),
  (38, (.getfield 59, 41, 8, 10, 108, 0)),
  (41, (.invokevirtual 227, 44, 127, 0, 166, 6)),
  (44, (.ifCond .ne 6, 47, 50, 0, 0, 0)),
  (47, (.iinc 2 1, 50, 0, 0, 0, 0)),
  (50, (.iinc 3 1, 53, 0, 0, 0, 0)),
  (53, (.goto (-26), 56, 27, 0, 0, 0)),
  (56, (.iload_n 2, 57, 0, 0, 0, 0)),
  (57, (.ireturn, 58, 0, 0, 0, 0))]
def am_r127 : List (Nat × am_R) := [(0, (.iconst 0, 1, 0, 0, 0, 0)),
  (1, (.istore_n 1, 2, 0, 0, 0, 0)),
  (2, (.iconst 0, 3, 0, 0, 0, 0)),
  (3, (.istore_n 2, 4, 0, 0, 0, 0)),
  (4, (.iload_n 2, 5, 0, 0, 0, 0)),
  (5, (.iconst 5, 6, 0, 0, 0, 0)),
  (6, (.if_icmp .ge 21, 9, 27, 0, 0, 0)),
  (9, (.iload_n 1, 10, 0, 0, 0, 0)),
  (10, (.aload_n 0, 11, 0, 0, 0, 0)),
  (11, (.getfield 21, 14, 5, 6, 85, 0)),
  (14, (.iload_n 2, 15, 0, 0, 0, 0)),
  (15, (.iaload, 16, 0, 0, 0, 0)),
  (16, (.invokestatic 38, 19, 69, 1, 128, 0)),
  (19, (.iadd, 20, 0, 0, 0, 0)),
  (20, (.istore_n 1, 21, 0, 0, 0, 0)),
  (21, (.iinc 2 1, 24, 0, 0, 0, 0)),
  (24, (.goto (-20), 27, 4, 0, 0, 0)),
  (27, (.iload_n 1, 28, 0, 0, 0, 0)),
  (28, (.ireturn, 29, 0, 0, 0, 0))]
def am_r128 : List (Nat × am_R) := [(0, (.iconst 0, 1, 0, 0, 0, 0)),
  (1, (.istore_n 1, 2, 0, 0, 0, 0)),
  (2, (.iconst (-1), 3, 0, 0, 0, 0)),
  (3, (.istore_n 2, 4, 0, 0, 0, 0)),
  (4, (.aload_n 0, 5, 0, 0, 0, 0)),
  (5, (.getfield 59, 8, 8, 10, 108, 0)),
  (8, (.aload_n 0, 9, 0, 0, 0, 0)),
  (9, (.getfield 55, 12, 7, 10, 107, 0)),
  (12, (.invokevirtual 202, 15, 99, 1, 153, 6)),
  (15, (.iconst 1, 16, 0, 0, 0, 0)),
  (16, (.istore_n 3, 17, 0, 0, 0, 0)),
  (17, (.iload_n 3, 18, 0, 0, 0, 0)),
  (18, (.bipush 7, 20, 0, 0, 0, 0)),
  (20, (.if_icmp .gt 34, 23, 54, 0, 0, 0)),
  (23, (.aload_n 0, 24, 0, 0, 0, 0)),
  (24, (.invokevirtual 216, 27, 118, 0, 156, 10)),
  (27, (.pop, 28, 0, 0, 0, 0)),
  (28, (.aload_n 0, 29, 0, 0, 0, 0)),
  (29, (.getfield 59, 32, 8, 10, 108, 0)),
  (32, (.invokevirtual 227, 35, 127, 0, 166, 6)),
  (35, (.istore 4, 37, 0, 0, 0, 0)),
  (37, (.iload 4, 39, 0, 0, 0, 0)),
  (39, (.iload_n 1, 40, 0, 0, 0, 0)),
  (40, (.if_icmp .le 8, 43, 48, 0, 0, 0)),
  (43, (.iload 4, 45, 0, 0, 0, 0)),
  (45, (.istore_n 1, 46, 0, 0, 0, 0)),
  (46, (.iload_n 3, 47, 0, 0, 0, 0)),
  (47, (.istore_n 2, 48, 0, 0, 0, 0)),
  (48, (.iinc 3 1, 51, 0, 0, 0, 0)),
  (51, (.goto (-34), 54, 17, 0, 0, 0)),
  (54, (.iload_n 2, 55, 0, 0, 0, 0)),
  (55, (.ireturn, 56, 0, 0, 0, 0))]
def am_r129 : List (Nat × am_R) := [(0, (.aload_n 0, 1, 0, 0, 0, 0)),
  (1, (.iload_n 1, 2, 0, 0, 0, 0)),
  (2, (.invokevirtual 141, 5, 93, 1, 124, 10)),
  (5, (.ifCond .ne 5, 8, 10, 0, 0, 0)),
  (8, (.iconst (-1), 9, 0, 0, 0, 0)),
  (9, (.ireturn, 10, 0, 0, 0, 0)),
  (10, (.iconst 0, 11, 0, 0, 0, 0)),
  (11, (.istore_n 2, 12, 0, 0, 0, 0)),
  (12, (.aload_n 0, 13, 0, 0, 0, 0)),
  (13, (.getfield 59, 16, 8, 10, 108, 0)),
  (16, (.aload_n 0, 17, 0, 0, 0, 0)),
  (17, (.getfield 55, 20, 7, 10, 107, 0)),
  (20, (.invokevirtual 202, 23, 99, 1, 153, 6)),
  (23, (.iconst 1, 24, 0, 0, 0, 0)),
  (24, (.istore_n 3, 25, 0, 0, 0, 0)),
  (25, (.iload_n 3, 26, 0, 0, 0, 0)),
  (26, (.bipush 7, 28, 0, 0, 0, 0)),
  (28, (.if_icmp .gt 29, 31, 57, 0, 0, 0)),
  (31, (.aload_n 0, 32, 0, 0, 0, 0)),
  (32, (.invokevirtual 216, 35, 118, 0, 156, 10)),
  (35, (.pop, 36, 0, 0, 0, 0)),
  (36, (.aload_n 0, 37, 0, 0, 0, 0)),
  (37, (.getfield 59, 40, 8, 10, 108, 0)),
  (40, (.getfield 156, 43, 5, 6, 86, 0)),
  (43, (.iload_n 1, 44, 0, 0, 0, 0)),
  (44, (.iaload, 45, 0, 0, 0, 0)),
  (45, (.ifCond .eq 6, 48, 51, 0, 0, 0)),
  (48, (.iinc 2 1, 51, 0, 0, 0, 0)),
  (51, (.iinc 3 1, 54, 0, 0, 0, 0)),
  (54, (.goto (-29), 57, 25, 0, 0, 0)),
  (57, (.iload_n 2, 58, 0, 0, 0, 0)),
  (58, (.ireturn, 59, 0, 0, 0, 0))]
def am_r130 : List (Nat × am_R) := [(0, (.aload_n 0, 1, 0, 0, 0, 0)),
  (1, (.getfield 59, 4, 8, 10, 108, 0)),
  (4, (.aload_n 0, 5, 0, 0, 0, 0)),
  (5, (.getfield 55, 8, 7, 10, 107, 0)),
  (8, (.invokevirtual 202, 11, 99, 1, 153, 6)),
  (11, (.iconst 1, 12, 0, 0, 0, 0)),
  (12, (.istore_n 1, 13, 0, 0, 0, 0)),
  (13, (.iload_n 1, 14, 0, 0, 0, 0)),
  (14, (.bipush 60, 16, 0, 0, 0, 0)),
  (16, (.if_icmp .gt 14, 19, 30, 0, 0, 0)),
  (19, (.aload_n 0, 20, 0, 0, 0, 0)),
  (20, (.invokevirtual 216, 23, 118, 0, 156, 10)),
  (23, (.pop, 24, 0, 0, 0, 0)),
  (24, (.iinc 1 1, 27, 0, 0, 0, 0)),
  (27, (.goto (-14), 30, 13, 0, 0, 0)),
  (30, (.iconst 0, 31, 0, 0, 0, 0)),
  (31, (.istore_n 1, 32, 0, 0, 0, 0)),
  (32, (.iconst 0, 33, 0, 0, 0, 0)),
  (33, (.istore_n 2, 34, 0, 0, 0, 0)),
  (34, (.iload_n 2, 35, 0, 0, 0, 0)),
  (35, (.aload_n 0, 36, 0, 0, 0, 0)),
  (36, (.getfield 35, 39, 3, 10, 103, 0)),
  (39, (.getfield 159, 42, 0, 0, 29, 0)),
  (42, (.if_icmp .ge 27, 45, 69, 0, 0, 0)),
  (45, (.aload_n 0, 46, 0, 0, 0, 0)),
  (46, (.getfield 59, 49, 8, 10, 108, 0)),
  (49, (.getfield 138, 52, 3, 6, 80, 0)),
  (52, (.iload_n 2, 53, 0, 0, 0, 0)),
  (53, (.iaload, 54, 0, 0, 0, 0)),
  (54, (.ifCond .ne 9, 57, 63, 0, 0, 0)),
  (57, (.iload_n 1, 58, 0, 0, 0, 0)),
  (58, (.iconst 1, 59, 0, 0, 0, 0)),
  (59, (.iload_n 2, 60, 0, 0, 0, 0)),
  (60, (.ishl, 61, 0, 0, 0, 0)),
  (61, (.ior, 62, 0, 0, 0, 0)),
  (62, (.istore_n 1, 63, 0, 0, 0, 0)),
  (63, (.iinc 2 1, 66, 0, 0, 0, 0)),
  (66, (.goto (-32), 69, 34, 0, 0, 0)),
  (69, (.iload_n 1, 70, 0, 0, 0, 0)),
  (70, (.ireturn, 71, 0, 0, 0, 0))]
def am_r131 : List (Nat × am_R) := [(0, (.aload_n 0, 1, 0, 0, 0, 0)),
  (1, (.iload_n 1, 2, 0, 0, 0, 0)),
  (2, (.invokevirtual 141, 5, 93, 1, 124, 10)),
  (5, (.ifCond .ne 5, 8, 10, 0, 0, 0)),
  (8, (.iconst (-1), 9, 0, 0, 0, 0)),
  (9, (.ireturn, 10, 0, 0, 0, 0)),
  (10, (.aload_n 0, 11, 0, 0, 0, 0)),
  (11, (.getfield 35, 14, 3, 10, 103, 0)),
  (14, (.getfield 144, 17, 6, 0, 44, 0)),
  (17, (.iload_n 1, 18, 0, 0, 0, 0)),
  (18, (.iaload, 19, 0, 0, 0, 0)),
  (19, (.istore_n 2, 20, 0, 0, 0, 0)),
  (20, (.iconst (-1), 21, 0, 0, 0, 0)),
  (21, (.istore_n 3, 22, 0, 0, 0, 0)),
  (22, (.iconst 0, 23, 0, 0, 0, 0)),
  (23, (.istore 4, 25, 0, 0, 0, 0)),
  (25, (.iconst 0, 26, 0, 0, 0, 0)),
  (26, (.istore 5, 28, 0, 0, 0, 0)),
  (28, (.iload 5, 30, 0, 0, 0, 0)),
  (30, (.bipush 7, 32, 0, 0, 0, 0)),
  (32, (.if_icmp .ge 42, 35, 74, 0, 0, 0)),
  (35, (.aload_n 0, 36, 0, 0, 0, 0)),
  (36, (.getfield 35, 39, 3, 10, 103, 0)),
  (39, (.getfield 144, 42, 6, 0, 44, 0)),
  (42, (.iload_n 1, 43, 0, 0, 0, 0)),
  (43, (.iload 5, 45, 0, 0, 0, 0)),
  (45, (.iastore, 46, 0, 0, 0, 0)),
  (46, (.aload_n 0, 47, 0, 0, 0, 0)),
  (47, (.iload_n 1, 48, 0, 0, 0, 0)),
  (48, (.bipush 28, 50, 0, 0, 0, 0)),
  (50, (.invokevirtual 223, 53, 123, 2, 162, 10)),
  (53, (.istore 6, 55, 0, 0, 0, 0)),
  (55, (.iload 6, 57, 0, 0, 0, 0)),
  (57, (.iload_n 3, 58, 0, 0, 0, 0)),
  (58, (.if_icmp .le 10, 61, 68, 0, 0, 0)),
  (61, (.iload 6, 63, 0, 0, 0, 0)),
  (63, (.istore_n 3, 64, 0, 0, 0, 0)),
  (64, (.iload 5, 66, 0, 0, 0, 0)),
  (66, (.istore 4, 68, 0, 0, 0, 0)),
  (68, (.iinc 5 1, 71, 0, 0, 0, 0)),
  (71, (.goto (-43), 74, 28, 0, 0, 0)),
  (74, (.aload_n 0, 75, 0, 0, 0, 0)),
  (75, (.getfield 35, 78, 3, 10, 103, 0)),
  (78, (.getfield 144, 81, 6, 0, 44, 0)),
  (81, (.iload_n 1, 82, 0, 0, 0, 0)),
  (82, (.iload_n 2, 83, 0, 0, 0, 0)),
  (83, (.iastore, 84, 0, 0, 0, 0)),
  (84, (.iload 4, 86, 0, 0, 0, 0)),
  (86, (.ireturn, 87, 0, 0, 0, 0))]
def am_r132 : List (Nat × am_R) := [(0, (.iconst 0, 1, 0, 0, 0, 0)),
  (1, (.istore_n 1, 2, 0, 0, 0, 0)),
  (2, (.iload_n 1, 3, 0, 0, 0, 0)),
  (3, (.bipush 6, 5, 0, 0, 0, 0)),
  (5, (.if_icmp .ge 16, 8, 21, 0, 0, 0)),
  (8, (.aload_n 0, 9, 0, 0, 0, 0)),
  (9, (.getfield 62, 12, 9, 10, 109, 0)),
  (12, (.iload_n 1, 13, 0, 0, 0, 0)),
  (13, (.iconst 0, 14, 0, 0, 0, 0)),
  (14, (.iastore, 15, 0, 0, 0, 0)),
  (15, (.iinc 1 1, 18, 0, 0, 0, 0)),
  (18, (.goto (-16), 21, 2, 0, 0, 0)),
  (21, (.aload_n 0, 22, 0, 0, 0, 0)),
  (22, (.getfield 59, 25, 8, 10, 108, 0)),
  (25, (.aload_n 0, 26, 0, 0, 0, 0)),
  (26, (.getfield 55, 29, 7, 10, 107, 0)),
  (29, (.invokevirtual 202, 32, 99, 1, 153, 6)),
  (32, (.iconst 1, 33, 0, 0, 0, 0)),
  (33, (.istore_n 1, 34, 0, 0, 0, 0)),
  (34, (.iload_n 1, 35, 0, 0, 0, 0)),
  (35, (.bipush 28, 37, 0, 0, 0, 0)),
  (37, (.if_icmp .gt 50, 40, 87, 0, 0, 0)),
  (40, (.aload_n 0, 41, 0, 0, 0, 0)),
  (41, (.invokevirtual 216, 44, 118, 0, 156, 10)),
  (44, (.pop, 45, 0, 0, 0, 0)),
  (45, (.iconst 0, 46, 0, 0, 0, 0)),
  (46, (.istore_n 2, 47, 0, 0, 0, 0)),
  (47, (.iload_n 2, 48, 0, 0, 0, 0)),
  (48, (.aload_n 0, 49, 0, 0, 0, 0)),
  (49, (.getfield 35, 52, 3, 10, 103, 0)),
  (52, (.getfield 159, 55, 0, 0, 29, 0)),
  (55, (.if_icmp .ge 26, 58, 81, 0, 0, 0)),
  (58, (.aload_n 0, 59, 0, 0, 0, 0)),
  (59, (.getfield 62, 62, 9, 10, 109, 0)),
  (62, (.iload_n 2, 63, 0, 0, 0, 0)),
  (63, (.dup2, 64, 0, 0, 0, 0)),
  (64, (.iaload, 65, 0, 0, 0, 0)),
  (65, (.aload_n 0, 66, 0, 0, 0, 0)),
  (66, (.getfield 59, 69, 8, 10, 108, 0)),
  (69, (.iload_n 2, 70, 0, 0, 0, 0)),
  (70, (.invokevirtual 230, 73, 133, 1, 172, 6)),
  (73, (.ior, 74, 0, 0, 0, 0)),
  (74, (.iastore, 75, 0, 0, 0, 0)),
  (75, (.iinc 2 1, 78, 0, 0, 0, 0)),
  (78, (.goto (-31), 81, 47, 0, 0, 0)),
  (81, (.iinc 1 1, 84, 0, 0, 0, 0)),
  (84, (.goto (-50), 87, 34, 0, 0, 0)),
  (87, (.iconst 0, 88, 0, 0, 0, 0)),
  (88, (.istore_n 1, 89, 0, 0, 0, 0)),
  (89, (.iconst 0, 90, 0, 0, 0, 0)),
  (90, (.istore_n 2, 91, 0, 0, 0, 0)),
  (91, (.iload_n 2, 92, 0, 0, 0, 0)),
  (92, (.aload_n 0, 93, 0, 0, 0, 0)),
  (93, (.getfield 35, 96, 3, 10, 103, 0)),
  (96, (.getfield 159, 99, 0, 0, 29, 0)),
  (99, (.if_icmp .ge 31, 102, 130, 0, 0, 0)),
  (102, (.iconst 1, 103, 0, 0, 0, 0)),
  (103, (.iload_n 2, 104, 0, 0, 0, 0)),
  (104, (.ishl, 105, 0, 0, 0, 0)),
  (105, (.iconst 1, 106, 0, 0, 0, 0)),
  (106, (.isub, 107, 0, 0, 0, 0)),
  (107, (.istore_n 3, 108, 0, 0, 0, 0)),
  (108, (.iload_n 1, 109, 0, 0, 0, 0)),
  (109, (.iload_n 3, 110, 0, 0, 0, 0)),
  (110, (.aload_n 0, 111, 0, 0, 0, 0)),
  (111, (.getfield 62, 114, 9, 10, 109, 0)),
  (114, (.iload_n 2, 115, 0, 0, 0, 0)),
  (115, (.iaload, 116, 0, 0, 0, 0)),
  (116, (.iconst (-1), 117, 0, 0, 0, 0)),
  (117, (.ixor, 118, 0, 0, 0, 0)),
  (118, (.iand, 119, 0, 0, 0, 0)),
  (119, (.invokestatic 233, 122, 69, 1, 173, 0)),
  (122, (.iadd, 123, 0, 0, 0, 0)),
  (123, (.istore_n 1, 124, 0, 0, 0, 0)),
  (124, (.iinc 2 1, 127, 0, 0, 0, 0)),
  (127, (.goto (-36), 130, 91, 0, 0, 0)),
  (130, (.iload_n 1, 131, 0, 0, 0, 0)),
  (131, (.ireturn, 132, 0, 0, 0, 0))]
def am_r133 : List (Nat × am_R) := [(0, (.iconst 0, 1, 0, 0, 0, 0)),
  (1, (.istore_n 2, 2, 0, 0, 0, 0)),
  (2, (.iconst 0, 3, 0, 0, 0, 0)),
  (3, (.istore_n 3, 4, 0, 0, 0, 0)),
  (4, (.iload_n 3, 5, 0, 0, 0, 0)),
  (5, (.iconst 5, 6, 0, 0, 0, 0)),
  (6, (.if_icmp .ge 42, 9, 48, 0, 0, 0)),
  (9, (.iload_n 2, 10, 0, 0, 0, 0)),
  (10, (.aload_n 0, 11, 0, 0, 0, 0)),
  (11, (.getfield 21, 14, 5, 6, 85, 0)),
  (14, (.iload_n 3, 15, 0, 0, 0, 0)),
  (15, (.iaload, 16, 0, 0, 0, 0)),
  (16, (.iload_n 1, 17, 0, 0, 0, 0)),
  (17, (.invokestatic 34, 20, 65, 2, 3, 1)),
  (20, (.ifCond .eq 14, 23, 34, 0, 0, 0)),
  (23, (.aload_n 0, 24, 0, 0, 0, 0)),
  (24, (.getfield 21, 27, 5, 6, 85, 0)),
  (27, (.iload_n 3, 28, 0, 0, 0, 0)),
  (28, (.iaload, 29, 0, 0, 0, 0)),
  (29, (.iconst (-1), 30, 0, 0, 0, 0)),
  (30, (.ixor, 31, 0, 0, 0, 0)),
  (31, (.goto 9, 34, 40, 0, 0, 0)),
  (34, (.aload_n 0, 35, 0, 0, 0, 0)),
  (35, (.getfield 21, 38, 5, 6, 85, 0)),
  (38, (.iload_n 3, 39, 0, 0, 0, 0)),
  (39, (.iaload, 40, 0, 0, 0, 0)),
  (40, (.ior, 41, 0, 0, 0, 0)),
  (41, (.istore_n 2, 42, 0, 0, 0, 0)),
  (42, (.iinc 3 1, 45, 0, 0, 0, 0)),
  (45, (.goto (-41), 48, 4, 0, 0, 0)),
  (48, (.iload_n 2, 49, 0, 0, 0, 0)),
  (49, (.ireturn, 50, 0, 0, 0, 0))]
def am_r134 : List (Nat × am_R) := [(0, (.aload_n 0, 1, 0, 0, 0, 0)),
  (1, (.iload_n 1, 2, 0, 0, 0, 0)),
  (2, (.invokevirtual 141, 5, 93, 1, 124, 10)),
  (5, (.ifCond .eq 23, 8, 28, 0, 0, 0)),
  (8, (.iload_n 2, 9, 0, 0, 0, 0)),
  (9, (.iconst 1, 10, 0, 0, 0, 0)),
  (10, (.bipush 6, 12, 0, 0, 0, 0)),
  (12, (.invokestatic 183, 15, 60, 3, 145, 0)),
  (15, (.ifCond .eq 13, 18, 28, 0, 0, 0)),
  (18, (.iload_n 3, 19, 0, 0, 0, 0)),
  (19, (.iconst 0, 20, 0, 0, 0, 0)),
  (20, (.bipush 10, 22, 0, 0, 0, 0)),
  (22, (.invokestatic 183, 25, 60, 3, 145, 0)),
  (25, (.ifCond .ne 5, 28, 30, 0, 0, 0)),
  (28, (.iconst (-1), 29, 0, 0, 0, 0)),
  (29, (.ireturn, 30, 0, 0, 0, 0)),
  (30, (.iconst 0, 31, 0, 0, 0, 0)),
  (31, (.istore 4, 33, 0, 0, 0, 0)),
  (33, (.iconst 0, 34, 0, 0, 0, 0)),
  (34, (.istore 5, 36, 0, 0, 0, 0)),
  (36, (.iload 5, 38, 0, 0, 0, 0)),
  (38, (.iconst 1, 39, 0, 0, 0, 0)),
  (39, (.iload_n 2, 40, 0, 0, 0, 0)),
  (40, (.ishl, 41, 0, 0, 0, 0)),
  (41, (.if_icmp .ge 32, 44, 73, 0, 0, 0)),
  (44, (.aload_n 0, 45, 0, 0, 0, 0)),
  (45, (.iload_n 1, 46, 0, 0, 0, 0)),
  (46, (.iload_n 2, 47, 0, 0, 0, 0)),
  (47, (.iload 5, 49, 0, 0, 0, 0)),
  (49, (.invokevirtual 238, 52, 135, 3, 175, 10)),
  (52, (.ifCond .eq 15, 55, 67, 0, 0, 0)),
  (55, (.iload 4, 57, 0, 0, 0, 0)),
  (57, (.iload_n 2, 58, 0, 0, 0, 0)),
  (58, (.iload_n 3, 59, 0, 0, 0, 0)),
  (59, (.iload 5, 61, 0, 0, 0, 0)),
  (61, (.invokestatic 241, 64, 136, 3, 176, 0)),
  (64, (.iadd, 65, 0, 0, 0, 0)),
  (65, (.istore 4, 67, 0, 0, 0, 0)),
  (67, (.iinc 5 1, 70, 0, 0, 0, 0)),
  (70, (.goto (-34), 73, 36, 0, 0, 0)),
  (73, (.iload_n 2, 74, 0, 0, 0, 0)),
  (74, (.istore 5, 76, 0, 0, 0, 0)),
  (76, (.iload 5, 78, 0, 0, 0, 0)),
  (78, (.bipush 6, 80, 0, 0, 0, 0)),
  (80, (.if_icmp .ge 16, 83, 96, 0, 0, 0)),
  (83, (.iload 4, 85, 0, 0, 0, 0)),
  (85, (.bipush 10, 87, 0, 0, 0, 0)),
  (87, (.imul, 88, 0, 0, 0, 0)),
  (88, (.istore 4, 90, 0, 0, 0, 0)),
  (90, (.iinc 5 1, 93, 0, 0, 0, 0)),
  (93, (.goto (-17), 96, 76, 0, 0, 0)),
  (96, (.iload 4, 98, 0, 0, 0, 0)),
  (98, (.ireturn, 99, 0, 0, 0, 0))]
def am_r135 : List (Nat × am_R) := [(0, (.aload_n 0, 1, 0, 0, 0, 0)),
  (1, (.getfield 59, 4, 8, 10, 108, 0)),
  (4, (.aload_n 0, 5, 0, 0, 0, 0)),
  (5, (.getfield 55, 8, 7, 10, 107, 0)),
  (8, (.invokevirtual 202, 11, 99, 1, 153, 6)),
  (11, (.iconst 0, 12, 0, 0, 0, 0)),
  (12, (.istore 4, 14, 0, 0, 0, 0)),
  (14, (.iload 4, 16, 0, 0, 0, 0)),
  (16, (.iload_n 2, 17, 0, 0, 0, 0)),
  (17, (.if_icmp .ge 35, 20, 52, 0, 0, 0)),
  (20, (.aload_n 0, 21, 0, 0, 0, 0)),
  (21, (.getfield 35, 24, 3, 10, 103, 0)),
  (24, (.aload_n 0, 25, 0, 0, 0, 0)),
  (25, (.getfield 59, 28, 8, 10, 108, 0)),
  (28, (.iload_n 3, 29, 0, 0, 0, 0)),
  (29, (.iload 4, 31, 0, 0, 0, 0)),
  (31, (.invokestatic 219, 34, 65, 2, 159, 0)),
  (34, (.invokevirtual 179, 37, 100, 2, 133, 0)),
  (37, (.iload_n 1, 38, 0, 0, 0, 0)),
  (38, (.invokestatic 219, 41, 65, 2, 159, 0)),
  (41, (.ifCond .eq 5, 44, 46, 0, 0, 0)),
  (44, (.iconst 1, 45, 0, 0, 0, 0)),
  (45, (.ireturn, 46, 0, 0, 0, 0)),
  (46, (.iinc 4 1, 49, 0, 0, 0, 0)),
  (49, (.goto (-35), 52, 14, 0, 0, 0)),
  (52, (.iconst 0, 53, 0, 0, 0, 0)),
  (53, (.ireturn, 54, 0, 0, 0, 0))]
def am_r136 : List (Nat × am_R) := [(0, (.iconst 1, 1, 0, 0, 0, 0)),
  (1, (.istore_n 3, 2, 0, 0, 0, 0)),
  (2, (.iconst 0, 3, 0, 0, 0, 0)),
  (3, (.istore 4, 5, 0, 0, 0, 0)),
  (5, (.iload 4, 7, 0, 0, 0, 0)),
  (7, (.iload_n 0, 8, 0, 0, 0, 0)),
  (8, (.if_icmp .ge 29, 11, 37, 0, 0, 0)),
  (11, (.iload_n 3, 12, 0, 0, 0, 0)),
  (12, (.iload_n 2, 13, 0, 0, 0, 0)),
  (13, (.iload 4, 15, 0, 0, 0, 0)),
  (15, (.invokestatic 219, 18, 65, 2, 159, 0)),
  (18, (.ifCond .eq 7, 21, 25, 0, 0, 0)),
  (21, (.iload_n 1, 22, 0, 0, 0, 0)),
  (22, (.goto 7, 25, 29, 0, 0, 0)),
  (25, (.bipush 10, 27, 0, 0, 0, 0)),
  (27, (.iload_n 1, 28, 0, 0, 0, 0)),
  (28, (.isub, 29, 0, 0, 0, 0)),
  (29, (.imul, 30, 0, 0, 0, 0)),
  (30, (.istore_n 3, 31, 0, 0, 0, 0)),
  (31, (.iinc 4 1, 34, 0, 0, 0, 0)),
  (34, (.goto (-29), 37, 5, 0, 0, 0)),
  (37, (.iload_n 3, 38, 0, 0, 0, 0)),
  (38, (.ireturn, 39, 0, 0, 0, 0))]
def am_r137 : List (Nat × am_R) := [(0, (.iload_n 1, 1, 0, 0, 0, 0)),
  (1, (.iconst 0, 2, 0, 0, 0, 0)),
  (2, (.sipush 9999, 5, 0, 0, 0, 0)),
  (5, (.invokestatic 183, 8, 60, 3, 145, 0)),
  (8, (.ifCond .eq 22, 11, 30, 0, 0, 0)),
  (11, (.iload_n 2, 12, 0, 0, 0, 0)),
  (12, (.iconst 1, 13, 0, 0, 0, 0)),
  (13, (.bipush 99, 15, 0, 0, 0, 0)),
  (15, (.invokestatic 183, 18, 60, 3, 145, 0)),
  (18, (.ifCond .eq 12, 21, 30, 0, 0, 0)),
  (21, (.iload_n 3, 22, 0, 0, 0, 0)),
  (22, (.iconst 0, 23, 0, 0, 0, 0)),
  (23, (.iconst 2, 24, 0, 0, 0, 0)),
  (24, (.invokestatic 183, 27, 60, 3, 145, 0)),
  (27, (.ifCond .ne 5, 30, 32, 0, 0, 0)),
  (30, (.iconst (-1), 31, 0, 0, 0, 0)),
  (31, (.ireturn, 32, 0, 0, 0, 0)),
  (32, (.iload_n 1, 33, 0, 0, 0, 0)),
  (33, (.i2l, 34, 0, 0, 0, 0)),
  (34, (.lstore 4, 36, 0, 0, 0, 0)),
  (36, (.aload_n 0, 37, 0, 0, 0, 0)),
  (37, (.getfield 59, 40, 8, 10, 108, 0)),
  (40, (.aload_n 0, 41, 0, 0, 0, 0)),
  (41, (.getfield 55, 44, 7, 10, 107, 0)),
  (44, (.invokevirtual 202, 47, 99, 1, 153, 6)),
  (47, (.iconst 1, 48, 0, 0, 0, 0)),
  (48, (.istore 6, 50, 0, 0, 0, 0)),
  (50, (.iload 6, 52, 0, 0, 0, 0)),
  (52, (.iload_n 2, 53, 0, 0, 0, 0)),
  (53, (.if_icmp .gt 32, 56, 85, 0, 0, 0)),
  (56, (.aload_n 0, 57, 0, 0, 0, 0)),
  (57, (.getfield 35, 60, 3, 10, 103, 0)),
  (60, (.getfield 159, 63, 0, 0, 29, 0)),
  (63, (.ifCond .le 11, 66, 74, 0, 0, 0)),
  (66, (.aload_n 0, 67, 0, 0, 0, 0)),
  (67, (.lload 4, 69, 0, 0, 0, 0)),
  (69, (.invokevirtual 245, 72, 138, 1, 178, 10)),
  (72, (.lstore 4, 74, 0, 0, 0, 0)),
  (74, (.aload_n 0, 75, 0, 0, 0, 0)),
  (75, (.invokevirtual 216, 78, 118, 0, 156, 10)),
  (78, (.pop, 79, 0, 0, 0, 0)),
  (79, (.iinc 6 1, 82, 0, 0, 0, 0)),
  (82, (.goto (-32), 85, 50, 0, 0, 0)),
  (85, (.iload_n 3, 86, 0, 0, 0, 0)),
  (86, (.ifCond .ne 19, 89, 105, 0, 0, 0)),
  (89, (.aload_n 0, 90, 0, 0, 0, 0)),
  (90, (.getfield 59, 93, 8, 10, 108, 0)),
  (93, (.invokevirtual 165, 96, 95, 0, 126, 6)),
  (96, (.aload_n 0, 97, 0, 0, 0, 0)),
  (97, (.getfield 55, 100, 7, 10, 107, 0)),
  (100, (.invokevirtual 165, 103, 95, 0, 126, 6)),
  (103, (.isub, 104, 0, 0, 0, 0)),
  (104, (.ireturn, 105, 0, 0, 0, 0)),
  (105, (.iload_n 3, 106, 0, 0, 0, 0)),
  (106, (.iconst 1, 107, 0, 0, 0, 0)),
  (107, (.if_icmp .ne 13, 110, 120, 0, 0, 0)),
  (110, (.aload_n 0, 111, 0, 0, 0, 0)),
  (111, (.getfield 59, 114, 8, 10, 108, 0)),
  (114, (.invokevirtual 169, 117, 96, 0, 127, 6)),
  (117, (.goto 10, 120, 127, 0, 0, 0)),
  (120, (.aload_n 0, 121, 0, 0, 0, 0)),
  (121, (.getfield 59, 124, 8, 10, 108, 0)),
  (124, (.getfield 172, 127, 1, 6, 75, 0)),
  (127, (.ireturn, 128, 0, 0, 0, 0))]
def am_r138 : List (Nat × am_R) := [(0, (.lload_n 1, 1, 0, 0, 0, 0)),
  (1, (.invokestatic 249, 4, 139, 1, 179, 0)),
  (4, (.lstore_n 3, 5, 0, 0, 0, 0)),
  (5, (.lload_n 3, 6, 0, 0, 0, 0)),
  (6, (.bipush 6, 8, 0, 0, 0, 0)),
  (8, (.invokestatic 252, 11, 140, 2, 180, 0)),
  (11, (.istore 5, 13, 0, 0, 0, 0)),
  (13, (.iload 5, 15, 0, 0, 0, 0)),
  (15, (.iconst 1, 16, 0, 0, 0, 0)),
  (16, (.if_icmp .le 5, 19, 21, 0, 0, 0)),
  (19, (.lload_n 3, 20, 0, 0, 0, 0)),
  (20, (.lreturn, 21, 0, 0, 0, 0)),
  (21, (.lload_n 3, 22, 0, 0, 0, 0)),
  (22, (.invokestatic 249, 25, 139, 1, 179, 0)),
  (25, (.lstore_n 3, 26, 0, 0, 0, 0)),
  (26, (.lload_n 3, 27, 0, 0, 0, 0)),
  (27, (.aload_n 0, 28, 0, 0, 0, 0)),
  (28, (.getfield 35, 31, 3, 10, 103, 0)),
  (31, (.getfield 159, 34, 0, 0, 29, 0)),
  (34, (.invokestatic 252, 37, 140, 2, 180, 0)),
  (37, (.istore 6, 39, 0, 0, 0, 0)),
  (39, (.iload 5, 41, 0, 0, 0, 0)),
  (41, (.iconst 1, 42, 0, 0, 0, 0)),
  (42, (.if_icmp .ne 14, 45, 56, 0, 0, 0)),
  (45, (.aload_n 0, 46, 0, 0, 0, 0)),
  (46, (.getfield 59, 49, 8, 10, 108, 0)),
  (49, (.iload 6, 51, 0, 0, 0, 0)),
  (51, (.invokevirtual 187, 54, 111, 1, 147, 6)),
  (54, (.lload_n 3, 55, 0, 0, 0, 0)),
  (55, (.lreturn, 56, 0, 0, 0, 0)),
  (56, (.lload_n 3, 57, 0, 0, 0, 0)),
  (57, (.invokestatic 249, 60, 139, 1, 179, 0)),
  (60, (.lstore_n 3, 61, 0, 0, 0, 0)),
  (61, (.aload_n 0, 62, 0, 0, 0, 0)),
  (62, (.getfield 59, 65, 8, 10, 108, 0)),
  (65, (.getfield 121, 68, 2, 6, 78, 0)),
  (68, (.iload 6, 70, 0, 0, 0, 0)),
  (70, (.lload_n 3, 71, 0, 0, 0, 0)),
  (71, (.iconst 5, 72, 0, 0, 0, 0)),
  (72, (.invokestatic 252, 75, 140, 2, 180, 0)),
  (75, (.iastore, 76, 0, 0, 0, 0)),
  (76, (.lload_n 3, 77, 0, 0, 0, 0)),
  (77, (.lreturn, 78, 0, 0, 0, 0))]
def am_r139 : List (Nat × am_R) := [(0, (.lload_n 0, 1, 0, 0, 0, 0)),
  (1, (.ldc2_w 256, 4, 0, 0, 1, 0)),
  (4, (.lmul, 5, 0, 0, 0, 0)),
  (5, (.ldc2_w 258, 8, 0, 0, 2, 0)),
  (8, (.ladd, 9, 0, 0, 0, 0)),
  (9, (.ldc2_w 260, 12, 0, 0, 3, 0)),
  (12, (.lrem, 13, 0, 0, 0, 0)),
  (13, (.lreturn, 14, 0, 0, 0, 0))]
def am_r140 : List (Nat × am_R) := [(0, (.iload_n 2, 1, 0, 0, 0, 0)),
  (1, (.ifCond .le 15, 4, 16, 0, 0, 0)),
  (4, (.lload_n 0, 5, 0, 0, 0, 0)),
  (5, (.ldc2_w 262, 8, 0, 0, 4, 0)),
  (8, (.ldiv, 9, 0, 0, 0, 0)),
  (9, (.iload_n 2, 10, 0, 0, 0, 0)),
  (10, (.i2l, 11, 0, 0, 0, 0)),
  (11, (.lrem, 12, 0, 0, 0, 0)),
  (12, (.l2i, 13, 0, 0, 0, 0)),
  (13, (.goto 4, 16, 17, 0, 0, 0)),
  (16, (.iconst 0, 17, 0, 0, 0, 0)),
  (17, (.ireturn, 18, 0, 0, 0, 0))]
def am_r141 : List (Nat × am_R) := [(0, (.aload_n 0, 1, 0, 0, 0, 0)),
  (1, (.iload_n 1, 2, 0, 0, 0, 0)),
  (2, (.invokevirtual 141, 5, 93, 1, 124, 10)),
  (5, (.ifCond .ne 5, 8, 10, 0, 0, 0)),
  (8, (.iconst (-1), 9, 0, 0, 0, 0)),
  (9, (.ireturn, 10, 0, 0, 0, 0)),
  (10, (.iconst 0, 11, 0, 0, 0, 0)),
  (11, (.istore_n 2, 12, 0, 0, 0, 0)),
  (12, (.bipush (-2), 14, 0, 0, 0, 0)),
  (14, (.istore_n 3, 15, 0, 0, 0, 0)),
  (15, (.iload_n 3, 16, 0, 0, 0, 0)),
  (16, (.iconst 2, 17, 0, 0, 0, 0)),
  (17, (.if_icmp .gt 41, 20, 58, 0, 0, 0)),
  (20, (.aload_n 0, 21, 0, 0, 0, 0)),
  (21, (.getfield 35, 24, 3, 10, 103, 0)),
  (24, (.getfield 150, 27, 8, 0, 50, 0)),
  (27, (.iload_n 1, 28, 0, 0, 0, 0)),
  (28, (.iaload, 29, 0, 0, 0, 0)),
  (29, (.aload_n 0, 30, 0, 0, 0, 0)),
  (30, (.iload_n 3, 31, 0, 0, 0, 0)),
  (31, (.invokevirtual 264, 34, 142, 1, 182, 10)),
  (34, (.iand, 35, 0, 0, 0, 0)),
  (35, (.istore 4, 37, 0, 0, 0, 0)),
  (37, (.iload 4, 39, 0, 0, 0, 0)),
  (39, (.invokestatic 233, 42, 69, 1, 173, 0)),
  (42, (.iload_n 2, 43, 0, 0, 0, 0)),
  (43, (.invokestatic 233, 46, 69, 1, 173, 0)),
  (46, (.if_icmp .le 6, 49, 52, 0, 0, 0)),
  (49, (.iload 4, 51, 0, 0, 0, 0)),
  (51, (.istore_n 2, 52, 0, 0, 0, 0)),
  (52, (.iinc 3 1, 55, 0, 0, 0, 0)),
  (55, (.goto (-40), 58, 15, 0, 0, 0)),
  (58, (.iload_n 2, 59, 0, 0, 0, 0)),
  (59, (.ireturn, 60, 0, 0, 0, 0))]
def am_r142 : List (Nat × am_R) := [(0, (.iconst 0, 1, 0, 0, 0, 0)),
  (1, (.istore_n 2, 2, 0, 0, 0, 0)),
  (2, (.iconst 0, 3, 0, 0, 0, 0)),
  (3, (.istore_n 3, 4, 0, 0, 0, 0)),
  (4, (.iload_n 3, 5, 0, 0, 0, 0)),
  (5, (.aload_n 0, 6, 0, 0, 0, 0)),
  (6, (.getfield 35, 9, 3, 10, 103, 0)),
  (9, (.getfield 159, 12, 0, 0, 29, 0)),
  (12, (.if_icmp .ge 31, 15, 43, 0, 0, 0)),
  (15, (.aload_n 0, 16, 0, 0, 0, 0)),
  (16, (.getfield 35, 19, 3, 10, 103, 0)),
  (19, (.iload_n 3, 20, 0, 0, 0, 0)),
  (20, (.aload_n 0, 21, 0, 0, 0, 0)),
  (21, (.getfield 55, 24, 7, 10, 107, 0)),
  (24, (.invokevirtual 267, 27, 89, 2, 183, 0)),
  (27, (.iload_n 1, 28, 0, 0, 0, 0)),
  (28, (.if_icmp .ne 9, 31, 37, 0, 0, 0)),
  (31, (.iload_n 2, 32, 0, 0, 0, 0)),
  (32, (.iconst 1, 33, 0, 0, 0, 0)),
  (33, (.iload_n 3, 34, 0, 0, 0, 0)),
  (34, (.ishl, 35, 0, 0, 0, 0)),
  (35, (.ior, 36, 0, 0, 0, 0)),
  (36, (.istore_n 2, 37, 0, 0, 0, 0)),
  (37, (.iinc 3 1, 40, 0, 0, 0, 0)),
  (40, (.goto (-36), 43, 4, 0, 0, 0)),
  (43, (.iload_n 2, 44, 0, 0, 0, 0)),
  (44, (.ireturn, 45, 0, 0, 0, 0))]
def am_r143 : List (Nat × am_R) := [(0, (.aload_n 0, 1, 0, 0, 0, 0)),
  (1, (.iload_n 1, 2, 0, 0, 0, 0)),
  (2, (.invokevirtual 141, 5, 93, 1, 124, 10)),
  (5, (.ifCond .eq 12, 8, 17, 0, 0, 0)),
  (8, (.iload_n 2, 9, 0, 0, 0, 0)),
  (9, (.iconst 0, 10, 0, 0, 0, 0)),
  (10, (.iconst 1, 11, 0, 0, 0, 0)),
  (11, (.invokestatic 183, 14, 60, 3, 145, 0)),
  (14, (.ifCond .ne 6, 17, 20, 0, 0, 0)),
  (17, (.bipush (-3), 19, 0, 0, 0, 0)),
  (19, (.ireturn, 20, 0, 0, 0, 0)),
  (20, (.iconst (-1), 21, 0, 0, 0, 0)),
  (21, (.istore_n 3, 22, 0, 0, 0, 0)),
  (22, (.iconst 0, 23, 0, 0, 0, 0)),
  (23, (.istore 4, 25, 0, 0, 0, 0)),
  (25, (.bipush (-2), 27, 0, 0, 0, 0)),
  (27, (.istore 5, 29, 0, 0, 0, 0)),
  (29, (.iload 5, 31, 0, 0, 0, 0)),
  (31, (.iconst 2, 32, 0, 0, 0, 0)),
  (32, (.if_icmp .gt 42, 35, 74, 0, 0, 0)),
  (35, (.aload_n 0, 36, 0, 0, 0, 0)),
  (36, (.iload_n 1, 37, 0, 0, 0, 0)),
  (37, (.iload 5, 39, 0, 0, 0, 0)),
  (39, (.invokevirtual 271, 42, 144, 2, 185, 10)),
  (42, (.istore 6, 44, 0, 0, 0, 0)),
  (44, (.iload 6, 46, 0, 0, 0, 0)),
  (46, (.iconst (-1), 47, 0, 0, 0, 0)),
  (47, (.if_icmp .eq 21, 50, 68, 0, 0, 0)),
  (50, (.iload_n 3, 51, 0, 0, 0, 0)),
  (51, (.iconst (-1), 52, 0, 0, 0, 0)),
  (52, (.if_icmp .eq 9, 55, 61, 0, 0, 0)),
  (55, (.iload 6, 57, 0, 0, 0, 0)),
  (57, (.iload_n 3, 58, 0, 0, 0, 0)),
  (58, (.if_icmp .ge 10, 61, 68, 0, 0, 0)),
  (61, (.iload 6, 63, 0, 0, 0, 0)),
  (63, (.istore_n 3, 64, 0, 0, 0, 0)),
  (64, (.iload 5, 66, 0, 0, 0, 0)),
  (66, (.istore 4, 68, 0, 0, 0, 0)),
  (68, (.iinc 5 1, 71, 0, 0, 0, 0)),
  (71, (.goto (-42), 74, 29, 0, 0, 0)),
  (74, (.iload_n 3, 75, 0, 0, 0, 0)),
  (75, (.iconst (-1), 76, 0, 0, 0, 0)),
  (76, (.if_icmp .ne 6, 79, 82, 0, 0, 0)),
  (79, (.bipush (-3), 81, 0, 0, 0, 0)),
  (81, (.ireturn, 82, 0, 0, 0, 0)),
  (82, (.iload_n 2, 83, 0, 0, 0, 0)),
  (83, (.ifCond .ne 7, 86, 90, 0, 0, 0)),
  (86, (.iload_n 3, 87, 0, 0, 0, 0)),
  (87, (.goto 5, 90, 92, 0, 0, 0)),
  (90, (.iload 4, 92, 0, 0, 0, 0)),
  (92, (.ireturn, 93, 0, 0, 0, 0))]
def am_r144 : List (Nat × am_R) := [(0, (.aload_n 0, 1, 0, 0, 0, 0)),
  (1, (.getfield 35, 4, 3, 10, 103, 0)),
  (4, (.getfield 147, 7, 7, 0, 47, 0)),
  (7, (.iload_n 1, 8, 0, 0, 0, 0)),
  (8, (.iaload, 9, 0, 0, 0, 0)),
  (9, (.istore_n 3, 10, 0, 0, 0, 0)),
  (10, (.iconst 0, 11, 0, 0, 0, 0)),
  (11, (.istore 4, 13, 0, 0, 0, 0)),
  (13, (.iconst 0, 14, 0, 0, 0, 0)),
  (14, (.istore 5, 16, 0, 0, 0, 0)),
  (16, (.iload 5, 18, 0, 0, 0, 0)),
  (18, (.iconst 5, 19, 0, 0, 0, 0)),
  (19, (.if_icmp .ge 38, 22, 57, 0, 0, 0)),
  (22, (.iload_n 3, 23, 0, 0, 0, 0)),
  (23, (.aload_n 0, 24, 0, 0, 0, 0)),
  (24, (.iload_n 1, 25, 0, 0, 0, 0)),
  (25, (.iload_n 2, 26, 0, 0, 0, 0)),
  (26, (.iload 5, 28, 0, 0, 0, 0)),
  (28, (.invokevirtual 274, 31, 145, 3, 186, 10)),
  (31, (.invokestatic 277, 34, 29, 2, 188, 0)),
  (34, (.istore 6, 36, 0, 0, 0, 0)),
  (36, (.iload_n 3, 37, 0, 0, 0, 0)),
  (37, (.iload 6, 39, 0, 0, 0, 0)),
  (39, (.isub, 40, 0, 0, 0, 0)),
  (40, (.istore_n 3, 41, 0, 0, 0, 0)),
  (41, (.iload 4, 43, 0, 0, 0, 0)),
  (43, (.iload 6, 45, 0, 0, 0, 0)),
  (45, (.iload 5, 47, 0, 0, 0, 0)),
  (47, (.imul, 48, 0, 0, 0, 0)),
  (48, (.iadd, 49, 0, 0, 0, 0)),
  (49, (.istore 4, 51, 0, 0, 0, 0)),
  (51, (.iinc 5 1, 54, 0, 0, 0, 0)),
  (54, (.goto (-38), 57, 16, 0, 0, 0)),
  (57, (.iload_n 3, 58, 0, 0, 0, 0)),
  (58, (.ifCond .ne 8, 61, 66, 0, 0, 0)),
  (61, (.iload 4, 63, 0, 0, 0, 0)),
  (63, (.goto 4, 66, 67, 0, 0, 0)),
  (66, (.iconst (-1), 67, 0, 0, 0, 0)),
  (67, (.ireturn, 68, 0, 0, 0, 0))]
def am_r145 : List (Nat × am_R) := [(0, (.iconst 0, 1, 0, 0, 0, 0)),
  (1, (.istore 4, 3, 0, 0, 0, 0)),
  (3, (.iconst 0, 4, 0, 0, 0, 0)),
  (4, (.istore 5, 6, 0, 0, 0, 0)),
  (6, (.iload 5, 8, 0, 0, 0, 0)),
  (8, (.aload_n 0, 9, 0, 0, 0, 0)),
  (9, (.getfield 35, 12, 3, 10, 103, 0)),
  (12, (.getfield 159, 15, 0, 0, 29, 0)),
  (15, (.if_icmp .ge 81, 18, 96, 0, 0, 0)),
  (18, (.aload_n 0, 19, 0, 0, 0, 0)),
  (19, (.getfield 35, 22, 3, 10, 103, 0)),
  (22, (.getfield 118, 25, 2, 0, 34, 0)),
  (25, (.iload 5, 27, 0, 0, 0, 0)),
  (27, (.iaload, 28, 0, 0, 0, 0)),
  (28, (.iconst 3, 29, 0, 0, 0, 0)),
  (29, (.if_icmp .ne 7, 32, 36, 0, 0, 0)),
  (32, (.iload_n 2, 33, 0, 0, 0, 0)),
  (33, (.ifCond .ne 7, 36, 40, 0, 0, 0)),
  (36, (.iconst 1, 37, 0, 0, 0, 0)),
  (37, (.goto 4, 40, 41, 0, 0, 0)),
  (40, (.iconst 0, 41, 0, 0, 0, 0)),
  (41, (.istore 6, 43, 0, 0, 0, 0)),
  (43, (.iload 6, 45, 0, 0, 0, 0)),
  (45, (.ifCond .eq 45, 48, 90, 0, 0, 0)),
  (48, (.aload_n 0, 49, 0, 0, 0, 0)),
  (49, (.getfield 35, 52, 3, 10, 103, 0)),
  (52, (.getfield 150, 55, 8, 0, 50, 0)),
  (55, (.iload_n 1, 56, 0, 0, 0, 0)),
  (56, (.iaload, 57, 0, 0, 0, 0)),
  (57, (.iload 5, 59, 0, 0, 0, 0)),
  (59, (.invokestatic 219, 62, 65, 2, 159, 0)),
  (62, (.ifCond .eq 28, 65, 90, 0, 0, 0)),
  (65, (.aload_n 0, 66, 0, 0, 0, 0)),
  (66, (.getfield 35, 69, 3, 10, 103, 0)),
  (69, (.iload 5, 71, 0, 0, 0, 0)),
  (71, (.aload_n 0, 72, 0, 0, 0, 0)),
  (72, (.getfield 55, 75, 7, 10, 107, 0)),
  (75, (.invokevirtual 267, 78, 89, 2, 183, 0)),
  (78, (.iload_n 2, 79, 0, 0, 0, 0)),
  (79, (.isub, 80, 0, 0, 0, 0)),
  (80, (.invokestatic 282, 83, 146, 1, 187, 0)),
  (83, (.iload_n 3, 84, 0, 0, 0, 0)),
  (84, (.if_icmp .ne 6, 87, 90, 0, 0, 0)),
  (87, (.iinc 4 1, 90, 0, 0, 0, 0)),
  (90, (.iinc 5 1, 93, 0, 0, 0, 0)),
  (93, (.goto (-87), 96, 6, 0, 0, 0)),
  (96, (.iload 4, 98, 0, 0, 0, 0)),
  (98, (.ireturn, 99, 0, 0, 0, 0))]
def am_r146 : List (Nat × am_R) := [(0, (.iload_n 0, 1, 0, 0, 0, 0)),
  (1, (.ifCond .ge 8, 4, 9, 0, 0, 0)),
  (4, (.iload_n 0, 5, 0, 0, 0, 0)),
  (5, (.ineg, 6, 0, 0, 0, 0)),
  (6, (.goto 4, 9, 10, 0, 0, 0)),
  (9, (.iload_n 0, 10, 0, 0, 0, 0)),
  (10, (.ireturn, 11, 0, 0, 0, 0))]
def am_r147 : List (Nat × am_R) := [(0, (.aload_n 0, 1, 0, 0, 0, 0)),
  (1, (.iload_n 1, 2, 0, 0, 0, 0)),
  (2, (.invokevirtual 114, 5, 87, 1, 117, 10)),
  (5, (.ifCond .ne 5, 8, 10, 0, 0, 0)),
  (8, (.iconst (-1), 9, 0, 0, 0, 0)),
  (9, (.ireturn, 10, 0, 0, 0, 0)),
  (10, (.aload_n 0, 11, 0, 0, 0, 0)),
  (11, (.aload_n 0, 12, 0, 0, 0, 0)),
  (12, (.getfield 35, 15, 3, 10, 103, 0)),
  (15, (.iload_n 1, 16, 0, 0, 0, 0)),
  (16, (.aload_n 0, 17, 0, 0, 0, 0)),
  (17, (.getfield 55, 20, 7, 10, 107, 0)),
  (20, (.invokevirtual 267, 23, 89, 2, 183, 0)),
  (23, (.iconst 1, 24, 0, 0, 0, 0)),
  (24, (.iadd, 25, 0, 0, 0, 0)),
  (25, (.invokevirtual 264, 28, 142, 1, 182, 10)),
  (28, (.ireturn, 29, 0, 0, 0, 0))]
def am_r148 : List (Nat × am_R) := [(0, (.aload_n 0, 1, 0, 0, 0, 0)),
  (1, (.iload_n 1, 2, 0, 0, 0, 0)),
  (2, (.invokevirtual 141, 5, 93, 1, 124, 10)),
  (5, (.ifCond .eq 22, 8, 27, 0, 0, 0)),
  (8, (.iload_n 2, 9, 0, 0, 0, 0)),
  (9, (.iconst 1, 10, 0, 0, 0, 0)),
  (10, (.bipush 28, 12, 0, 0, 0, 0)),
  (12, (.invokestatic 183, 15, 60, 3, 145, 0)),
  (15, (.ifCond .eq 12, 18, 27, 0, 0, 0)),
  (18, (.aload_n 0, 19, 0, 0, 0, 0)),
  (19, (.getfield 80, 22, 12, 10, 112, 0)),
  (22, (.bipush 8, 24, 0, 0, 0, 0)),
  (24, (.if_icmp .lt 5, 27, 29, 0, 0, 0)),
  (27, (.iconst 0, 28, 0, 0, 0, 0)),
  (28, (.ireturn, 29, 0, 0, 0, 0)),
  (29, (.aload_n 0, 30, 0, 0, 0, 0)),
  (30, (.getfield 35, 33, 3, 10, 103, 0)),
  (33, (.iload_n 1, 34, 0, 0, 0, 0)),
  (34, (.aload_n 0, 35, 0, 0, 0, 0)),
  (35, (.getfield 55, 38, 7, 10, 107, 0)),
  (38, (.getfield 124, 41, 0, 6, 72, 0)),
  (41, (.iload_n 2, 42, 0, 0, 0, 0)),
  (42, (.iadd, 43, 0, 0, 0, 0)),
  (43, (.invokevirtual 285, 46, 149, 2, 191, 0)),
  (46, (.istore 4, 48, 0, 0, 0, 0)),
  (48, (.aload_n 0, 49, 0, 0, 0, 0)),
  (49, (.dup, 50, 0, 0, 0, 0)),
  (50, (.getfield 84, 53, 13, 10, 113, 0)),
  (53, (.iload_n 3, 54, 0, 0, 0, 0)),
  (54, (.ifCond .eq 8, 57, 62, 0, 0, 0)),
  (57, (.iload 4, 59, 0, 0, 0, 0)),
  (59, (.goto 7, 62, 66, 0, 0, 0)),
  (62, (.iload 4, 64, 0, 0, 0, 0)),
  (64, (.iconst (-1), 65, 0, 0, 0, 0)),
  (65, (.ixor, 66, 0, 0, 0, 0)),
  (66, (.iand, 67, 0, 0, 0, 0)),
  (67, (.putfield 84, 70, 13, 10, 113, 0)),
  (70, (.aload_n 0, 71, 0, 0, 0, 0)),
  (71, (.dup, 72, 0, 0, 0, 0)),
  (72, (.getfield 80, 75, 12, 10, 112, 0)),
  (75, (.iconst 1, 76, 0, 0, 0, 0)),
  (76, (.iadd, 77, 0, 0, 0, 0)),
  (77, (.putfield 80, 80, 12, 10, 112, 0)),
  (80, (.iconst 1, 81, 0, 0, 0, 0)),
  (81, (.ireturn, 82, 0, 0, 0, 0))]
def am_r149 : List (Nat × am_R) := [(0, (.iconst 0, 1, 0, 0, 0, 0)),
  (1, (.istore_n 3, 2, 0, 0, 0, 0)),
  (2, (.iconst 0, 3, 0, 0, 0, 0)),
  (3, (.istore 4, 5, 0, 0, 0, 0)),
  (5, (.iload 4, 7, 0, 0, 0, 0)),
  (7, (.iconst 5, 8, 0, 0, 0, 0)),
  (8, (.if_icmp .ge 52, 11, 60, 0, 0, 0)),
  (11, (.aload_n 0, 12, 0, 0, 0, 0)),
  (12, (.iload_n 2, 13, 0, 0, 0, 0)),
  (13, (.invokevirtual 81, 16, 68, 1, 192, 0)),
  (16, (.ifCond .eq 7, 19, 23, 0, 0, 0)),
  (19, (.iconst 0, 20, 0, 0, 0, 0)),
  (20, (.goto 7, 23, 27, 0, 0, 0)),
  (23, (.iload 4, 25, 0, 0, 0, 0)),
  (25, (.iconst 2, 26, 0, 0, 0, 0)),
  (26, (.isub, 27, 0, 0, 0, 0)),
  (27, (.istore 5, 29, 0, 0, 0, 0)),
  (29, (.iload_n 2, 30, 0, 0, 0, 0)),
  (30, (.iload 5, 32, 0, 0, 0, 0)),
  (32, (.iadd, 33, 0, 0, 0, 0)),
  (33, (.bipush 7, 35, 0, 0, 0, 0)),
  (35, (.invokestatic 75, 38, 90, 2, 121, 0)),
  (38, (.aload_n 0, 39, 0, 0, 0, 0)),
  (39, (.getfield 25, 42, 6, 0, 43, 0)),
  (42, (.iload_n 1, 43, 0, 0, 0, 0)),
  (43, (.iaload, 44, 0, 0, 0, 0)),
  (44, (.if_icmp .ne 10, 47, 54, 0, 0, 0)),
  (47, (.iload_n 3, 48, 0, 0, 0, 0)),
  (48, (.iconst 1, 49, 0, 0, 0, 0)),
  (49, (.iload 4, 51, 0, 0, 0, 0)),
  (51, (.ishl, 52, 0, 0, 0, 0)),
  (52, (.ior, 53, 0, 0, 0, 0)),
  (53, (.istore_n 3, 54, 0, 0, 0, 0)),
  (54, (.iinc 4 1, 57, 0, 0, 0, 0)),
  (57, (.goto (-52), 60, 5, 0, 0, 0)),
  (60, (.iload_n 3, 61, 0, 0, 0, 0)),
  (61, (.ireturn, 62, 0, 0, 0, 0))]
def am_r150 : List (Nat × am_R) := [(0, (.aload_n 0, 1, 0, 0, 0, 0)),
  (1, (.getfield 84, 4, 13, 10, 113, 0)),
  (4, (.ireturn, 5, 0, 0, 0, 0))]
def am_r151 : List (Nat × am_R) := [(0, (.aload_n 0, 1, 0, 0, 0, 0)),
  (1, (.getfield 84, 4, 13, 10, 113, 0)),
  (4, (.invokestatic 233, 7, 69, 1, 173, 0)),
  (7, (.istore_n 1, 8, 0, 0, 0, 0)),
  (8, (.iload_n 1, 9, 0, 0, 0, 0)),
  (9, (.istore_n 2, 10, 0, 0, 0, 0)),
  (10, (.iconst (-1), 11, 0, 0, 0, 0)),
  (11, (.istore_n 3, 12, 0, 0, 0, 0)),
  (12, (.iconst 1, 13, 0, 0, 0, 0)),
  (13, (.istore 4, 15, 0, 0, 0, 0)),
  (15, (.iload 4, 17, 0, 0, 0, 0)),
  (17, (.bipush 28, 19, 0, 0, 0, 0)),
  (19, (.if_icmp .gt 88, 22, 107, 0, 0, 0)),
  (22, (.iconst 0, 23, 0, 0, 0, 0)),
  (23, (.istore 5, 25, 0, 0, 0, 0)),
  (25, (.iload 5, 27, 0, 0, 0, 0)),
  (27, (.aload_n 0, 28, 0, 0, 0, 0)),
  (28, (.getfield 35, 31, 3, 10, 103, 0)),
  (31, (.getfield 162, 34, 4, 0, 40, 0)),
  (34, (.if_icmp .ge 67, 37, 101, 0, 0, 0)),
  (37, (.aload_n 0, 38, 0, 0, 0, 0)),
  (38, (.getfield 84, 41, 13, 10, 113, 0)),
  (41, (.aload_n 0, 42, 0, 0, 0, 0)),
  (42, (.getfield 35, 45, 3, 10, 103, 0)),
  (45, (.iload 5, 47, 0, 0, 0, 0)),
  (47, (.aload_n 0, 48, 0, 0, 0, 0)),
  (48, (.getfield 55, 51, 7, 10, 107, 0)),
  (51, (.getfield 124, 54, 0, 6, 72, 0)),
  (54, (.iload 4, 56, 0, 0, 0, 0)),
  (56, (.iadd, 57, 0, 0, 0, 0)),
  (57, (.invokevirtual 285, 60, 149, 2, 191, 0)),
  (60, (.iand, 61, 0, 0, 0, 0)),
  (61, (.invokestatic 233, 64, 69, 1, 173, 0)),
  (64, (.istore 6, 66, 0, 0, 0, 0)),
  (66, (.iload 6, 68, 0, 0, 0, 0)),
  (68, (.iload_n 1, 69, 0, 0, 0, 0)),
  (69, (.iload 6, 71, 0, 0, 0, 0)),
  (71, (.isub, 72, 0, 0, 0, 0)),
  (72, (.invokestatic 288, 75, 28, 2, 195, 0)),
  (75, (.istore 7, 77, 0, 0, 0, 0)),
  (77, (.iload 7, 79, 0, 0, 0, 0)),
  (79, (.iload_n 2, 80, 0, 0, 0, 0)),
  (80, (.if_icmp .ge 15, 83, 95, 0, 0, 0)),
  (83, (.iload 7, 85, 0, 0, 0, 0)),
  (85, (.istore_n 2, 86, 0, 0, 0, 0)),
  (86, (.bipush 8, 88, 0, 0, 0, 0)),
  (88, (.iload 4, 90, 0, 0, 0, 0)),
  (90, (.imul, 91, 0, 0, 0, 0)),
  (91, (.iload 5, 93, 0, 0, 0, 0)),
  (93, (.iadd, 94, 0, 0, 0, 0)),
  (94, (.istore_n 3, 95, 0, 0, 0, 0)),
  (95, (.iinc 5 1, 98, 0, 0, 0, 0)),
  (98, (.goto (-73), 101, 25, 0, 0, 0)),
  (101, (.iinc 4 1, 104, 0, 0, 0, 0)),
  (104, (.goto (-89), 107, 15, 0, 0, 0)),
  (107, (.iload_n 3, 108, 0, 0, 0, 0)),
  (108, (.ireturn, 109, 0, 0, 0, 0))]
def am_r152 : List (Nat × am_R) := [(0, (.iconst 0, 1, 0, 0, 0, 0)),
  (1, (.istore_n 1, 2, 0, 0, 0, 0)),
  (2, (.iconst (-1), 3, 0, 0, 0, 0)),
  (3, (.istore_n 2, 4, 0, 0, 0, 0)),
  (4, (.iconst 0, 5, 0, 0, 0, 0)),
  (5, (.istore_n 3, 6, 0, 0, 0, 0)),
  (6, (.iload_n 3, 7, 0, 0, 0, 0)),
  (7, (.bipush 7, 9, 0, 0, 0, 0)),
  (9, (.if_icmp .ge 30, 12, 39, 0, 0, 0)),
  (12, (.aload_n 0, 13, 0, 0, 0, 0)),
  (13, (.iload_n 3, 14, 0, 0, 0, 0)),
  (14, (.invokevirtual 291, 17, 153, 1, 197, 10)),
  (17, (.invokestatic 233, 20, 69, 1, 173, 0)),
  (20, (.istore 4, 22, 0, 0, 0, 0)),
  (22, (.iload 4, 24, 0, 0, 0, 0)),
  (24, (.iload_n 1, 25, 0, 0, 0, 0)),
  (25, (.if_icmp .le 8, 28, 33, 0, 0, 0)),
  (28, (.iload 4, 30, 0, 0, 0, 0)),
  (30, (.istore_n 1, 31, 0, 0, 0, 0)),
  (31, (.iload_n 3, 32, 0, 0, 0, 0)),
  (32, (.istore_n 2, 33, 0, 0, 0, 0)),
  (33, (.iinc 3 1, 36, 0, 0, 0, 0)),
  (36, (.goto (-30), 39, 6, 0, 0, 0)),
  (39, (.iload_n 2, 40, 0, 0, 0, 0)),
  (40, (.ireturn, 41, 0, 0, 0, 0))]
def am_r153 : List (Nat × am_R) := [(0, (.aload_n 0, 1, 0, 0, 0, 0)),
  (1, (.getfield 35, 4, 3, 10, 103, 0)),
  (4, (.aload_n 0, 5, 0, 0, 0, 0)),
  (5, (.getfield 55, 8, 7, 10, 107, 0)),
  (8, (.getfield 124, 11, 0, 6, 72, 0)),
  (11, (.invokevirtual 127, 14, 68, 1, 118, 0)),
  (14, (.istore_n 2, 15, 0, 0, 0, 0)),
  (15, (.iconst 0, 16, 0, 0, 0, 0)),
  (16, (.istore_n 3, 17, 0, 0, 0, 0)),
  (17, (.iconst 0, 18, 0, 0, 0, 0)),
  (18, (.istore 4, 20, 0, 0, 0, 0)),
  (20, (.iload 4, 22, 0, 0, 0, 0)),
  (22, (.aload_n 0, 23, 0, 0, 0, 0)),
  (23, (.getfield 35, 26, 3, 10, 103, 0)),
  (26, (.getfield 159, 29, 0, 0, 29, 0)),
  (29, (.if_icmp .ge 34, 32, 63, 0, 0, 0)),
  (32, (.aload_n 0, 33, 0, 0, 0, 0)),
  (33, (.getfield 35, 36, 3, 10, 103, 0)),
  (36, (.iload 4, 38, 0, 0, 0, 0)),
  (38, (.aload_n 0, 39, 0, 0, 0, 0)),
  (39, (.getfield 55, 42, 7, 10, 107, 0)),
  (42, (.iload_n 2, 43, 0, 0, 0, 0)),
  (43, (.invokevirtual 130, 46, 88, 3, 119, 0)),
  (46, (.iload_n 1, 47, 0, 0, 0, 0)),
  (47, (.if_icmp .ne 10, 50, 57, 0, 0, 0)),
  (50, (.iload_n 3, 51, 0, 0, 0, 0)),
  (51, (.iconst 1, 52, 0, 0, 0, 0)),
  (52, (.iload 4, 54, 0, 0, 0, 0)),
  (54, (.ishl, 55, 0, 0, 0, 0)),
  (55, (.ior, 56, 0, 0, 0, 0)),
  (56, (.istore_n 3, 57, 0, 0, 0, 0)),
  (57, (.iinc 4 1, 60, 0, 0, 0, 0)),
  (60, (.goto (-40), 63, 20, 0, 0, 0)),
  (63, (.iload_n 3, 64, 0, 0, 0, 0)),
  (64, (.ireturn, 65, 0, 0, 0, 0))]
def am_r154 : List (Nat × am_R) := [(0, (.aload_n 0, 1, 0, 0, 0, 0)),
  (1, (.invokevirtual 294, 4, 152, 0, 199, 10)),
  (4, (.istore_n 1, 5, 0, 0, 0, 0)),
  (5, (.iload_n 1, 6, 0, 0, 0, 0)),
  (6, (.iconst (-1), 7, 0, 0, 0, 0)),
  (7, (.if_icmp .ne 6, 10, 13, 0, 0, 0)),
  (10, (.bipush (-4), 12, 0, 0, 0, 0)),
  (12, (.ireturn, 13, 0, 0, 0, 0)),
  (13, (.iload_n 1, 14, 0, 0, 0, 0)),
  (14, (.aload_n 0, 15, 0, 0, 0, 0)),
  (15, (.getfield 55, 18, 7, 10, 107, 0)),
  (18, (.getfield 124, 21, 0, 6, 72, 0)),
  (21, (.isub, 22, 0, 0, 0, 0)),
  (22, (.iconst 3, 23, 0, 0, 0, 0)),
  (23, (.iadd, 24, 0, 0, 0, 0)),
  (24, (.bipush 7, 26, 0, 0, 0, 0)),
  (26, (.invokestatic 297, 29, 90, 2, 200, 0)),
  (29, (.iconst 3, 30, 0, 0, 0, 0)),
  (30, (.isub, 31, 0, 0, 0, 0)),
  (31, (.ireturn, 32, 0, 0, 0, 0))]
def am_r155 : List (Nat × am_R) := [(0, (.iconst 0, 1, 0, 0, 0, 0)),
  (1, (.istore_n 1, 2, 0, 0, 0, 0)),
  (2, (.iconst 0, 3, 0, 0, 0, 0)),
  (3, (.istore_n 2, 4, 0, 0, 0, 0)),
  (4, (.iload_n 2, 5, 0, 0, 0, 0)),
  (5, (.bipush 7, 7, 0, 0, 0, 0)),
  (7, (.if_icmp .ge 20, 10, 27, 0, 0, 0)),
  (10, (.aload_n 0, 11, 0, 0, 0, 0)),
  (11, (.iload_n 2, 12, 0, 0, 0, 0)),
  (12, (.invokevirtual 291, 15, 153, 1, 197, 10)),
  (15, (.ifCond .eq 6, 18, 21, 0, 0, 0)),
  (18, (.iinc 1 1, 21, 0, 0, 0, 0)),
  (21, (.iinc 2 1, 24, 0, 0, 0, 0)),
  (24, (.goto (-20), 27, 4, 0, 0, 0)),
  (27, (.iload_n 1, 28, 0, 0, 0, 0)),
  (28, (.ireturn, 29, 0, 0, 0, 0))]
def am_r156 : List (Nat × am_R) := [(0, (.iconst 0, 1, 0, 0, 0, 0)),
  (1, (.istore_n 1, 2, 0, 0, 0, 0)),
  (2, (.iconst 0, 3, 0, 0, 0, 0)),
  (3, (.istore_n 2, 4, 0, 0, 0, 0)),
  (4, (.iload_n 2, 5, 0, 0, 0, 0)),
  (5, (.bipush 7, 7, 0, 0, 0, 0)),
  (7, (.if_icmp .ge 28, 10, 35, 0, 0, 0)),
  (10, (.aload_n 0, 11, 0, 0, 0, 0)),
  (11, (.iload_n 2, 12, 0, 0, 0, 0)),
  (12, (.invokevirtual 291, 15, 153, 1, 197, 10)),
  (15, (.invokestatic 233, 18, 69, 1, 173, 0)),
  (18, (.istore_n 3, 19, 0, 0, 0, 0)),
  (19, (.iload_n 1, 20, 0, 0, 0, 0)),
  (20, (.iload_n 3, 21, 0, 0, 0, 0)),
  (21, (.iload_n 3, 22, 0, 0, 0, 0)),
  (22, (.iconst 1, 23, 0, 0, 0, 0)),
  (23, (.isub, 24, 0, 0, 0, 0)),
  (24, (.imul, 25, 0, 0, 0, 0)),
  (25, (.iconst 2, 26, 0, 0, 0, 0)),
  (26, (.idiv, 27, 0, 0, 0, 0)),
  (27, (.iadd, 28, 0, 0, 0, 0)),
  (28, (.istore_n 1, 29, 0, 0, 0, 0)),
  (29, (.iinc 2 1, 32, 0, 0, 0, 0)),
  (32, (.goto (-28), 35, 4, 0, 0, 0)),
  (35, (.iload_n 1, 36, 0, 0, 0, 0)),
  (36, (.ireturn, 37, 0, 0, 0, 0))]
def am_r157 : List (Nat × am_R) := [(0, (.aload_n 0, 1, 0, 0, 0, 0)),
  (1, (.aload_n 0, 2, 0, 0, 0, 0)),
  (2, (.getfield 55, 5, 7, 10, 107, 0)),
  (5, (.getfield 124, 8, 0, 6, 72, 0)),
  (8, (.bipush 7, 10, 0, 0, 0, 0)),
  (10, (.irem, 11, 0, 0, 0, 0)),
  (11, (.invokevirtual 291, 14, 153, 1, 197, 10)),
  (14, (.ireturn, 15, 0, 0, 0, 0))]
def am_r158 : List (Nat × am_R) := [(0, (.iconst (-1), 1, 0, 0, 0, 0)),
  (1, (.istore_n 1, 2, 0, 0, 0, 0)),
  (2, (.iconst (-1), 3, 0, 0, 0, 0)),
  (3, (.istore_n 2, 4, 0, 0, 0, 0)),
  (4, (.iconst 0, 5, 0, 0, 0, 0)),
  (5, (.istore_n 3, 6, 0, 0, 0, 0)),
  (6, (.iload_n 3, 7, 0, 0, 0, 0)),
  (7, (.aload_n 0, 8, 0, 0, 0, 0)),
  (8, (.getfield 35, 11, 3, 10, 103, 0)),
  (11, (.getfield 159, 14, 0, 0, 29, 0)),
  (14, (.if_icmp .ge 27, 17, 41, 0, 0, 0)),
  (17, (.aload_n 0, 18, 0, 0, 0, 0)),
  (18, (.iload_n 3, 19, 0, 0, 0, 0)),
  (19, (.invokevirtual 300, 22, 159, 1, 205, 10)),
  (22, (.istore 4, 24, 0, 0, 0, 0)),
  (24, (.iload 4, 26, 0, 0, 0, 0)),
  (26, (.iload_n 1, 27, 0, 0, 0, 0)),
  (27, (.if_icmp .le 8, 30, 35, 0, 0, 0)),
  (30, (.iload 4, 32, 0, 0, 0, 0)),
  (32, (.istore_n 1, 33, 0, 0, 0, 0)),
  (33, (.iload_n 3, 34, 0, 0, 0, 0)),
  (34, (.istore_n 2, 35, 0, 0, 0, 0)),
  (35, (.iinc 3 1, 38, 0, 0, 0, 0)),
  (38, (.goto (-32), 41, 6, 0, 0, 0)),
  (41, (.iload_n 2, 42, 0, 0, 0, 0)),
  (42, (.ireturn, 43, 0, 0, 0, 0))]
def am_r159 : List (Nat × am_R) := [(0, (.iconst 0, 1, 0, 0, 0, 0)),
  (1, (.istore_n 2, 2, 0, 0, 0, 0)),
  (2, (.iconst 1, 3, 0, 0, 0, 0)),
  (3, (.istore_n 3, 4, 0, 0, 0, 0)),
  (4, (.iload_n 3, 5, 0, 0, 0, 0)),
  (5, (.bipush 28, 7, 0, 0, 0, 0)),
  (7, (.if_icmp .gt 46, 10, 53, 0, 0, 0)),
  (10, (.aload_n 0, 11, 0, 0, 0, 0)),
  (11, (.getfield 35, 14, 3, 10, 103, 0)),
  (14, (.aload_n 0, 15, 0, 0, 0, 0)),
  (15, (.getfield 55, 18, 7, 10, 107, 0)),
  (18, (.getfield 124, 21, 0, 6, 72, 0)),
  (21, (.iload_n 3, 22, 0, 0, 0, 0)),
  (22, (.iadd, 23, 0, 0, 0, 0)),
  (23, (.invokevirtual 127, 26, 68, 1, 118, 0)),
  (26, (.ifCond .ne 18, 29, 44, 0, 0, 0)),
  (29, (.aload_n 0, 30, 0, 0, 0, 0)),
  (30, (.getfield 35, 33, 3, 10, 103, 0)),
  (33, (.iload_n 1, 34, 0, 0, 0, 0)),
  (34, (.aload_n 0, 35, 0, 0, 0, 0)),
  (35, (.getfield 55, 38, 7, 10, 107, 0)),
  (38, (.invokevirtual 267, 41, 89, 2, 183, 0)),
  (41, (.ifCond .ne 6, 44, 47, 0, 0, 0)),
  (44, (.iinc 2 1, 47, 0, 0, 0, 0)),
  (47, (.iinc 3 1, 50, 0, 0, 0, 0)),
  (50, (.goto (-46), 53, 4, 0, 0, 0)),
  (53, (.iload_n 2, 54, 0, 0, 0, 0)),
  (54, (.ireturn, 55, 0, 0, 0, 0))]
def am_inf_3 : List (List (Nat × am_R) × Nat × Option FieldType) := [(am_r120, 4, (Option.some Jvm.ClassFile.FieldType.int)), (am_r121, 3, (Option.some Jvm.ClassFile.FieldType.int)), (am_r122, 3, (Option.some Jvm.ClassFile.FieldType.int)), (am_r123, 4, (Option.some Jvm.ClassFile.FieldType.int)), (am_r124, 4, (Option.some Jvm.ClassFile.FieldType.int)), (am_r125, 4, (Option.some Jvm.ClassFile.FieldType.int)), (am_r126, 4, (Option.some Jvm.ClassFile.FieldType.int)), (am_r127, 3, (Option.some Jvm.ClassFile.FieldType.int)), (am_r128, 5, (Option.some Jvm.ClassFile.FieldType.int)), (am_r129, 4, (Option.some Jvm.ClassFile.FieldType.int)), (am_r130, 3, (Option.some Jvm.ClassFile.FieldType.int)), (am_r131, 7, (Option.some Jvm.ClassFile.FieldType.int)), (am_r132, 4, (Option.some Jvm.ClassFile.FieldType.int)), (am_r133, 4, (Option.some Jvm.ClassFile.FieldType.int)), (am_r134, 6, (Option.some Jvm.ClassFile.FieldType.int)), (am_r135, 5, (Option.some Jvm.ClassFile.FieldType.boolean)), (am_r136, 5, (Option.some Jvm.ClassFile.FieldType.int)), (am_r137, 7, (Option.some Jvm.ClassFile.FieldType.int)), (am_r138, 7, (Option.some Jvm.ClassFile.FieldType.long)), (am_r139, 2, (Option.some Jvm.ClassFile.FieldType.long)), (am_r140, 3, (Option.some Jvm.ClassFile.FieldType.int)), (am_r141, 5, (Option.some Jvm.ClassFile.FieldType.int)), (am_r142, 4, (Option.some Jvm.ClassFile.FieldType.int)), (am_r143, 7, (Option.some Jvm.ClassFile.FieldType.int)), (am_r144, 7, (Option.some Jvm.ClassFile.FieldType.int)), (am_r145, 7, (Option.some Jvm.ClassFile.FieldType.int)), (am_r146, 1, (Option.some Jvm.ClassFile.FieldType.int)), (am_r147, 2, (Option.some Jvm.ClassFile.FieldType.int)), (am_r148, 5, (Option.some Jvm.ClassFile.FieldType.boolean)), (am_r149, 6, (Option.some Jvm.ClassFile.FieldType.int)), (am_r150, 1, (Option.some Jvm.ClassFile.FieldType.int)), (am_r151, 8, (Option.some Jvm.ClassFile.FieldType.int)), (am_r152, 5, (Option.some Jvm.ClassFile.FieldType.int)), (am_r153, 5, (Option.some Jvm.ClassFile.FieldType.int)), (am_r154, 2, (Option.some Jvm.ClassFile.FieldType.int)), (am_r155, 3, (Option.some Jvm.ClassFile.FieldType.int)), (am_r156, 4, (Option.some Jvm.ClassFile.FieldType.int)), (am_r157, 1, (Option.some Jvm.ClassFile.FieldType.int)), (am_r158, 5, (Option.some Jvm.ClassFile.FieldType.int)), (am_r159, 4, (Option.some Jvm.ClassFile.FieldType.int))]
theorem am_ck_3_0 : ((am_mi_3.zip am_inf_3).take 10).all am_chk = true := by decide +kernel
theorem am_ck_3_1 : (((am_mi_3.zip am_inf_3).drop 10).take 10).all am_chk = true := by decide +kernel
theorem am_ck_3_2 : (((am_mi_3.zip am_inf_3).drop 20).take 10).all am_chk = true := by decide +kernel
theorem am_ck_3_3 : (((am_mi_3.zip am_inf_3).drop 30)).all am_chk = true := by decide +kernel
theorem am_ck_3 : (am_mi_3.zip am_inf_3).all am_chk = true := am_all_cut _ 10 _ am_ck_3_0 (am_all_cut _ 10 _ am_ck_3_1 (by
  rw [List.drop_drop]
  exact am_all_cut _ 10 _ am_ck_3_2 (by
    rw [List.drop_drop]
    exact am_ck_3_3)))
end
section
/-! rows of methods, checked against their bytes -/
def am_r160 : List (Nat × am_R) := [(0, (.aload_n 0, 1, 0, 0, 0, 0)),
  (1, (.iload_n 1, 2, 0, 0, 0, 0)),
  (2, (.invokevirtual 114, 5, 87, 1, 117, 10)),
  (5, (.ifCond .eq 11, 8, 16, 0, 0, 0)),
  (8, (.aload_n 0, 9, 0, 0, 0, 0)),
  (9, (.iload_n 2, 10, 0, 0, 0, 0)),
  (10, (.invokevirtual 114, 13, 87, 1, 117, 10)),
  (13, (.ifCond .ne 5, 16, 18, 0, 0, 0)),
  (16, (.iconst (-1), 17, 0, 0, 0, 0)),
  (17, (.ireturn, 18, 0, 0, 0, 0)),
  (18, (.iconst 1, 19, 0, 0, 0, 0)),
  (19, (.iload_n 1, 20, 0, 0, 0, 0)),
  (20, (.ishl, 21, 0, 0, 0, 0)),
  (21, (.istore_n 3, 22, 0, 0, 0, 0)),
  (22, (.iconst 0, 23, 0, 0, 0, 0)),
  (23, (.istore 4, 25, 0, 0, 0, 0)),
  (25, (.iload 4, 27, 0, 0, 0, 0)),
  (27, (.bipush 6, 29, 0, 0, 0, 0)),
  (29, (.if_icmp .ge 26, 32, 55, 0, 0, 0)),
  (32, (.iload_n 3, 33, 0, 0, 0, 0)),
  (33, (.iload_n 2, 34, 0, 0, 0, 0)),
  (34, (.invokestatic 219, 37, 65, 2, 159, 0)),
  (37, (.ifCond .eq 6, 40, 43, 0, 0, 0)),
  (40, (.iload 4, 42, 0, 0, 0, 0)),
  (42, (.ireturn, 43, 0, 0, 0, 0)),
  (43, (.aload_n 0, 44, 0, 0, 0, 0)),
  (44, (.iload_n 3, 45, 0, 0, 0, 0)),
  (45, (.invokevirtual 303, 48, 161, 1, 207, 10)),
  (48, (.istore_n 3, 49, 0, 0, 0, 0)),
  (49, (.iinc 4 1, 52, 0, 0, 0, 0)),
  (52, (.goto (-27), 55, 25, 0, 0, 0)),
  (55, (.iconst (-1), 56, 0, 0, 0, 0)),
  (56, (.ireturn, 57, 0, 0, 0, 0))]
def am_r161 : List (Nat × am_R) := [(0, (.iload_n 1, 1, 0, 0, 0, 0)),
  (1, (.istore_n 2, 2, 0, 0, 0, 0)),
  (2, (.iconst 0, 3, 0, 0, 0, 0)),
  (3, (.istore_n 3, 4, 0, 0, 0, 0)),
  (4, (.iload_n 3, 5, 0, 0, 0, 0)),
  (5, (.aload_n 0, 6, 0, 0, 0, 0)),
  (6, (.getfield 35, 9, 3, 10, 103, 0)),
  (9, (.getfield 159, 12, 0, 0, 29, 0)),
  (12, (.if_icmp .ge 29, 15, 41, 0, 0, 0)),
  (15, (.iload_n 1, 16, 0, 0, 0, 0)),
  (16, (.iload_n 3, 17, 0, 0, 0, 0)),
  (17, (.invokestatic 219, 20, 65, 2, 159, 0)),
  (20, (.ifCond .eq 15, 23, 35, 0, 0, 0)),
  (23, (.iload_n 2, 24, 0, 0, 0, 0)),
  (24, (.aload_n 0, 25, 0, 0, 0, 0)),
  (25, (.getfield 55, 28, 7, 10, 107, 0)),
  (28, (.getfield 138, 31, 3, 6, 80, 0)),
  (31, (.iload_n 3, 32, 0, 0, 0, 0)),
  (32, (.iaload, 33, 0, 0, 0, 0)),
  (33, (.ior, 34, 0, 0, 0, 0)),
  (34, (.istore_n 2, 35, 0, 0, 0, 0)),
  (35, (.iinc 3 1, 38, 0, 0, 0, 0)),
  (38, (.goto (-34), 41, 4, 0, 0, 0)),
  (41, (.iload_n 2, 42, 0, 0, 0, 0)),
  (42, (.ireturn, 43, 0, 0, 0, 0))]
def am_r162 : List (Nat × am_R) := [(0, (.iconst 0, 1, 0, 0, 0, 0)),
  (1, (.istore_n 1, 2, 0, 0, 0, 0)),
  (2, (.iconst 0, 3, 0, 0, 0, 0)),
  (3, (.istore_n 2, 4, 0, 0, 0, 0)),
  (4, (.iload_n 2, 5, 0, 0, 0, 0)),
  (5, (.aload_n 0, 6, 0, 0, 0, 0)),
  (6, (.getfield 35, 9, 3, 10, 103, 0)),
  (9, (.getfield 159, 12, 0, 0, 29, 0)),
  (12, (.if_icmp .ge 31, 15, 43, 0, 0, 0)),
  (15, (.aload_n 0, 16, 0, 0, 0, 0)),
  (16, (.getfield 55, 19, 7, 10, 107, 0)),
  (19, (.getfield 138, 22, 3, 6, 80, 0)),
  (22, (.iload_n 2, 23, 0, 0, 0, 0)),
  (23, (.iaload, 24, 0, 0, 0, 0)),
  (24, (.invokestatic 233, 27, 69, 1, 173, 0)),
  (27, (.iconst 1, 28, 0, 0, 0, 0)),
  (28, (.if_icmp .ne 9, 31, 37, 0, 0, 0)),
  (31, (.iload_n 1, 32, 0, 0, 0, 0)),
  (32, (.iconst 1, 33, 0, 0, 0, 0)),
  (33, (.iload_n 2, 34, 0, 0, 0, 0)),
  (34, (.ishl, 35, 0, 0, 0, 0)),
  (35, (.ior, 36, 0, 0, 0, 0)),
  (36, (.istore_n 1, 37, 0, 0, 0, 0)),
  (37, (.iinc 2 1, 40, 0, 0, 0, 0)),
  (40, (.goto (-36), 43, 4, 0, 0, 0)),
  (43, (.iload_n 1, 44, 0, 0, 0, 0)),
  (44, (.ireturn, 45, 0, 0, 0, 0))]
def am_r163 : List (Nat × am_R) := [(0, (.iconst 0, 1, 0, 0, 0, 0)),
  (1, (.istore_n 1, 2, 0, 0, 0, 0)),
  (2, (.iconst 0, 3, 0, 0, 0, 0)),
  (3, (.istore_n 2, 4, 0, 0, 0, 0)),
  (4, (.iconst 0, 5, 0, 0, 0, 0)),
  (5, (.istore_n 3, 6, 0, 0, 0, 0)),
  (6, (.iload_n 3, 7, 0, 0, 0, 0)),
  (7, (.aload_n 0, 8, 0, 0, 0, 0)),
  (8, (.getfield 35, 11, 3, 10, 103, 0)),
  (11, (.getfield 159, 14, 0, 0, 29, 0)),
  (14, (.if_icmp .ge 28, 17, 42, 0, 0, 0)),
  (17, (.iload_n 2, 18, 0, 0, 0, 0)),
  (18, (.iload_n 3, 19, 0, 0, 0, 0)),
  (19, (.invokestatic 219, 22, 65, 2, 159, 0)),
  (22, (.ifCond .ne 14, 25, 36, 0, 0, 0)),
  (25, (.iinc 1 1, 28, 0, 0, 0, 0)),
  (28, (.iload_n 2, 29, 0, 0, 0, 0)),
  (29, (.aload_n 0, 30, 0, 0, 0, 0)),
  (30, (.iload_n 3, 31, 0, 0, 0, 0)),
  (31, (.invokevirtual 306, 34, 164, 1, 210, 10)),
  (34, (.ior, 35, 0, 0, 0, 0)),
  (35, (.istore_n 2, 36, 0, 0, 0, 0)),
  (36, (.iinc 3 1, 39, 0, 0, 0, 0)),
  (39, (.goto (-33), 42, 6, 0, 0, 0)),
  (42, (.iload_n 1, 43, 0, 0, 0, 0)),
  (43, (.ireturn, 44, 0, 0, 0, 0))]
def am_r164 : List (Nat × am_R) := [(0, (.iconst 1, 1, 0, 0, 0, 0)),
  (1, (.iload_n 1, 2, 0, 0, 0, 0)),
  (2, (.ishl, 3, 0, 0, 0, 0)),
  (3, (.istore_n 2, 4, 0, 0, 0, 0)),
  (4, (.iconst 1, 5, 0, 0, 0, 0)),
  (5, (.istore_n 3, 6, 0, 0, 0, 0)),
  (6, (.iload_n 3, 7, 0, 0, 0, 0)),
  (7, (.bipush 6, 9, 0, 0, 0, 0)),
  (9, (.if_icmp .ge 15, 12, 24, 0, 0, 0)),
  (12, (.aload_n 0, 13, 0, 0, 0, 0)),
  (13, (.iload_n 2, 14, 0, 0, 0, 0)),
  (14, (.invokevirtual 303, 17, 161, 1, 207, 10)),
  (17, (.istore_n 2, 18, 0, 0, 0, 0)),
  (18, (.iinc 3 1, 21, 0, 0, 0, 0)),
  (21, (.goto (-15), 24, 6, 0, 0, 0)),
  (24, (.iload_n 2, 25, 0, 0, 0, 0)),
  (25, (.ireturn, 26, 0, 0, 0, 0))]
def am_r165 : List (Nat × am_R) := [(0, (.aload_n 0, 1, 0, 0, 0, 0)),
  (1, (.iload_n 1, 2, 0, 0, 0, 0)),
  (2, (.invokevirtual 114, 5, 87, 1, 117, 10)),
  (5, (.ifCond .eq 11, 8, 16, 0, 0, 0)),
  (8, (.aload_n 0, 9, 0, 0, 0, 0)),
  (9, (.iload_n 2, 10, 0, 0, 0, 0)),
  (10, (.invokevirtual 114, 13, 87, 1, 117, 10)),
  (13, (.ifCond .ne 5, 16, 18, 0, 0, 0)),
  (16, (.iconst (-1), 17, 0, 0, 0, 0)),
  (17, (.ireturn, 18, 0, 0, 0, 0)),
  (18, (.aload_n 0, 19, 0, 0, 0, 0)),
  (19, (.getfield 35, 22, 3, 10, 103, 0)),
  (22, (.iload_n 1, 23, 0, 0, 0, 0)),
  (23, (.invokevirtual 134, 26, 91, 1, 122, 0)),
  (26, (.aload_n 0, 27, 0, 0, 0, 0)),
  (27, (.getfield 35, 30, 3, 10, 103, 0)),
  (30, (.iload_n 2, 31, 0, 0, 0, 0)),
  (31, (.invokevirtual 134, 34, 91, 1, 122, 0)),
  (34, (.iand, 35, 0, 0, 0, 0)),
  (35, (.ireturn, 36, 0, 0, 0, 0))]
def am_r166 : List (Nat × am_R) := [(0, (.iconst 1, 1, 0, 0, 0, 0)),
  (1, (.aload_n 0, 2, 0, 0, 0, 0)),
  (2, (.getfield 35, 5, 3, 10, 103, 0)),
  (5, (.getfield 162, 8, 4, 0, 40, 0)),
  (8, (.ishl, 9, 0, 0, 0, 0)),
  (9, (.iconst 1, 10, 0, 0, 0, 0)),
  (10, (.isub, 11, 0, 0, 0, 0)),
  (11, (.istore_n 1, 12, 0, 0, 0, 0)),
  (12, (.iload_n 1, 13, 0, 0, 0, 0)),
  (13, (.istore_n 2, 14, 0, 0, 0, 0)),
  (14, (.iconst 0, 15, 0, 0, 0, 0)),
  (15, (.istore_n 3, 16, 0, 0, 0, 0)),
  (16, (.iload_n 3, 17, 0, 0, 0, 0)),
  (17, (.iload_n 1, 18, 0, 0, 0, 0)),
  (18, (.if_icmp .ge 41, 21, 59, 0, 0, 0)),
  (21, (.iload_n 3, 22, 0, 0, 0, 0)),
  (22, (.invokestatic 233, 25, 69, 1, 173, 0)),
  (25, (.iload_n 2, 26, 0, 0, 0, 0)),
  (26, (.invokestatic 233, 29, 69, 1, 173, 0)),
  (29, (.if_icmp .ge 24, 32, 53, 0, 0, 0)),
  (32, (.aload_n 0, 33, 0, 0, 0, 0)),
  (33, (.getfield 35, 36, 3, 10, 103, 0)),
  (36, (.iload_n 3, 37, 0, 0, 0, 0)),
  (37, (.invokevirtual 309, 40, 167, 1, 213, 0)),
  (40, (.aload_n 0, 41, 0, 0, 0, 0)),
  (41, (.getfield 35, 44, 3, 10, 103, 0)),
  (44, (.iload_n 1, 45, 0, 0, 0, 0)),
  (45, (.invokevirtual 309, 48, 167, 1, 213, 0)),
  (48, (.if_icmp .ne 5, 51, 53, 0, 0, 0)),
  (51, (.iload_n 3, 52, 0, 0, 0, 0)),
  (52, (.istore_n 2, 53, 0, 0, 0, 0)),
  (53, (.iinc 3 1, 56, 0, 0, 0, 0)),
  (56, (.goto (-40), 59, 16, 0, 0, 0)),
  (59, (.iload_n 2, 60, 0, 0, 0, 0)),
  (60, (.ireturn, 61, 0, 0, 0, 0))]
def am_r167 : List (Nat × am_R) := [(0, (.iconst 0, 1, 0, 0, 0, 0)),
  (1, (.istore_n 2, 2, 0, 0, 0, 0)),
  (2, (.iconst 0, 3, 0, 0, 0, 0)),
  (3, (.istore_n 3, 4, 0, 0, 0, 0)),
  (4, (.iload_n 3, 5, 0, 0, 0, 0)),
  (5, (.aload_n 0, 6, 0, 0, 0, 0)),
  (6, (.getfield 45, 9, 4, 0, 38, 0)),
  (9, (.if_icmp .ge 26, 12, 35, 0, 0, 0)),
  (12, (.iload_n 1, 13, 0, 0, 0, 0)),
  (13, (.iload_n 3, 14, 0, 0, 0, 0)),
  (14, (.invokestatic 61, 17, 65, 2, 2, 1)),
  (17, (.ifCond .eq 12, 20, 29, 0, 0, 0)),
  (20, (.iload_n 2, 21, 0, 0, 0, 0)),
  (21, (.aload_n 0, 22, 0, 0, 0, 0)),
  (22, (.getfield 31, 25, 8, 0, 49, 0)),
  (25, (.iload_n 3, 26, 0, 0, 0, 0)),
  (26, (.iaload, 27, 0, 0, 0, 0)),
  (27, (.ior, 28, 0, 0, 0, 0)),
  (28, (.istore_n 2, 29, 0, 0, 0, 0)),
  (29, (.iinc 3 1, 32, 0, 0, 0, 0)),
  (32, (.goto (-28), 35, 4, 0, 0, 0)),
  (35, (.iload_n 2, 36, 0, 0, 0, 0)),
  (36, (.ireturn, 37, 0, 0, 0, 0))]
def am_r168 : List (Nat × am_R) := [(0, (.iload_n 1, 1, 0, 0, 0, 0)),
  (1, (.iconst 0, 2, 0, 0, 0, 0)),
  (2, (.bipush 9, 4, 0, 0, 0, 0)),
  (4, (.invokestatic 183, 7, 60, 3, 145, 0)),
  (7, (.ifCond .eq 23, 10, 30, 0, 0, 0)),
  (10, (.iload_n 2, 11, 0, 0, 0, 0)),
  (11, (.iconst 0, 12, 0, 0, 0, 0)),
  (12, (.bipush 9, 14, 0, 0, 0, 0)),
  (14, (.invokestatic 183, 17, 60, 3, 145, 0)),
  (17, (.ifCond .eq 13, 20, 30, 0, 0, 0)),
  (20, (.iload_n 3, 21, 0, 0, 0, 0)),
  (21, (.iconst 0, 22, 0, 0, 0, 0)),
  (22, (.bipush 9, 24, 0, 0, 0, 0)),
  (24, (.invokestatic 183, 27, 60, 3, 145, 0)),
  (27, (.ifCond .ne 14, 30, 41, 0, 0, 0)),
  (33, (.dup, 34, 0, 0, 0, 0)),
  (41, (.iconst 0, 42, 0, 0, 0, 0)),
  (42, (.istore 5, 44, 0, 0, 0, 0)),
  (44, (.iconst 0, 45, 0, 0, 0, 0)),
  (45, (.istore 6, 47, 0, 0, 0, 0)),
  (47, (.iload 6, 49, 0, 0, 0, 0)),
  (49, (.iconst 1, 50, 0, 0, 0, 0)),
  (50, (.if_icmp .gt 85, 53, 135, 0, 0, 0)),
  (53, (.iconst 0, 54, 0, 0, 0, 0)),
  (54, (.istore 7, 56, 0, 0, 0, 0)),
  (56, (.iload 7, 58, 0, 0, 0, 0)),
  (58, (.iconst 1, 59, 0, 0, 0, 0)),
  (59, (.if_icmp .gt 70, 62, 129, 0, 0, 0)),
  (62, (.iload 6, 64, 0, 0, 0, 0)),
  (64, (.iload 7, 66, 0, 0, 0, 0)),
  (66, (.iload_n 1, 67, 0, 0, 0, 0)),
  (67, (.iload_n 2, 68, 0, 0, 0, 0)),
  (68, (.iload_n 3, 69, 0, 0, 0, 0)),
  (69, (.invokestatic 319, 72, 174, 5, 223, 0)),
  (72, (.ifCond .eq 20, 75, 92, 0, 0, 0)),
  (75, (.iload 7, 77, 0, 0, 0, 0)),
  (77, (.iload 6, 79, 0, 0, 0, 0)),
  (79, (.iload_n 1, 80, 0, 0, 0, 0)),
  (80, (.iload_n 2, 81, 0, 0, 0, 0)),
  (81, (.iload_n 3, 82, 0, 0, 0, 0)),
  (82, (.invokestatic 319, 85, 174, 5, 223, 0)),
  (85, (.ifCond .eq 7, 88, 92, 0, 0, 0)),
  (88, (.iconst 1, 89, 0, 0, 0, 0)),
  (89, (.goto 4, 92, 93, 0, 0, 0)),
  (92, (.iconst 0, 93, 0, 0, 0, 0)),
  (93, (.istore 8, 95, 0, 0, 0, 0)),
  (95, (.iload 8, 97, 0, 0, 0, 0)),
  (97, (.ifCond .eq 18, 100, 115, 0, 0, 0)),
  (100, (.iload 5, 102, 0, 0, 0, 0)),
  (102, (.iload 4, 104, 0, 0, 0, 0)),
  (104, (.if_icmp .ne 11, 107, 115, 0, 0, 0)),
  (107, (.iconst 2, 108, 0, 0, 0, 0)),
  (108, (.iload 6, 110, 0, 0, 0, 0)),
  (110, (.imul, 111, 0, 0, 0, 0)),
  (111, (.iload 7, 113, 0, 0, 0, 0)),
  (113, (.iadd, 114, 0, 0, 0, 0)),
  (114, (.ireturn, 115, 0, 0, 0, 0)),
  (115, (.iload 8, 117, 0, 0, 0, 0)),
  (117, (.ifCond .eq 6, 120, 123, 0, 0, 0)),
  (120, (.iinc 5 1, 123, 0, 0, 0, 0)),
  (123, (.iinc 7 1, 126, 0, 0, 0, 0)),
  (126, (.goto (-70), 129, 56, 0, 0, 0)),
  (129, (.iinc 6 1, 132, 0, 0, 0, 0)),
  (132, (.goto (-85), 135, 47, 0, 0, 0)),
  (135, (.iload 4, 137, 0, 0, 0, 0)),
  (137, (.iconst (-1), 138, 0, 0, 0, 0)),
  (138, (.if_icmp .ne 6, 141, 144, 0, 0, 0)),
  (141, (.iload 5, 143, 0, 0, 0, 0)),
  (143, (.ireturn, 144, 0, 0, 0, 0)),
  (147, (.dup, 148, 0, 0, 0, 0))]
def am_r174 : List (Nat × am_R) := [(0, (.iload_n 0, 1, 0, 0, 0, 0)),
  (1, (.iload_n 1, 2, 0, 0, 0, 0)),
  (2, (.iload_n 2, 3, 0, 0, 0, 0)),
  (3, (.iload_n 3, 4, 0, 0, 0, 0)),
  (4, (.iload 4, 6, 0, 0, 0, 0)),
  (6, (.invokestatic 325, 9, 175, 5, 224, 0)),
  (9, (.iconst 1, 10, 0, 0, 0, 0)),
  (10, (.iload_n 0, 11, 0, 0, 0, 0)),
  (11, (.isub, 12, 0, 0, 0, 0)),
  (12, (.iload_n 1, 13, 0, 0, 0, 0)),
  (13, (.iload_n 2, 14, 0, 0, 0, 0)),
  (14, (.iload_n 3, 15, 0, 0, 0, 0)),
  (15, (.iload 4, 17, 0, 0, 0, 0)),
  (17, (.invokestatic 325, 20, 175, 5, 224, 0)),
  (20, (.if_icmp .lt 7, 23, 27, 0, 0, 0)),
  (23, (.iconst 1, 24, 0, 0, 0, 0)),
  (24, (.goto 4, 27, 28, 0, 0, 0)),
  (27, (.iconst 0, 28, 0, 0, 0, 0)),
  (28, (.ireturn, 29, 0, 0, 0, 0))]
def am_r175 : List (Nat × am_R) := [(0, (.iload_n 0, 1, 0, 0, 0, 0)),
  (1, (.iconst 1, 2, 0, 0, 0, 0)),
  (2, (.if_icmp .ne 15, 5, 17, 0, 0, 0)),
  (5, (.iload_n 1, 6, 0, 0, 0, 0)),
  (6, (.iconst 1, 7, 0, 0, 0, 0)),
  (7, (.if_icmp .ne 8, 10, 15, 0, 0, 0)),
  (10, (.iload_n 2, 11, 0, 0, 0, 0)),
  (11, (.ineg, 12, 0, 0, 0, 0)),
  (12, (.goto 4, 15, 16, 0, 0, 0)),
  (15, (.iload_n 3, 16, 0, 0, 0, 0)),
  (16, (.ireturn, 17, 0, 0, 0, 0)),
  (17, (.iload_n 1, 18, 0, 0, 0, 0)),
  (18, (.iconst 1, 19, 0, 0, 0, 0)),
  (19, (.if_icmp .ne 8, 22, 27, 0, 0, 0)),
  (22, (.iload 4, 24, 0, 0, 0, 0)),
  (24, (.goto 4, 27, 28, 0, 0, 0)),
  (27, (.iconst 0, 28, 0, 0, 0, 0)),
  (28, (.ireturn, 29, 0, 0, 0, 0))]
def am_r176 : List (Nat × am_R) := [(0, (.aload_n 0, 1, 0, 0, 0, 0)),
  (1, (.getfield 1, 4, 0, 11, 127, 0)),
  (4, (.ireturn, 5, 0, 0, 0, 0))]
def am_r177 : List (Nat × am_R) := [(0, (.aload_n 0, 1, 0, 0, 0, 0)),
  (1, (.iconst 0, 2, 0, 0, 0, 0)),
  (2, (.putfield 1, 5, 0, 11, 127, 0)),
  (5, (.aload_n 0, 6, 0, 0, 0, 0)),
  (6, (.lload_n 1, 7, 0, 0, 0, 0)),
  (7, (.invokevirtual 7, 10, 178, 1, 227, 11)),
  (10, (.aload_n 0, 11, 0, 0, 0, 0)),
  (11, (.lload_n 3, 12, 0, 0, 0, 0)),
  (12, (.invokevirtual 7, 15, 178, 1, 227, 11)),
  (15, (.aload_n 0, 16, 0, 0, 0, 0)),
  (16, (.lload 5, 18, 0, 0, 0, 0)),
  (18, (.invokevirtual 7, 21, 178, 1, 227, 11)),
  (21, (.aload_n 0, 22, 0, 0, 0, 0)),
  (22, (.getfield 11, 25, 2, 11, 129, 0)),
  (25, (.ireturn, 26, 0, 0, 0, 0))]
def am_r178 : List (Nat × am_R) := [(0, (.bipush 56, 2, 0, 0, 0, 0)),
  (2, (.istore_n 3, 3, 0, 0, 0, 0)),
  (3, (.iload_n 3, 4, 0, 0, 0, 0)),
  (4, (.ifCond .lt 71, 7, 75, 0, 0, 0)),
  (7, (.lload_n 1, 8, 0, 0, 0, 0)),
  (8, (.iload_n 3, 9, 0, 0, 0, 0)),
  (9, (.lshr, 10, 0, 0, 0, 0)),
  (10, (.l2i, 11, 0, 0, 0, 0)),
  (11, (.sipush 255, 14, 0, 0, 0, 0)),
  (14, (.iand, 15, 0, 0, 0, 0)),
  (15, (.istore 4, 17, 0, 0, 0, 0)),
  (17, (.iload 4, 19, 0, 0, 0, 0)),
  (19, (.bipush 10, 21, 0, 0, 0, 0)),
  (21, (.if_icmp .eq 17, 24, 38, 0, 0, 0)),
  (24, (.iload 4, 26, 0, 0, 0, 0)),
  (26, (.bipush 32, 28, 0, 0, 0, 0)),
  (28, (.if_icmp .lt 41, 31, 69, 0, 0, 0)),
  (31, (.iload 4, 33, 0, 0, 0, 0)),
  (33, (.bipush 126, 35, 0, 0, 0, 0)),
  (35, (.if_icmp .gt 34, 38, 69, 0, 0, 0)),
  (38, (.aload_n 0, 39, 0, 0, 0, 0)),
  (39, (.getfield 11, 42, 2, 11, 129, 0)),
  (42, (.sipush 1000, 45, 0, 0, 0, 0)),
  (45, (.if_icmp .ge 24, 48, 69, 0, 0, 0)),
  (48, (.aload_n 0, 49, 0, 0, 0, 0)),
  (49, (.getfield 14, 52, 1, 11, 128, 0)),
  (52, (.aload_n 0, 53, 0, 0, 0, 0)),
  (53, (.getfield 11, 56, 2, 11, 129, 0)),
  (56, (.iload 4, 58, 0, 0, 0, 0)),
  (58, (.iastore, 59, 0, 0, 0, 0)),
  (59, (.aload_n 0, 60, 0, 0, 0, 0)),
  (60, (.dup, 61, 0, 0, 0, 0)),
  (61, (.getfield 11, 64, 2, 11, 129, 0)),
  (64, (.iconst 1, 65, 0, 0, 0, 0)),
  (65, (.iadd, 66, 0, 0, 0, 0)),
  (66, (.putfield 11, 69, 2, 11, 129, 0)),
  (69, (.iinc 3 (-8), 72, 0, 0, 0, 0)),
  (72, (.goto (-69), 75, 3, 0, 0, 0)),
  (75, (.return_, 76, 0, 0, 0, 0))]
def am_r179 : List (Nat × am_R) := [(0, (.aload_n 0, 1, 0, 0, 0, 0)),
  (1, (.invokespecial 18, 4, 1, 0, 229, 0)),
  (4, (.aload_n 0, 5, 0, 0, 0, 0)),
  (5, (.sipush 1000, 8, 0, 0, 0, 0)),
  (8, (.newarray .int, 10, 0, 13, 0, 0)),
  (10, (.putfield 14, 13, 1, 11, 128, 0)),
  (13, (.aload_n 0, 14, 0, 0, 0, 0)),
  (14, (.sipush 1002, 17, 0, 0, 0, 0)),
  (17, (.newarray .int, 19, 0, 13, 0, 0)),
  (19, (.putfield 24, 22, 4, 11, 131, 0)),
  (22, (.aload_n 0, 23, 0, 0, 0, 0)),
  (23, (.sipush 1002, 26, 0, 0, 0, 0)),
  (26, (.newarray .int, 28, 0, 13, 0, 0)),
  (28, (.putfield 27, 31, 5, 11, 132, 0)),
  (31, (.aload_n 0, 32, 0, 0, 0, 0)),
  (32, (.sipush 1002, 35, 0, 0, 0, 0)),
  (35, (.newarray .long, 37, 0, 14, 0, 0)),
  (37, (.putfield 30, 40, 6, 11, 133, 0)),
  (40, (.aload_n 0, 41, 0, 0, 0, 0)),
  (41, (.bipush 21, 43, 0, 0, 0, 0)),
  (43, (.newarray .long, 45, 0, 14, 0, 0)),
  (45, (.dup, 46, 0, 0, 0, 0)),
  (46, (.iconst 0, 47, 0, 0, 0, 0)),
  (47, (.ldc2_w 34, 50, 0, 0, 5, 0)),
  (50, (.lastore, 51, 0, 0, 0, 0)),
  (51, (.dup, 52, 0, 0, 0, 0)),
  (52, (.iconst 1, 53, 0, 0, 0, 0)),
  (53, (.ldc2_w 36, 56, 0, 0, 6, 0)),
  (56, (.lastore, 57, 0, 0, 0, 0)),
  (57, (.dup, 58, 0, 0, 0, 0)),
  (58, (.iconst 2, 59, 0, 0, 0, 0)),
  (59, (.ldc2_w 38, 62, 0, 0, 7, 0)),
  (62, (.lastore, 63, 0, 0, 0, 0)),
  (63, (.dup, 64, 0, 0, 0, 0)),
  (64, (.iconst 3, 65, 0, 0, 0, 0)),
  (65, (.ldc2_w 40, 68, 0, 0, 8, 0)),
  (68, (.lastore, 69, 0, 0, 0, 0)),
  (69, (.dup, 70, 0, 0, 0, 0)),
  (70, (.iconst 4, 71, 0, 0, 0, 0)),
  (71, (.ldc2_w 42, 74, 0, 0, 9, 0)),
  (74, (.lastore, 75, 0, 0, 0, 0)),
  (75, (.dup, 76, 0, 0, 0, 0)),
  (76, (.iconst 5, 77, 0, 0, 0, 0)),
  (77, (.ldc2_w 44, 80, 0, 0, 10, 0)),
  (80, (.lastore, 81, 0, 0, 0, 0)),
  (81, (.dup, 82, 0, 0, 0, 0)),
  (82, (.bipush 6, 84, 0, 0, 0, 0)),
  (84, (.ldc2_w 46, 87, 0, 0, 11, 0)),
  (87, (.lastore, 88, 0, 0, 0, 0)),
  (88, (.dup, 89, 0, 0, 0, 0)),
  (89, (.bipush 7, 91, 0, 0, 0, 0)),
  (91, (.ldc2_w 48, 94, 0, 0, 12, 0)),
  (94, (.lastore, 95, 0, 0, 0, 0)),
  (95, (.dup, 96, 0, 0, 0, 0)),
  (96, (.bipush 8, 98, 0, 0, 0, 0)),
  (98, (.ldc2_w 50, 101, 0, 0, 13, 0)),
  (101, (.lastore, 102, 0, 0, 0, 0)),
  (102, (.dup, 103, 0, 0, 0, 0)),
  (103, (.bipush 9, 105, 0, 0, 0, 0)),
  (105, (.ldc2_w 52, 108, 0, 0, 14, 0)),
  (108, (.lastore, 109, 0, 0, 0, 0)),
  (109, (.dup, 110, 0, 0, 0, 0)),
  (110, (.bipush 10, 112, 0, 0, 0, 0)),
  (112, (.ldc2_w 54, 115, 0, 0, 15, 0)),
  (115, (.lastore, 116, 0, 0, 0, 0)),
  (116, (.dup, 117, 0, 0, 0, 0)),
  (117, (.bipush 11, 119, 0, 0, 0, 0)),
  (119, (.ldc2_w 56, 122, 0, 0, 16, 0)),
  (122, (.lastore, 123, 0, 0, 0, 0)),
  (123, (.dup, 124, 0, 0, 0, 0)),
  (124, (.bipush 12, 126, 0, 0, 0, 0)),
  (126, (.ldc2_w 58, 129, 0, 0, 17, 0)),
  (129, (.lastore, 130, 0, 0, 0, 0)),
  (130, (.dup, 131, 0, 0, 0, 0)),
  (131, (.bipush 13, 133, 0, 0, 0, 0)),
  (133, (.ldc2_w 60, 136, 0, 0, 18, 0)),
  (136, (.lastore, 137, 0, 0, 0, 0)),
  (137, (.dup, 138, 0, 0, 0, 0)),
  (138, (.bipush 14, 140, 0, 0, 0, 0)),
  (140, (.ldc2_w 62, 143, 0, 0, 19, 0)),
  (143, (.lastore, 144, 0, 0, 0, 0)),
  (144, (.dup, 145, 0, 0, 0, 0)),
  (145, (.bipush 15, 147, 0, 0, 0, 0)),
  (147, (.ldc2_w 64, 150, 0, 0, 20, 0)),
  (150, (.lastore, 151, 0, 0, 0, 0)),
  (151, (.dup, 152, 0, 0, 0, 0)),
  (152, (.bipush 16, 154, 0, 0, 0, 0)),
  (154, (.ldc2_w 66, 157, 0, 0, 21, 0)),
  (157, (.lastore, 158, 0, 0, 0, 0)),
  (158, (.dup, 159, 0, 0, 0, 0)),
  (159, (.bipush 17, 161, 0, 0, 0, 0)),
  (161, (.ldc2_w 68, 164, 0, 0, 22, 0)),
  (164, (.lastore, 165, 0, 0, 0, 0)),
  (165, (.dup, 166, 0, 0, 0, 0)),
  (166, (.bipush 18, 168, 0, 0, 0, 0)),
  (168, (.ldc2_w 70, 171, 0, 0, 23, 0)),
  (171, (.lastore, 172, 0, 0, 0, 0)),
  (172, (.dup, 173, 0, 0, 0, 0)),
  (173, (.bipush 19, 175, 0, 0, 0, 0)),
  (175, (.ldc2_w 72, 178, 0, 0, 24, 0)),
  (178, (.lastore, 179, 0, 0, 0, 0)),
  (179, (.dup, 180, 0, 0, 0, 0)),
  (180, (.bipush 20, 182, 0, 0, 0, 0)),
  (182, (.ldc2_w 74, 185, 0, 0, 25, 0)),
  (185, (.lastore, 186, 0, 0, 0, 0)),
  (186, (.putfield 76, 189, 9, 11, 136, 0)),
  (189, (.aload_n 0, 190, 0, 0, 0, 0)),
  (190, (.bipush 80, 192, 0, 0, 0, 0)),
  (192, (.newarray .int, 194, 0, 13, 0, 0)),
  (194, (.putfield 79, 197, 10, 11, 137, 0)),
  (197, (.aload_n 0, 198, 0, 0, 0, 0)),
  (198, (.sipush 2200, 201, 0, 0, 0, 0)),
  (201, (.newarray .int, 203, 0, 13, 0, 0)),
  (203, (.putfield 82, 206, 11, 11, 138, 0)),
  (206, (.aload_n 0, 207, 0, 0, 0, 0)),
  (207, (.sipush 2200, 210, 0, 0, 0, 0)),
  (210, (.newarray .int, 212, 0, 13, 0, 0)),
  (212, (.putfield 85, 215, 12, 11, 139, 0)),
  (215, (.aload_n 0, 216, 0, 0, 0, 0)),
  (216, (.bipush 11, 218, 0, 0, 0, 0)),
  (218, (.newarray .long, 220, 0, 14, 0, 0)),
  (220, (.putfield 88, 223, 14, 11, 141, 0)),
  (223, (.aload_n 0, 224, 0, 0, 0, 0)),
  (224, (.bipush 11, 226, 0, 0, 0, 0)),
  (226, (.newarray .long, 228, 0, 14, 0, 0)),
  (228, (.putfield 91, 231, 15, 11, 142, 0)),
  (231, (.aload_n 0, 232, 0, 0, 0, 0)),
  (232, (.bipush 11, 234, 0, 0, 0, 0)),
  (234, (.newarray .int, 236, 0, 13, 0, 0)),
  (236, (.putfield 94, 239, 16, 11, 143, 0)),
  (239, (.aload_n 0, 240, 0, 0, 0, 0)),
  (240, (.bipush 11, 242, 0, 0, 0, 0)),
  (242, (.newarray .int, 244, 0, 13, 0, 0)),
  (244, (.putfield 97, 247, 17, 11, 144, 0)),
  (247, (.aload_n 0, 248, 0, 0, 0, 0)),
  (248, (.sipush 250, 251, 0, 0, 0, 0)),
  (251, (.newarray .int, 253, 0, 13, 0, 0)),
  (253, (.putfield 100, 256, 21, 11, 148, 0)),
  (256, (.aload_n 0, 257, 0, 0, 0, 0)),
  (257, (.iconst 4, 258, 0, 0, 0, 0)),
  (258, (.newarray .int, 260, 0, 13, 0, 0)),
  (260, (.putfield 103, 263, 22, 11, 149, 0)),
  (263, (.aload_n 0, 264, 0, 0, 0, 0)),
  (264, (.sipush 1100, 267, 0, 0, 0, 0)),
  (267, (.newarray .int, 269, 0, 13, 0, 0)),
  (269, (.putfield 106, 272, 23, 11, 150, 0)),
  (272, (.aload_n 0, 273, 0, 0, 0, 0)),
  (273, (.sipush 1127, 276, 0, 0, 0, 0)),
  (276, (.newarray .int, 278, 0, 13, 0, 0)),
  (278, (.putfield 109, 281, 24, 11, 151, 0)),
  (281, (.aload_n 0, 282, 0, 0, 0, 0)),
  (282, (.iconst 4, 283, 0, 0, 0, 0)),
  (283, (.newarray .boolean, 285, 0, 15, 0, 0)),
  (285, (.putfield 112, 288, 26, 11, 153, 0)),
  (288, (.aload_n 0, 289, 0, 0, 0, 0)),
  (289, (.iconst 5, 290, 0, 0, 0, 0)),
  (290, (.newarray .int, 292, 0, 13, 0, 0)),
  (292, (.putfield 116, 295, 27, 11, 154, 0)),
  (295, (.aload_n 0, 296, 0, 0, 0, 0)),
  (296, (.bipush 6, 298, 0, 0, 0, 0)),
  (298, (.newarray .int, 300, 0, 13, 0, 0)),
  (300, (.putfield 119, 303, 29, 11, 156, 0)),
  (303, (.aload_n 0, 304, 0, 0, 0, 0)),
  (304, (.iconst 0, 305, 0, 0, 0, 0)),
  (305, (.invokevirtual 122, 308, 180, 1, 230, 11)),
  (308, (.aload_n 0, 309, 0, 0, 0, 0)),
  (309, (.invokevirtual 126, 312, 181, 0, 231, 11)),
  (312, (.return_, 313, 0, 0, 0, 0))]
def am_r180 : List (Nat × am_R) := [(0, (.iconst 0, 1, 0, 0, 0, 0)),
  (1, (.istore_n 2, 2, 0, 0, 0, 0)),
  (2, (.iload_n 2, 3, 0, 0, 0, 0)),
  (3, (.bipush 40, 5, 0, 0, 0, 0)),
  (5, (.if_icmp .ge 18, 8, 23, 0, 0, 0)),
  (8, (.aload_n 0, 9, 0, 0, 0, 0)),
  (9, (.getfield 79, 12, 10, 11, 137, 0)),
  (12, (.iload_n 1, 13, 0, 0, 0, 0)),
  (13, (.iload_n 2, 14, 0, 0, 0, 0)),
  (14, (.iadd, 15, 0, 0, 0, 0)),
  (15, (.iconst 0, 16, 0, 0, 0, 0)),
  (16, (.iastore, 17, 0, 0, 0, 0)),
  (17, (.iinc 2 1, 20, 0, 0, 0, 0)),
  (20, (.goto (-18), 23, 2, 0, 0, 0)),
  (23, (.aload_n 0, 24, 0, 0, 0, 0)),
  (24, (.getfield 79, 27, 10, 11, 137, 0)),
  (27, (.iload_n 1, 28, 0, 0, 0, 0)),
  (28, (.iconst 3, 29, 0, 0, 0, 0)),
  (29, (.iadd, 30, 0, 0, 0, 0)),
  (30, (.iconst (-1), 31, 0, 0, 0, 0)),
  (31, (.iastore, 32, 0, 0, 0, 0)),
  (32, (.return_, 33, 0, 0, 0, 0))]
def am_r181 : List (Nat × am_R) := [(0, (.aload_n 0, 1, 0, 0, 0, 0)),
  (1, (.invokevirtual 272, 4, 182, 0, 232, 11)),
  (4, (.aload_n 0, 5, 0, 0, 0, 0)),
  (5, (.iconst 0, 6, 0, 0, 0, 0)),
  (6, (.invokevirtual 275, 9, 185, 1, 235, 11)),
  (9, (.aload_n 0, 10, 0, 0, 0, 0)),
  (10, (.getfield 109, 13, 24, 11, 151, 0)),
  (13, (.bipush 24, 15, 0, 0, 0, 0)),
  (15, (.iconst 0, 16, 0, 0, 0, 0)),
  (16, (.iastore, 17, 0, 0, 0, 0)),
  (17, (.aload_n 0, 18, 0, 0, 0, 0)),
  (18, (.getfield 100, 21, 21, 11, 148, 0)),
  (21, (.iconst 0, 22, 0, 0, 0, 0)),
  (22, (.iconst 0, 23, 0, 0, 0, 0)),
  (23, (.iastore, 24, 0, 0, 0, 0)),
  (24, (.aload_n 0, 25, 0, 0, 0, 0)),
  (25, (.iconst 0, 26, 0, 0, 0, 0)),
  (26, (.putfield 278, 29, 25, 11, 152, 0)),
  (29, (.iconst 0, 30, 0, 0, 0, 0)),
  (30, (.istore_n 1, 31, 0, 0, 0, 0)),
  (31, (.iload_n 1, 32, 0, 0, 0, 0)),
  (32, (.iconst 4, 33, 0, 0, 0, 0)),
  (33, (.if_icmp .ge 16, 36, 49, 0, 0, 0)),
  (36, (.aload_n 0, 37, 0, 0, 0, 0)),
  (37, (.getfield 112, 40, 26, 11, 153, 0)),
  (40, (.iload_n 1, 41, 0, 0, 0, 0)),
  (41, (.iconst 0, 42, 0, 0, 0, 0)),
  (42, (.bastore, 43, 0, 0, 0, 0)),
  (43, (.iinc 1 1, 46, 0, 0, 0, 0)),
  (46, (.goto (-15), 49, 31, 0, 0, 0)),
  (49, (.return_, 50, 0, 0, 0, 0))]
def am_r182 : List (Nat × am_R) := [(0, (.iconst 0, 1, 0, 0, 0, 0)),
  (1, (.istore_n 1, 2, 0, 0, 0, 0)),
  (2, (.iload_n 1, 3, 0, 0, 0, 0)),
  (3, (.aload_n 0, 4, 0, 0, 0, 0)),
  (4, (.invokevirtual 266, 7, 183, 0, 233, 11)),
  (7, (.if_icmp .ge 21, 10, 28, 0, 0, 0)),
  (10, (.aload_n 0, 11, 0, 0, 0, 0)),
  (11, (.getfield 116, 14, 27, 11, 154, 0)),
  (14, (.iload_n 1, 15, 0, 0, 0, 0)),
  (15, (.aload_n 0, 16, 0, 0, 0, 0)),
  (16, (.iload_n 1, 17, 0, 0, 0, 0)),
  (17, (.iconst 0, 18, 0, 0, 0, 0)),
  (18, (.invokevirtual 269, 21, 184, 2, 234, 11)),
  (21, (.iastore, 22, 0, 0, 0, 0)),
  (22, (.iinc 1 1, 25, 0, 0, 0, 0)),
  (25, (.goto (-23), 28, 2, 0, 0, 0)),
  (28, (.return_, 29, 0, 0, 0, 0))]
def am_r183 : List (Nat × am_R) := [(0, (.aload_n 0, 1, 0, 0, 0, 0)),
  (1, (.getfield 79, 4, 10, 11, 137, 0)),
  (4, (.iconst 1, 5, 0, 0, 0, 0)),
  (5, (.iaload, 6, 0, 0, 0, 0)),
  (6, (.ireturn, 7, 0, 0, 0, 0))]
def am_r184 : List (Nat × am_R) := [(0, (.aload_n 0, 1, 0, 0, 0, 0)),
  (1, (.getfield 79, 4, 10, 11, 137, 0)),
  (4, (.bipush 22, 6, 0, 0, 0, 0)),
  (6, (.iconst 2, 7, 0, 0, 0, 0)),
  (7, (.iload_n 1, 8, 0, 0, 0, 0)),
  (8, (.imul, 9, 0, 0, 0, 0)),
  (9, (.iadd, 10, 0, 0, 0, 0)),
  (10, (.iload_n 2, 11, 0, 0, 0, 0)),
  (11, (.iadd, 12, 0, 0, 0, 0)),
  (12, (.iaload, 13, 0, 0, 0, 0)),
  (13, (.ireturn, 14, 0, 0, 0, 0))]
def am_r185 : List (Nat × am_R) := [(0, (.iconst 0, 1, 0, 0, 0, 0)),
  (1, (.istore_n 2, 2, 0, 0, 0, 0)),
  (2, (.iload_n 2, 3, 0, 0, 0, 0)),
  (3, (.bipush 24, 5, 0, 0, 0, 0)),
  (5, (.if_icmp .ge 18, 8, 23, 0, 0, 0)),
  (8, (.aload_n 0, 9, 0, 0, 0, 0)),
  (9, (.getfield 109, 12, 24, 11, 151, 0)),
  (12, (.iload_n 1, 13, 0, 0, 0, 0)),
  (13, (.iload_n 2, 14, 0, 0, 0, 0)),
  (14, (.iadd, 15, 0, 0, 0, 0)),
  (15, (.iconst 0, 16, 0, 0, 0, 0)),
  (16, (.iastore, 17, 0, 0, 0, 0)),
  (17, (.iinc 2 1, 20, 0, 0, 0, 0)),
  (20, (.goto (-18), 23, 2, 0, 0, 0)),
  (23, (.iconst 0, 24, 0, 0, 0, 0)),
  (24, (.istore_n 2, 25, 0, 0, 0, 0)),
  (25, (.iload_n 2, 26, 0, 0, 0, 0)),
  (26, (.aload_n 0, 27, 0, 0, 0, 0)),
  (27, (.invokevirtual 259, 30, 186, 0, 236, 11)),
  (30, (.if_icmp .ge 25, 33, 55, 0, 0, 0)),
  (33, (.aload_n 0, 34, 0, 0, 0, 0)),
  (34, (.getfield 109, 37, 24, 11, 151, 0)),
  (37, (.iload_n 1, 38, 0, 0, 0, 0)),
  (38, (.iconst 2, 39, 0, 0, 0, 0)),
  (39, (.iadd, 40, 0, 0, 0, 0)),
  (40, (.iload_n 2, 41, 0, 0, 0, 0)),
  (41, (.iadd, 42, 0, 0, 0, 0)),
  (42, (.aload_n 0, 43, 0, 0, 0, 0)),
  (43, (.iload_n 2, 44, 0, 0, 0, 0)),
  (44, (.iconst 1, 45, 0, 0, 0, 0)),
  (45, (.invokevirtual 263, 48, 187, 2, 237, 11)),
  (48, (.iastore, 49, 0, 0, 0, 0)),
  (49, (.iinc 2 1, 52, 0, 0, 0, 0)),
  (52, (.goto (-27), 55, 25, 0, 0, 0)),
  (55, (.return_, 56, 0, 0, 0, 0))]
def am_r186 : List (Nat × am_R) := [(0, (.aload_n 0, 1, 0, 0, 0, 0)),
  (1, (.getfield 79, 4, 10, 11, 137, 0)),
  (4, (.iconst 0, 5, 0, 0, 0, 0)),
  (5, (.iaload, 6, 0, 0, 0, 0)),
  (6, (.ireturn, 7, 0, 0, 0, 0))]
def am_r187 : List (Nat × am_R) := [(0, (.aload_n 0, 1, 0, 0, 0, 0)),
  (1, (.getfield 79, 4, 10, 11, 137, 0)),
  (4, (.iconst 4, 5, 0, 0, 0, 0)),
  (5, (.iconst 3, 6, 0, 0, 0, 0)),
  (6, (.iload_n 1, 7, 0, 0, 0, 0)),
  (7, (.imul, 8, 0, 0, 0, 0)),
  (8, (.iadd, 9, 0, 0, 0, 0)),
  (9, (.iload_n 2, 10, 0, 0, 0, 0)),
  (10, (.iadd, 11, 0, 0, 0, 0)),
  (11, (.iaload, 12, 0, 0, 0, 0)),
  (12, (.ireturn, 13, 0, 0, 0, 0))]
def am_r188 : List (Nat × am_R) := [(0, (.aload_n 0, 1, 0, 0, 0, 0)),
  (1, (.iconst 0, 2, 0, 0, 0, 0)),
  (2, (.putfield 1, 5, 0, 11, 127, 0)),
  (5, (.aload_n 0, 6, 0, 0, 0, 0)),
  (6, (.invokevirtual 198, 9, 189, 0, 239, 11)),
  (9, (.aload_n 0, 10, 0, 0, 0, 0)),
  (10, (.iconst 0, 11, 0, 0, 0, 0)),
  (11, (.putfield 201, 14, 13, 11, 140, 0)),
  (14, (.aload_n 0, 15, 0, 0, 0, 0)),
  (15, (.iconst 0, 16, 0, 0, 0, 0)),
  (16, (.putfield 180, 19, 19, 11, 146, 0)),
  (19, (.aload_n 0, 20, 0, 0, 0, 0)),
  (20, (.iconst 0, 21, 0, 0, 0, 0)),
  (21, (.putfield 204, 24, 20, 11, 147, 0)),
  (24, (.aload_n 0, 25, 0, 0, 0, 0)),
  (25, (.bipush 40, 27, 0, 0, 0, 0)),
  (27, (.invokevirtual 122, 30, 180, 1, 230, 11)),
  (30, (.aload_n 0, 31, 0, 0, 0, 0)),
  (31, (.getfield 155, 34, 8, 11, 135, 0)),
  (34, (.ifCond .ne 28, 37, 62, 0, 0, 0)),
  (37, (.aload_n 0, 38, 0, 0, 0, 0)),
  (38, (.getfield 24, 41, 4, 11, 131, 0)),
  (41, (.aload_n 0, 42, 0, 0, 0, 0)),
  (42, (.getfield 152, 45, 7, 11, 134, 0)),
  (45, (.iaload, 46, 0, 0, 0, 0)),
  (46, (.ifCond .eq 16, 49, 62, 0, 0, 0)),
  (49, (.aload_n 0, 50, 0, 0, 0, 0)),
  (50, (.invokevirtual 207, 53, 194, 0, 244, 11)),
  (53, (.aload_n 0, 54, 0, 0, 0, 0)),
  (54, (.bipush 59, 56, 0, 0, 0, 0)),
  (56, (.invokevirtual 210, 59, 218, 1, 268, 11)),
  (59, (.goto (-29), 62, 30, 0, 0, 0)),
  (62, (.aload_n 0, 63, 0, 0, 0, 0)),
  (63, (.getfield 155, 66, 8, 11, 135, 0)),
  (66, (.ifCond .le 8, 69, 74, 0, 0, 0)),
  (69, (.aload_n 0, 70, 0, 0, 0, 0)),
  (70, (.getfield 155, 73, 8, 11, 135, 0)),
  (73, (.ireturn, 74, 0, 0, 0, 0)),
  (74, (.iconst 0, 75, 0, 0, 0, 0)),
  (75, (.istore_n 1, 76, 0, 0, 0, 0)),
  (76, (.iload_n 1, 77, 0, 0, 0, 0)),
  (77, (.bipush 40, 79, 0, 0, 0, 0)),
  (79, (.if_icmp .ge 24, 82, 103, 0, 0, 0)),
  (82, (.aload_n 0, 83, 0, 0, 0, 0)),
  (83, (.getfield 79, 86, 10, 11, 137, 0)),
  (86, (.iload_n 1, 87, 0, 0, 0, 0)),
  (87, (.aload_n 0, 88, 0, 0, 0, 0)),
  (88, (.getfield 79, 91, 10, 11, 137, 0)),
  (91, (.bipush 40, 93, 0, 0, 0, 0)),
  (93, (.iload_n 1, 94, 0, 0, 0, 0)),
  (94, (.iadd, 95, 0, 0, 0, 0)),
  (95, (.iaload, 96, 0, 0, 0, 0)),
  (96, (.iastore, 97, 0, 0, 0, 0)),
  (97, (.iinc 1 1, 100, 0, 0, 0, 0)),
  (100, (.goto (-24), 103, 76, 0, 0, 0)),
  (103, (.iconst 0, 104, 0, 0, 0, 0)),
  (104, (.istore_n 1, 105, 0, 0, 0, 0)),
  (105, (.iload_n 1, 106, 0, 0, 0, 0)),
  (106, (.aload_n 0, 107, 0, 0, 0, 0)),
  (107, (.getfield 201, 110, 13, 11, 140, 0)),
  (110, (.if_icmp .ge 41, 113, 151, 0, 0, 0)),
  (113, (.aload_n 0, 114, 0, 0, 0, 0)),
  (114, (.getfield 82, 117, 11, 11, 138, 0)),
  (117, (.iload_n 1, 118, 0, 0, 0, 0)),
  (118, (.aload_n 0, 119, 0, 0, 0, 0)),
  (119, (.getfield 82, 122, 11, 11, 138, 0)),
  (122, (.sipush 1100, 125, 0, 0, 0, 0)),
  (125, (.iload_n 1, 126, 0, 0, 0, 0)),
  (126, (.iadd, 127, 0, 0, 0, 0)),
  (127, (.iaload, 128, 0, 0, 0, 0)),
  (128, (.iastore, 129, 0, 0, 0, 0)),
  (129, (.aload_n 0, 130, 0, 0, 0, 0)),
  (130, (.getfield 85, 133, 12, 11, 139, 0)),
  (133, (.iload_n 1, 134, 0, 0, 0, 0)),
  (134, (.aload_n 0, 135, 0, 0, 0, 0)),
  (135, (.getfield 85, 138, 12, 11, 139, 0)),
  (138, (.sipush 1100, 141, 0, 0, 0, 0)),
  (141, (.iload_n 1, 142, 0, 0, 0, 0)),
  (142, (.iadd, 143, 0, 0, 0, 0)),
  (143, (.iaload, 144, 0, 0, 0, 0)),
  (144, (.iastore, 145, 0, 0, 0, 0)),
  (145, (.iinc 1 1, 148, 0, 0, 0, 0)),
  (148, (.goto (-43), 151, 105, 0, 0, 0)),
  (151, (.iconst 0, 152, 0, 0, 0, 0)),
  (152, (.istore_n 1, 153, 0, 0, 0, 0)),
  (153, (.iload_n 1, 154, 0, 0, 0, 0)),
  (154, (.aload_n 0, 155, 0, 0, 0, 0)),
  (155, (.getfield 180, 158, 19, 11, 146, 0)),
  (158, (.if_icmp .ge 33, 161, 191, 0, 0, 0)),
  (161, (.aload_n 0, 162, 0, 0, 0, 0)),
  (162, (.getfield 88, 165, 14, 11, 141, 0)),
  (165, (.iload_n 1, 166, 0, 0, 0, 0)),
  (166, (.aload_n 0, 167, 0, 0, 0, 0)),
  (167, (.getfield 91, 170, 15, 11, 142, 0)),
  (170, (.iload_n 1, 171, 0, 0, 0, 0)),
  (171, (.laload, 172, 0, 0, 0, 0)),
  (172, (.lastore, 173, 0, 0, 0, 0)),
  (173, (.aload_n 0, 174, 0, 0, 0, 0)),
  (174, (.getfield 94, 177, 16, 11, 143, 0)),
  (177, (.iload_n 1, 178, 0, 0, 0, 0)),
  (178, (.aload_n 0, 179, 0, 0, 0, 0)),
  (179, (.getfield 97, 182, 17, 11, 144, 0)),
  (182, (.iload_n 1, 183, 0, 0, 0, 0)),
  (183, (.iaload, 184, 0, 0, 0, 0)),
  (184, (.iastore, 185, 0, 0, 0, 0)),
  (185, (.iinc 1 1, 188, 0, 0, 0, 0)),
  (188, (.goto (-35), 191, 153, 0, 0, 0)),
  (191, (.aload_n 0, 192, 0, 0, 0, 0)),
  (192, (.aload_n 0, 193, 0, 0, 0, 0)),
  (193, (.getfield 180, 196, 19, 11, 146, 0)),
  (196, (.putfield 183, 199, 18, 11, 145, 0)),
  (199, (.aload_n 0, 200, 0, 0, 0, 0)),
  (200, (.invokevirtual 126, 203, 181, 0, 231, 11)),
  (203, (.iconst 0, 204, 0, 0, 0, 0)),
  (204, (.ireturn, 205, 0, 0, 0, 0))]
def am_r189 : List (Nat × am_R) := [(0, (.aload_n 0, 1, 0, 0, 0, 0)),
  (1, (.aload_n 0, 2, 0, 0, 0, 0)),
  (2, (.getfield 11, 5, 2, 11, 129, 0)),
  (5, (.putfield 133, 8, 3, 11, 130, 0)),
  (8, (.aload_n 0, 9, 0, 0, 0, 0)),
  (9, (.iconst 0, 10, 0, 0, 0, 0)),
  (10, (.putfield 11, 13, 2, 11, 129, 0)),
  (13, (.iconst 0, 14, 0, 0, 0, 0)),
  (14, (.istore_n 1, 15, 0, 0, 0, 0)),
  (15, (.iconst 0, 16, 0, 0, 0, 0)),
  (16, (.istore_n 2, 17, 0, 0, 0, 0)),
  (17, (.iload_n 2, 18, 0, 0, 0, 0)),
  (18, (.aload_n 0, 19, 0, 0, 0, 0)),
  (19, (.getfield 133, 22, 3, 11, 130, 0)),
  (22, (.if_icmp .ge 257, 25, 279, 0, 0, 0)),
  (25, (.aload_n 0, 26, 0, 0, 0, 0)),
  (26, (.getfield 14, 29, 1, 11, 128, 0)),
  (29, (.iload_n 2, 30, 0, 0, 0, 0)),
  (30, (.iaload, 31, 0, 0, 0, 0)),
  (31, (.istore_n 3, 32, 0, 0, 0, 0)),
  (32, (.iload_n 3, 33, 0, 0, 0, 0)),
  (33, (.bipush 10, 35, 0, 0, 0, 0)),
  (35, (.if_icmp .eq 9, 38, 44, 0, 0, 0)),
  (38, (.iload_n 3, 39, 0, 0, 0, 0)),
  (39, (.bipush 32, 41, 0, 0, 0, 0)),
  (41, (.if_icmp .ne 9, 44, 50, 0, 0, 0)),
  (44, (.iinc 2 1, 47, 0, 0, 0, 0)),
  (47, (.goto (-30), 50, 17, 0, 0, 0)),
  (50, (.iload_n 2, 51, 0, 0, 0, 0)),
  (51, (.istore 4, 53, 0, 0, 0, 0)),
  (53, (.lconst 0, 54, 0, 0, 0, 0)),
  (54, (.lstore 5, 56, 0, 0, 0, 0)),
  (56, (.aload_n 0, 57, 0, 0, 0, 0)),
  (57, (.getfield 27, 60, 5, 11, 132, 0)),
  (60, (.iload_n 1, 61, 0, 0, 0, 0)),
  (61, (.iload_n 2, 62, 0, 0, 0, 0)),
  (62, (.iastore, 63, 0, 0, 0, 0)),
  (63, (.iload_n 3, 64, 0, 0, 0, 0)),
  (64, (.invokestatic 129, 67, 190, 1, 240, 0)),
  (67, (.ifCond .eq 85, 70, 152, 0, 0, 0)),
  (70, (.iload_n 2, 71, 0, 0, 0, 0)),
  (71, (.aload_n 0, 72, 0, 0, 0, 0)),
  (72, (.getfield 133, 75, 3, 11, 130, 0)),
  (75, (.if_icmp .ge 54, 78, 129, 0, 0, 0)),
  (78, (.aload_n 0, 79, 0, 0, 0, 0)),
  (79, (.getfield 14, 82, 1, 11, 128, 0)),
  (82, (.iload_n 2, 83, 0, 0, 0, 0)),
  (83, (.iaload, 84, 0, 0, 0, 0)),
  (84, (.invokestatic 129, 87, 190, 1, 240, 0)),
  (87, (.ifCond .eq 42, 90, 129, 0, 0, 0)),
  (90, (.iload_n 2, 91, 0, 0, 0, 0)),
  (91, (.iload 4, 93, 0, 0, 0, 0)),
  (93, (.isub, 94, 0, 0, 0, 0)),
  (94, (.bipush 8, 96, 0, 0, 0, 0)),
  (96, (.if_icmp .ge 23, 99, 119, 0, 0, 0)),
  (99, (.ldc2_w 136, 102, 0, 0, 26, 0)),
  (102, (.lload 5, 104, 0, 0, 0, 0)),
  (104, (.lmul, 105, 0, 0, 0, 0)),
  (105, (.aload_n 0, 106, 0, 0, 0, 0)),
  (106, (.getfield 14, 109, 1, 11, 128, 0)),
  (109, (.iload_n 2, 110, 0, 0, 0, 0)),
  (110, (.iaload, 111, 0, 0, 0, 0)),
  (111, (.invokestatic 138, 114, 191, 1, 241, 0)),
  (114, (.i2l, 115, 0, 0, 0, 0)),
  (115, (.ladd, 116, 0, 0, 0, 0)),
  (116, (.goto 5, 119, 121, 0, 0, 0)),
  (119, (.lload 5, 121, 0, 0, 0, 0)),
  (121, (.lstore 5, 123, 0, 0, 0, 0)),
  (123, (.iinc 2 1, 126, 0, 0, 0, 0)),
  (126, (.goto (-56), 129, 70, 0, 0, 0)),
  (129, (.aload_n 0, 130, 0, 0, 0, 0)),
  (130, (.getfield 24, 133, 4, 11, 131, 0)),
  (133, (.iload_n 1, 134, 0, 0, 0, 0)),
  (134, (.iload_n 2, 135, 0, 0, 0, 0)),
  (135, (.iload 4, 137, 0, 0, 0, 0)),
  (137, (.isub, 138, 0, 0, 0, 0)),
  (138, (.bipush 8, 140, 0, 0, 0, 0)),
  (140, (.if_icmp .le 7, 143, 147, 0, 0, 0)),
  (143, (.iconst 4, 144, 0, 0, 0, 0)),
  (144, (.goto 4, 147, 148, 0, 0, 0)),
  (147, (.iconst 1, 148, 0, 0, 0, 0)),
  (148, (.iastore, 149, 0, 0, 0, 0)),
  (149, (.goto 116, 152, 265, 0, 0, 0)),
  (152, (.iload_n 3, 153, 0, 0, 0, 0)),
  (153, (.invokestatic 142, 156, 192, 1, 242, 0)),
  (156, (.ifCond .eq 84, 159, 240, 0, 0, 0)),
  (159, (.iload_n 2, 160, 0, 0, 0, 0)),
  (160, (.aload_n 0, 161, 0, 0, 0, 0)),
  (161, (.getfield 133, 164, 3, 11, 130, 0)),
  (164, (.if_icmp .ge 54, 167, 218, 0, 0, 0)),
  (167, (.aload_n 0, 168, 0, 0, 0, 0)),
  (168, (.getfield 14, 171, 1, 11, 128, 0)),
  (171, (.iload_n 2, 172, 0, 0, 0, 0)),
  (172, (.iaload, 173, 0, 0, 0, 0)),
  (173, (.invokestatic 142, 176, 192, 1, 242, 0)),
  (176, (.ifCond .eq 42, 179, 218, 0, 0, 0)),
  (179, (.iload_n 2, 180, 0, 0, 0, 0)),
  (180, (.iload 4, 182, 0, 0, 0, 0)),
  (182, (.isub, 183, 0, 0, 0, 0)),
  (183, (.iconst 4, 184, 0, 0, 0, 0)),
  (184, (.if_icmp .ge 24, 187, 208, 0, 0, 0)),
  (187, (.ldc2_w 145, 190, 0, 0, 27, 0)),
  (190, (.lload 5, 192, 0, 0, 0, 0)),
  (192, (.lmul, 193, 0, 0, 0, 0)),
  (193, (.aload_n 0, 194, 0, 0, 0, 0)),
  (194, (.getfield 14, 197, 1, 11, 128, 0)),
  (197, (.iload_n 2, 198, 0, 0, 0, 0)),
  (198, (.iaload, 199, 0, 0, 0, 0)),
  (199, (.i2l, 200, 0, 0, 0, 0)),
  (200, (.ladd, 201, 0, 0, 0, 0)),
  (201, (.ldc2_w 147, 204, 0, 0, 28, 0)),
  (204, (.lsub, 205, 0, 0, 0, 0)),
  (205, (.goto 5, 208, 210, 0, 0, 0)),
  (208, (.lload 5, 210, 0, 0, 0, 0)),
  (210, (.lstore 5, 212, 0, 0, 0, 0)),
  (212, (.iinc 2 1, 215, 0, 0, 0, 0)),
  (215, (.goto (-56), 218, 159, 0, 0, 0)),
  (218, (.aload_n 0, 219, 0, 0, 0, 0)),
  (219, (.getfield 24, 222, 4, 11, 131, 0)),
  (222, (.iload_n 1, 223, 0, 0, 0, 0)),
  (223, (.iload_n 2, 224, 0, 0, 0, 0)),
  (224, (.iload 4, 226, 0, 0, 0, 0)),
  (226, (.isub, 227, 0, 0, 0, 0)),
  (227, (.iconst 4, 228, 0, 0, 0, 0)),
  (228, (.if_icmp .le 7, 231, 235, 0, 0, 0)),
  (231, (.iconst 4, 232, 0, 0, 0, 0)),
  (232, (.goto 4, 235, 236, 0, 0, 0)),
  (235, (.iconst 2, 236, 0, 0, 0, 0)),
  (236, (.iastore, 237, 0, 0, 0, 0)),
  (237, (.goto 28, 240, 265, 0, 0, 0)),
  (240, (.iload_n 3, 241, 0, 0, 0, 0)),
  (241, (.i2l, 242, 0, 0, 0, 0)),
  (242, (.lstore 5, 244, 0, 0, 0, 0)),
  (244, (.aload_n 0, 245, 0, 0, 0, 0)),
  (245, (.getfield 24, 248, 4, 11, 131, 0)),
  (248, (.iload_n 1, 249, 0, 0, 0, 0)),
  (249, (.iload_n 3, 250, 0, 0, 0, 0)),
  (250, (.invokestatic 149, 253, 193, 1, 243, 0)),
  (253, (.ifCond .eq 7, 256, 260, 0, 0, 0)),
  (256, (.iconst 3, 257, 0, 0, 0, 0)),
  (257, (.goto 4, 260, 261, 0, 0, 0)),
  (260, (.iconst 4, 261, 0, 0, 0, 0)),
  (261, (.iastore, 262, 0, 0, 0, 0)),
  (262, (.iinc 2 1, 265, 0, 0, 0, 0)),
  (265, (.aload_n 0, 266, 0, 0, 0, 0)),
  (266, (.getfield 30, 269, 6, 11, 133, 0)),
  (269, (.iload_n 1, 270, 0, 0, 0, 0)),
  (270, (.lload 5, 272, 0, 0, 0, 0)),
  (272, (.lastore, 273, 0, 0, 0, 0)),
  (273, (.iinc 1 1, 276, 0, 0, 0, 0)),
  (276, (.goto (-259), 279, 17, 0, 0, 0)),
  (279, (.aload_n 0, 280, 0, 0, 0, 0)),
  (280, (.getfield 24, 283, 4, 11, 131, 0)),
  (283, (.iload_n 1, 284, 0, 0, 0, 0)),
  (284, (.iconst 0, 285, 0, 0, 0, 0)),
  (285, (.iastore, 286, 0, 0, 0, 0)),
  (286, (.aload_n 0, 287, 0, 0, 0, 0)),
  (287, (.getfield 27, 290, 5, 11, 132, 0)),
  (290, (.iload_n 1, 291, 0, 0, 0, 0)),
  (291, (.aload_n 0, 292, 0, 0, 0, 0)),
  (292, (.getfield 133, 295, 3, 11, 130, 0)),
  (295, (.iastore, 296, 0, 0, 0, 0)),
  (296, (.aload_n 0, 297, 0, 0, 0, 0)),
  (297, (.iconst 0, 298, 0, 0, 0, 0)),
  (298, (.putfield 152, 301, 7, 11, 134, 0)),
  (301, (.aload_n 0, 302, 0, 0, 0, 0)),
  (302, (.iconst 0, 303, 0, 0, 0, 0)),
  (303, (.putfield 155, 306, 8, 11, 135, 0)),
  (306, (.return_, 307, 0, 0, 0, 0))]
def am_r190 : List (Nat × am_R) := [(0, (.iload_n 0, 1, 0, 0, 0, 0)),
  (1, (.bipush 97, 3, 0, 0, 0, 0)),
  (3, (.if_icmp .lt 13, 6, 16, 0, 0, 0)),
  (6, (.iload_n 0, 7, 0, 0, 0, 0)),
  (7, (.bipush 122, 9, 0, 0, 0, 0)),
  (9, (.if_icmp .gt 7, 12, 16, 0, 0, 0)),
  (12, (.iconst 1, 13, 0, 0, 0, 0)),
  (13, (.goto 4, 16, 17, 0, 0, 0)),
  (16, (.iconst 0, 17, 0, 0, 0, 0)),
  (17, (.ireturn, 18, 0, 0, 0, 0))]
def am_r191 : List (Nat × am_R) := [(0, (.iload_n 0, 1, 0, 0, 0, 0)),
  (1, (.invokestatic 129, 4, 190, 1, 240, 0)),
  (4, (.ifCond .eq 10, 7, 14, 0, 0, 0)),
  (7, (.iload_n 0, 8, 0, 0, 0, 0)),
  (8, (.bipush 96, 10, 0, 0, 0, 0)),
  (10, (.isub, 11, 0, 0, 0, 0)),
  (11, (.goto 7, 14, 18, 0, 0, 0)),
  (14, (.iload_n 0, 15, 0, 0, 0, 0)),
  (15, (.bipush 21, 17, 0, 0, 0, 0)),
  (17, (.isub, 18, 0, 0, 0, 0)),
  (18, (.ireturn, 19, 0, 0, 0, 0))]
def am_r192 : List (Nat × am_R) := [(0, (.iload_n 0, 1, 0, 0, 0, 0)),
  (1, (.bipush 48, 3, 0, 0, 0, 0)),
  (3, (.if_icmp .lt 13, 6, 16, 0, 0, 0)),
  (6, (.iload_n 0, 7, 0, 0, 0, 0)),
  (7, (.bipush 57, 9, 0, 0, 0, 0)),
  (9, (.if_icmp .gt 7, 12, 16, 0, 0, 0)),
  (12, (.iconst 1, 13, 0, 0, 0, 0)),
  (13, (.goto 4, 16, 17, 0, 0, 0)),
  (16, (.iconst 0, 17, 0, 0, 0, 0)),
  (17, (.ireturn, 18, 0, 0, 0, 0))]
def am_r193 : List (Nat × am_R) := [(0, (.iload_n 0, 1, 0, 0, 0, 0)),
  (1, (.bipush 40, 3, 0, 0, 0, 0)),
  (3, (.if_icmp .eq 45, 6, 48, 0, 0, 0)),
  (6, (.iload_n 0, 7, 0, 0, 0, 0)),
  (7, (.bipush 41, 9, 0, 0, 0, 0)),
  (9, (.if_icmp .eq 39, 12, 48, 0, 0, 0)),
  (12, (.iload_n 0, 13, 0, 0, 0, 0)),
  (13, (.bipush 59, 15, 0, 0, 0, 0)),
  (15, (.if_icmp .eq 33, 18, 48, 0, 0, 0)),
  (18, (.iload_n 0, 19, 0, 0, 0, 0)),
  (19, (.bipush 61, 21, 0, 0, 0, 0)),
  (21, (.if_icmp .eq 27, 24, 48, 0, 0, 0)),
  (24, (.iload_n 0, 25, 0, 0, 0, 0)),
  (25, (.bipush 60, 27, 0, 0, 0, 0)),
  (27, (.if_icmp .eq 21, 30, 48, 0, 0, 0)),
  (30, (.iload_n 0, 31, 0, 0, 0, 0)),
  (31, (.bipush 43, 33, 0, 0, 0, 0)),
  (33, (.if_icmp .eq 15, 36, 48, 0, 0, 0)),
  (36, (.iload_n 0, 37, 0, 0, 0, 0)),
  (37, (.bipush 45, 39, 0, 0, 0, 0)),
  (39, (.if_icmp .eq 9, 42, 48, 0, 0, 0)),
  (42, (.iload_n 0, 43, 0, 0, 0, 0)),
  (43, (.bipush 42, 45, 0, 0, 0, 0)),
  (45, (.if_icmp .ne 7, 48, 52, 0, 0, 0)),
  (48, (.iconst 1, 49, 0, 0, 0, 0)),
  (49, (.goto 4, 52, 53, 0, 0, 0)),
  (52, (.iconst 0, 53, 0, 0, 0, 0)),
  (53, (.ireturn, 54, 0, 0, 0, 0))]
def am_r194 : List (Nat × am_R) := [(0, (.aload_n 0, 1, 0, 0, 0, 0)),
  (1, (.iconst 0, 2, 0, 0, 0, 0)),
  (2, (.invokevirtual 164, 5, 195, 1, 245, 11)),
  (5, (.ifCond .eq 66, 8, 71, 0, 0, 0)),
  (8, (.bipush 44, 10, 0, 0, 0, 0)),
  (10, (.iconst 3, 11, 0, 0, 0, 0)),
  (11, (.aload_n 0, 12, 0, 0, 0, 0)),
  (12, (.getfield 79, 15, 10, 11, 137, 0)),
  (15, (.bipush 40, 17, 0, 0, 0, 0)),
  (17, (.iaload, 18, 0, 0, 0, 0)),
  (18, (.imul, 19, 0, 0, 0, 0)),
  (19, (.iadd, 20, 0, 0, 0, 0)),
  (20, (.istore_n 1, 21, 0, 0, 0, 0)),
  (21, (.aload_n 0, 22, 0, 0, 0, 0)),
  (22, (.iconst 0, 23, 0, 0, 0, 0)),
  (23, (.bipush 6, 25, 0, 0, 0, 0)),
  (25, (.iconst 0, 26, 0, 0, 0, 0)),
  (26, (.invokevirtual 213, 29, 196, 3, 246, 11)),
  (29, (.aload_n 0, 30, 0, 0, 0, 0)),
  (30, (.bipush 10, 32, 0, 0, 0, 0)),
  (32, (.iconst 4, 33, 0, 0, 0, 0)),
  (33, (.invokevirtual 217, 36, 201, 2, 251, 11)),
  (36, (.istore_n 2, 37, 0, 0, 0, 0)),
  (37, (.aload_n 0, 38, 0, 0, 0, 0)),
  (38, (.iconst 1, 39, 0, 0, 0, 0)),
  (39, (.iconst 0, 40, 0, 0, 0, 0)),
  (40, (.iconst 4, 41, 0, 0, 0, 0)),
  (41, (.invokevirtual 220, 44, 202, 3, 252, 11)),
  (44, (.istore_n 3, 45, 0, 0, 0, 0)),
  (45, (.aload_n 0, 46, 0, 0, 0, 0)),
  (46, (.getfield 155, 49, 8, 11, 135, 0)),
  (49, (.ifCond .ne 19, 52, 68, 0, 0, 0)),
  (52, (.aload_n 0, 53, 0, 0, 0, 0)),
  (53, (.getfield 79, 56, 10, 11, 137, 0)),
  (56, (.iload_n 1, 57, 0, 0, 0, 0)),
  (57, (.iload_n 2, 58, 0, 0, 0, 0)),
  (58, (.iastore, 59, 0, 0, 0, 0)),
  (59, (.aload_n 0, 60, 0, 0, 0, 0)),
  (60, (.getfield 79, 63, 10, 11, 137, 0)),
  (63, (.iload_n 1, 64, 0, 0, 0, 0)),
  (64, (.iconst 1, 65, 0, 0, 0, 0)),
  (65, (.iadd, 66, 0, 0, 0, 0)),
  (66, (.iload_n 3, 67, 0, 0, 0, 0)),
  (67, (.iastore, 68, 0, 0, 0, 0)),
  (68, (.goto 153, 71, 221, 0, 0, 0)),
  (71, (.aload_n 0, 72, 0, 0, 0, 0)),
  (72, (.iconst 2, 73, 0, 0, 0, 0)),
  (73, (.invokevirtual 164, 76, 195, 1, 245, 11)),
  (76, (.ifCond .eq 68, 79, 144, 0, 0, 0)),
  (79, (.bipush 62, 81, 0, 0, 0, 0)),
  (81, (.iconst 2, 82, 0, 0, 0, 0)),
  (82, (.aload_n 0, 83, 0, 0, 0, 0)),
  (83, (.getfield 79, 86, 10, 11, 137, 0)),
  (86, (.bipush 41, 88, 0, 0, 0, 0)),
  (88, (.iaload, 89, 0, 0, 0, 0)),
  (89, (.imul, 90, 0, 0, 0, 0)),
  (90, (.iadd, 91, 0, 0, 0, 0)),
  (91, (.istore_n 1, 92, 0, 0, 0, 0)),
  (92, (.aload_n 0, 93, 0, 0, 0, 0)),
  (93, (.iconst 1, 94, 0, 0, 0, 0)),
  (94, (.iconst 5, 95, 0, 0, 0, 0)),
  (95, (.bipush 20, 97, 0, 0, 0, 0)),
  (97, (.invokevirtual 213, 100, 196, 3, 246, 11)),
  (100, (.aload_n 0, 101, 0, 0, 0, 0)),
  (101, (.iconst 3, 102, 0, 0, 0, 0)),
  (102, (.iconst 0, 103, 0, 0, 0, 0)),
  (103, (.bipush 6, 105, 0, 0, 0, 0)),
  (105, (.invokevirtual 220, 108, 202, 3, 252, 11)),
  (108, (.istore_n 2, 109, 0, 0, 0, 0)),
  (109, (.aload_n 0, 110, 0, 0, 0, 0)),
  (110, (.iconst 4, 111, 0, 0, 0, 0)),
  (111, (.iconst 1, 112, 0, 0, 0, 0)),
  (112, (.bipush 6, 114, 0, 0, 0, 0)),
  (114, (.invokevirtual 220, 117, 202, 3, 252, 11)),
  (117, (.istore_n 3, 118, 0, 0, 0, 0)),
  (118, (.aload_n 0, 119, 0, 0, 0, 0)),
  (119, (.getfield 155, 122, 8, 11, 135, 0)),
  (122, (.ifCond .ne 19, 125, 141, 0, 0, 0)),
  (125, (.aload_n 0, 126, 0, 0, 0, 0)),
  (126, (.getfield 79, 129, 10, 11, 137, 0)),
  (129, (.iload_n 1, 130, 0, 0, 0, 0)),
  (130, (.iload_n 2, 131, 0, 0, 0, 0)),
  (131, (.iastore, 132, 0, 0, 0, 0)),
  (132, (.aload_n 0, 133, 0, 0, 0, 0)),
  (133, (.getfield 79, 136, 10, 11, 137, 0)),
  (136, (.iload_n 1, 137, 0, 0, 0, 0)),
  (137, (.iconst 1, 138, 0, 0, 0, 0)),
  (138, (.iadd, 139, 0, 0, 0, 0)),
  (139, (.iload_n 3, 140, 0, 0, 0, 0)),
  (140, (.iastore, 141, 0, 0, 0, 0)),
  (141, (.goto 80, 144, 221, 0, 0, 0)),
  (144, (.aload_n 0, 145, 0, 0, 0, 0)),
  (145, (.iconst 5, 146, 0, 0, 0, 0)),
  (146, (.invokevirtual 164, 149, 195, 1, 245, 11)),
  (149, (.ifCond .eq 68, 152, 217, 0, 0, 0)),
  (152, (.aload_n 0, 153, 0, 0, 0, 0)),
  (153, (.dup, 154, 0, 0, 0, 0)),
  (154, (.getfield 152, 157, 7, 11, 134, 0)),
  (157, (.iconst 1, 158, 0, 0, 0, 0)),
  (158, (.iadd, 159, 0, 0, 0, 0)),
  (159, (.putfield 152, 162, 7, 11, 134, 0)),
  (162, (.bipush 44, 164, 0, 0, 0, 0)),
  (164, (.iconst 3, 165, 0, 0, 0, 0)),
  (165, (.aload_n 0, 166, 0, 0, 0, 0)),
  (166, (.iconst 1, 167, 0, 0, 0, 0)),
  (167, (.iconst 0, 168, 0, 0, 0, 0)),
  (168, (.iconst 0, 169, 0, 0, 0, 0)),
  (169, (.invokevirtual 224, 172, 206, 3, 256, 11)),
  (172, (.imul, 173, 0, 0, 0, 0)),
  (173, (.iadd, 174, 0, 0, 0, 0)),
  (174, (.iconst 2, 175, 0, 0, 0, 0)),
  (175, (.iadd, 176, 0, 0, 0, 0)),
  (176, (.istore_n 1, 177, 0, 0, 0, 0)),
  (177, (.aload_n 0, 178, 0, 0, 0, 0)),
  (178, (.iconst 1, 179, 0, 0, 0, 0)),
  (179, (.bipush 20, 181, 0, 0, 0, 0)),
  (181, (.aload_n 0, 182, 0, 0, 0, 0)),
  (182, (.getfield 79, 185, 10, 11, 137, 0)),
  (185, (.iload_n 1, 186, 0, 0, 0, 0)),
  (186, (.iaload, 187, 0, 0, 0, 0)),
  (187, (.invokevirtual 224, 190, 206, 3, 256, 11)),
  (190, (.istore_n 2, 191, 0, 0, 0, 0)),
  (191, (.aload_n 0, 192, 0, 0, 0, 0)),
  (192, (.getfield 79, 195, 10, 11, 137, 0)),
  (195, (.iload_n 1, 196, 0, 0, 0, 0)),
  (196, (.dup2, 197, 0, 0, 0, 0)),
  (197, (.iaload, 198, 0, 0, 0, 0)),
  (198, (.aload_n 0, 199, 0, 0, 0, 0)),
  (199, (.getfield 155, 202, 8, 11, 135, 0)),
  (202, (.ifCond .le 7, 205, 209, 0, 0, 0)),
  (205, (.iconst 0, 206, 0, 0, 0, 0)),
  (206, (.goto 6, 209, 212, 0, 0, 0)),
  (209, (.iconst 1, 210, 0, 0, 0, 0)),
  (210, (.iload_n 2, 211, 0, 0, 0, 0)),
  (211, (.ishl, 212, 0, 0, 0, 0)),
  (212, (.ior, 213, 0, 0, 0, 0)),
  (213, (.iastore, 214, 0, 0, 0, 0)),
  (214, (.goto 7, 217, 221, 0, 0, 0)),
  (217, (.aload_n 0, 218, 0, 0, 0, 0)),
  (218, (.invokevirtual 228, 221, 208, 0, 258, 11)),
  (221, (.return_, 222, 0, 0, 0, 0))]
def am_r195 : List (Nat × am_R) := [(0, (.aload_n 0, 1, 0, 0, 0, 0)),
  (1, (.getfield 155, 4, 8, 11, 135, 0)),
  (4, (.ifCond .ne 39, 7, 43, 0, 0, 0)),
  (7, (.aload_n 0, 8, 0, 0, 0, 0)),
  (8, (.getfield 24, 11, 4, 11, 131, 0)),
  (11, (.aload_n 0, 12, 0, 0, 0, 0)),
  (12, (.getfield 152, 15, 7, 11, 134, 0)),
  (15, (.iaload, 16, 0, 0, 0, 0)),
  (16, (.iconst 1, 17, 0, 0, 0, 0)),
  (17, (.if_icmp .ne 26, 20, 43, 0, 0, 0)),
  (20, (.aload_n 0, 21, 0, 0, 0, 0)),
  (21, (.getfield 30, 24, 6, 11, 133, 0)),
  (24, (.aload_n 0, 25, 0, 0, 0, 0)),
  (25, (.getfield 152, 28, 7, 11, 134, 0)),
  (28, (.laload, 29, 0, 0, 0, 0)),
  (29, (.aload_n 0, 30, 0, 0, 0, 0)),
  (30, (.getfield 76, 33, 9, 11, 136, 0)),
  (33, (.iload_n 1, 34, 0, 0, 0, 0)),
  (34, (.laload, 35, 0, 0, 0, 0)),
  (35, (.lcmp, 36, 0, 0, 0, 0)),
  (36, (.ifCond .ne 7, 39, 43, 0, 0, 0)),
  (39, (.iconst 1, 40, 0, 0, 0, 0)),
  (40, (.goto 4, 43, 44, 0, 0, 0)),
  (43, (.iconst 0, 44, 0, 0, 0, 0)),
  (44, (.ireturn, 45, 0, 0, 0, 0))]
def am_r196 : List (Nat × am_R) := [(0, (.aload_n 0, 1, 0, 0, 0, 0)),
  (1, (.getfield 79, 4, 10, 11, 137, 0)),
  (4, (.bipush 40, 6, 0, 0, 0, 0)),
  (6, (.iload_n 1, 7, 0, 0, 0, 0)),
  (7, (.iadd, 8, 0, 0, 0, 0)),
  (8, (.iaload, 9, 0, 0, 0, 0)),
  (9, (.istore 4, 11, 0, 0, 0, 0)),
  (11, (.iload 4, 13, 0, 0, 0, 0)),
  (13, (.iload_n 2, 14, 0, 0, 0, 0)),
  (14, (.if_icmp .ne 9, 17, 23, 0, 0, 0)),
  (17, (.aload_n 0, 18, 0, 0, 0, 0)),
  (18, (.iconst 5, 19, 0, 0, 0, 0)),
  (19, (.invokevirtual 161, 22, 197, 1, 247, 11)),
  (22, (.return_, 23, 0, 0, 0, 0)),
  (23, (.aload_n 0, 24, 0, 0, 0, 0)),
  (24, (.dup, 25, 0, 0, 0, 0)),
  (25, (.getfield 152, 28, 7, 11, 134, 0)),
  (28, (.iconst 1, 29, 0, 0, 0, 0)),
  (29, (.iadd, 30, 0, 0, 0, 0)),
  (30, (.putfield 152, 33, 7, 11, 134, 0)),
  (33, (.aload_n 0, 34, 0, 0, 0, 0)),
  (34, (.invokevirtual 186, 37, 198, 0, 248, 11)),
  (37, (.ifCond .ne 11, 40, 48, 0, 0, 0)),
  (40, (.aload_n 0, 41, 0, 0, 0, 0)),
  (41, (.iconst 1, 42, 0, 0, 0, 0)),
  (42, (.invokevirtual 161, 45, 197, 1, 247, 11)),
  (45, (.goto 16, 48, 61, 0, 0, 0)),
  (48, (.aload_n 0, 49, 0, 0, 0, 0)),
  (49, (.iconst 1, 50, 0, 0, 0, 0)),
  (50, (.invokevirtual 190, 53, 200, 1, 250, 11)),
  (53, (.ifCond .lt 8, 56, 61, 0, 0, 0)),
  (56, (.aload_n 0, 57, 0, 0, 0, 0)),
  (57, (.iconst 3, 58, 0, 0, 0, 0)),
  (58, (.invokevirtual 161, 61, 197, 1, 247, 11)),
  (61, (.aload_n 0, 62, 0, 0, 0, 0)),
  (62, (.getfield 155, 65, 8, 11, 135, 0)),
  (65, (.ifCond .ne 67, 68, 132, 0, 0, 0)),
  (68, (.aload_n 0, 69, 0, 0, 0, 0)),
  (69, (.getfield 91, 72, 15, 11, 142, 0)),
  (72, (.aload_n 0, 73, 0, 0, 0, 0)),
  (73, (.getfield 180, 76, 19, 11, 146, 0)),
  (76, (.aload_n 0, 77, 0, 0, 0, 0)),
  (77, (.getfield 30, 80, 6, 11, 133, 0)),
  (80, (.aload_n 0, 81, 0, 0, 0, 0)),
  (81, (.getfield 152, 84, 7, 11, 134, 0)),
  (84, (.laload, 85, 0, 0, 0, 0)),
  (85, (.lastore, 86, 0, 0, 0, 0)),
  (86, (.aload_n 0, 87, 0, 0, 0, 0)),
  (87, (.getfield 97, 90, 17, 11, 144, 0)),
  (90, (.aload_n 0, 91, 0, 0, 0, 0)),
  (91, (.getfield 180, 94, 19, 11, 146, 0)),
  (94, (.iload_n 3, 95, 0, 0, 0, 0)),
  (95, (.iload 4, 97, 0, 0, 0, 0)),
  (97, (.iadd, 98, 0, 0, 0, 0)),
  (98, (.iastore, 99, 0, 0, 0, 0)),
  (99, (.aload_n 0, 100, 0, 0, 0, 0)),
  (100, (.dup, 101, 0, 0, 0, 0)),
  (101, (.getfield 180, 104, 19, 11, 146, 0)),
  (104, (.iconst 1, 105, 0, 0, 0, 0)),
  (105, (.iadd, 106, 0, 0, 0, 0)),
  (106, (.putfield 180, 109, 19, 11, 146, 0)),
  (109, (.aload_n 0, 110, 0, 0, 0, 0)),
  (110, (.dup, 111, 0, 0, 0, 0)),
  (111, (.getfield 152, 114, 7, 11, 134, 0)),
  (114, (.iconst 1, 115, 0, 0, 0, 0)),
  (115, (.iadd, 116, 0, 0, 0, 0)),
  (116, (.putfield 152, 119, 7, 11, 134, 0)),
  (119, (.aload_n 0, 120, 0, 0, 0, 0)),
  (120, (.getfield 79, 123, 10, 11, 137, 0)),
  (123, (.bipush 40, 125, 0, 0, 0, 0)),
  (125, (.iload_n 1, 126, 0, 0, 0, 0)),
  (126, (.iadd, 127, 0, 0, 0, 0)),
  (127, (.dup2, 128, 0, 0, 0, 0)),
  (128, (.iaload, 129, 0, 0, 0, 0)),
  (129, (.iconst 1, 130, 0, 0, 0, 0)),
  (130, (.iadd, 131, 0, 0, 0, 0)),
  (131, (.iastore, 132, 0, 0, 0, 0)),
  (132, (.return_, 133, 0, 0, 0, 0))]
def am_r197 : List (Nat × am_R) := [(0, (.aload_n 0, 1, 0, 0, 0, 0)),
  (1, (.getfield 155, 4, 8, 11, 135, 0)),
  (4, (.ifCond .ne 21, 7, 25, 0, 0, 0)),
  (7, (.aload_n 0, 8, 0, 0, 0, 0)),
  (8, (.iload_n 1, 9, 0, 0, 0, 0)),
  (9, (.bipush 16, 11, 0, 0, 0, 0)),
  (11, (.aload_n 0, 12, 0, 0, 0, 0)),
  (12, (.getfield 27, 15, 5, 11, 132, 0)),
  (15, (.aload_n 0, 16, 0, 0, 0, 0)),
  (16, (.getfield 152, 19, 7, 11, 134, 0)),
  (19, (.iaload, 20, 0, 0, 0, 0)),
  (20, (.imul, 21, 0, 0, 0, 0)),
  (21, (.iadd, 22, 0, 0, 0, 0)),
  (22, (.putfield 155, 25, 8, 11, 135, 0)),
  (25, (.return_, 26, 0, 0, 0, 0))]
def am_r198 : List (Nat × am_R) := [(0, (.aload_n 0, 1, 0, 0, 0, 0)),
  (1, (.getfield 155, 4, 8, 11, 135, 0)),
  (4, (.ifCond .ne 30, 7, 34, 0, 0, 0)),
  (7, (.aload_n 0, 8, 0, 0, 0, 0)),
  (8, (.getfield 24, 11, 4, 11, 131, 0)),
  (11, (.aload_n 0, 12, 0, 0, 0, 0)),
  (12, (.getfield 152, 15, 7, 11, 134, 0)),
  (15, (.iaload, 16, 0, 0, 0, 0)),
  (16, (.iconst 1, 17, 0, 0, 0, 0)),
  (17, (.if_icmp .ne 17, 20, 34, 0, 0, 0)),
  (20, (.aload_n 0, 21, 0, 0, 0, 0)),
  (21, (.iconst 0, 22, 0, 0, 0, 0)),
  (22, (.bipush 17, 24, 0, 0, 0, 0)),
  (24, (.invokevirtual 177, 27, 199, 2, 249, 11)),
  (27, (.ifCond .ge 7, 30, 34, 0, 0, 0)),
  (30, (.iconst 1, 31, 0, 0, 0, 0)),
  (31, (.goto 4, 34, 35, 0, 0, 0)),
  (34, (.iconst 0, 35, 0, 0, 0, 0)),
  (35, (.ireturn, 36, 0, 0, 0, 0))]
def am_r199 : List (Nat × am_R) := [(0, (.iconst (-1), 1, 0, 0, 0, 0)),
  (1, (.istore_n 3, 2, 0, 0, 0, 0)),
  (2, (.iconst 0, 3, 0, 0, 0, 0)),
  (3, (.istore 4, 5, 0, 0, 0, 0)),
  (5, (.iload 4, 7, 0, 0, 0, 0)),
  (7, (.iload_n 2, 8, 0, 0, 0, 0)),
  (8, (.if_icmp .ge 27, 11, 35, 0, 0, 0)),
  (11, (.aload_n 0, 12, 0, 0, 0, 0)),
  (12, (.iload_n 1, 13, 0, 0, 0, 0)),
  (13, (.iload 4, 15, 0, 0, 0, 0)),
  (15, (.iadd, 16, 0, 0, 0, 0)),
  (16, (.invokevirtual 164, 19, 195, 1, 245, 11)),
  (19, (.ifCond .eq 8, 22, 27, 0, 0, 0)),
  (22, (.iload 4, 24, 0, 0, 0, 0)),
  (24, (.goto 4, 27, 28, 0, 0, 0)),
  (27, (.iload_n 3, 28, 0, 0, 0, 0)),
  (28, (.istore_n 3, 29, 0, 0, 0, 0)),
  (29, (.iinc 4 1, 32, 0, 0, 0, 0)),
  (32, (.goto (-27), 35, 5, 0, 0, 0)),
  (35, (.iload_n 3, 36, 0, 0, 0, 0)),
  (36, (.ireturn, 37, 0, 0, 0, 0))]
def am_inf_4 : List (List (Nat × am_R) × Nat × Option FieldType) := [(am_r160, 5, (Option.some Jvm.ClassFile.FieldType.int)), (am_r161, 4, (Option.some Jvm.ClassFile.FieldType.int)), (am_r162, 3, (Option.some Jvm.ClassFile.FieldType.int)), (am_r163, 4, (Option.some Jvm.ClassFile.FieldType.int)), (am_r164, 4, (Option.some Jvm.ClassFile.FieldType.int)), (am_r165, 3, (Option.some Jvm.ClassFile.FieldType.int)), (am_r166, 4, (Option.some Jvm.ClassFile.FieldType.int)), (am_r167, 4, (Option.some Jvm.ClassFile.FieldType.int)), (am_r168, 9, (Option.some Jvm.ClassFile.FieldType.int)), ([], 1, (Option.none : Option Jvm.ClassFile.FieldType)), ([], 2, (Option.none : Option Jvm.ClassFile.FieldType)), ([], 2, (Option.none : Option Jvm.ClassFile.FieldType)), ([], 2, (Option.none : Option Jvm.ClassFile.FieldType)), ([], 2, (Option.none : Option Jvm.ClassFile.FieldType)), (am_r174, 5, (Option.some Jvm.ClassFile.FieldType.boolean)), (am_r175, 5, (Option.some Jvm.ClassFile.FieldType.int)), (am_r176, 1, (Option.some Jvm.ClassFile.FieldType.int)), (am_r177, 7, (Option.some Jvm.ClassFile.FieldType.int)), (am_r178, 5, (Option.none : Option Jvm.ClassFile.FieldType)), (am_r179, 1, (Option.none : Option Jvm.ClassFile.FieldType)), (am_r180, 3, (Option.none : Option Jvm.ClassFile.FieldType)), (am_r181, 2, (Option.none : Option Jvm.ClassFile.FieldType)), (am_r182, 2, (Option.none : Option Jvm.ClassFile.FieldType)), (am_r183, 1, (Option.some Jvm.ClassFile.FieldType.int)), (am_r184, 3, (Option.some Jvm.ClassFile.FieldType.int)), (am_r185, 3, (Option.none : Option Jvm.ClassFile.FieldType)), (am_r186, 1, (Option.some Jvm.ClassFile.FieldType.int)), (am_r187, 3, (Option.some Jvm.ClassFile.FieldType.int)), (am_r188, 2, (Option.some Jvm.ClassFile.FieldType.int)), (am_r189, 7, (Option.none : Option Jvm.ClassFile.FieldType)), (am_r190, 1, (Option.some Jvm.ClassFile.FieldType.boolean)), (am_r191, 1, (Option.some Jvm.ClassFile.FieldType.int)), (am_r192, 1, (Option.some Jvm.ClassFile.FieldType.boolean)), (am_r193, 1, (Option.some Jvm.ClassFile.FieldType.boolean)), (am_r194, 4, (Option.none : Option Jvm.ClassFile.FieldType)), (am_r195, 2, (Option.some Jvm.ClassFile.FieldType.boolean)), (am_r196, 5, (Option.none : Option Jvm.ClassFile.FieldType)), (am_r197, 2, (Option.none : Option Jvm.ClassFile.FieldType)), (am_r198, 1, (Option.some Jvm.ClassFile.FieldType.boolean)), (am_r199, 5, (Option.some Jvm.ClassFile.FieldType.int))]
theorem am_ck_4_0 : ((am_mi_4.zip am_inf_4).take 10).all am_chk = true := by decide +kernel
theorem am_ck_4_1 : (((am_mi_4.zip am_inf_4).drop 10).take 10).all am_chk = true := by decide +kernel
theorem am_ck_4_2 : (((am_mi_4.zip am_inf_4).drop 20).take 10).all am_chk = true := by decide +kernel
theorem am_ck_4_3 : (((am_mi_4.zip am_inf_4).drop 30)).all am_chk = true := by decide +kernel
theorem am_ck_4 : (am_mi_4.zip am_inf_4).all am_chk = true := am_all_cut _ 10 _ am_ck_4_0 (am_all_cut _ 10 _ am_ck_4_1 (by
  rw [List.drop_drop]
  exact am_all_cut _ 10 _ am_ck_4_2 (by
    rw [List.drop_drop]
    exact am_ck_4_3)))
def am_r200 : List (Nat × am_R) := [(0, (.iconst 0, 1, 0, 0, 0, 0)),
  (1, (.istore_n 2, 2, 0, 0, 0, 0)),
  (2, (.iload_n 2, 3, 0, 0, 0, 0)),
  (3, (.iload_n 1, 4, 0, 0, 0, 0)),
  (4, (.ifCond .eq 10, 7, 14, 0, 0, 0)),
  (7, (.aload_n 0, 8, 0, 0, 0, 0)),
  (8, (.getfield 180, 11, 19, 11, 146, 0)),
  (11, (.goto 7, 14, 18, 0, 0, 0)),
  (14, (.aload_n 0, 15, 0, 0, 0, 0)),
  (15, (.getfield 183, 18, 18, 11, 145, 0)),
  (18, (.if_icmp .ge 61, 21, 79, 0, 0, 0)),
  (21, (.iload_n 1, 22, 0, 0, 0, 0)),
  (22, (.ifCond .eq 12, 25, 34, 0, 0, 0)),
  (25, (.aload_n 0, 26, 0, 0, 0, 0)),
  (26, (.getfield 91, 29, 15, 11, 142, 0)),
  (29, (.iload_n 2, 30, 0, 0, 0, 0)),
  (30, (.laload, 31, 0, 0, 0, 0)),
  (31, (.goto 9, 34, 40, 0, 0, 0)),
  (34, (.aload_n 0, 35, 0, 0, 0, 0)),
  (35, (.getfield 88, 38, 14, 11, 141, 0)),
  (38, (.iload_n 2, 39, 0, 0, 0, 0)),
  (39, (.laload, 40, 0, 0, 0, 0)),
  (40, (.aload_n 0, 41, 0, 0, 0, 0)),
  (41, (.getfield 30, 44, 6, 11, 133, 0)),
  (44, (.aload_n 0, 45, 0, 0, 0, 0)),
  (45, (.getfield 152, 48, 7, 11, 134, 0)),
  (48, (.laload, 49, 0, 0, 0, 0)),
  (49, (.lcmp, 50, 0, 0, 0, 0)),
  (50, (.ifCond .ne 23, 53, 73, 0, 0, 0)),
  (53, (.iload_n 1, 54, 0, 0, 0, 0)),
  (54, (.ifCond .eq 12, 57, 66, 0, 0, 0)),
  (57, (.aload_n 0, 58, 0, 0, 0, 0)),
  (58, (.getfield 97, 61, 17, 11, 144, 0)),
  (61, (.iload_n 2, 62, 0, 0, 0, 0)),
  (62, (.iaload, 63, 0, 0, 0, 0)),
  (63, (.goto 9, 66, 72, 0, 0, 0)),
  (66, (.aload_n 0, 67, 0, 0, 0, 0)),
  (67, (.getfield 94, 70, 16, 11, 143, 0)),
  (70, (.iload_n 2, 71, 0, 0, 0, 0)),
  (71, (.iaload, 72, 0, 0, 0, 0)),
  (72, (.ireturn, 73, 0, 0, 0, 0)),
  (73, (.iinc 2 1, 76, 0, 0, 0, 0)),
  (76, (.goto (-74), 79, 2, 0, 0, 0)),
  (79, (.iconst (-1), 80, 0, 0, 0, 0)),
  (80, (.ireturn, 81, 0, 0, 0, 0))]
def am_r201 : List (Nat × am_R) := [(0, (.aload_n 0, 1, 0, 0, 0, 0)),
  (1, (.getfield 155, 4, 8, 11, 135, 0)),
  (4, (.ifCond .le 7, 7, 11, 0, 0, 0)),
  (7, (.iconst (-1), 8, 0, 0, 0, 0)),
  (8, (.goto 9, 11, 17, 0, 0, 0)),
  (11, (.aload_n 0, 12, 0, 0, 0, 0)),
  (12, (.iload_n 1, 13, 0, 0, 0, 0)),
  (13, (.iload_n 2, 14, 0, 0, 0, 0)),
  (14, (.invokevirtual 177, 17, 199, 2, 249, 11)),
  (17, (.istore_n 3, 18, 0, 0, 0, 0)),
  (18, (.aload_n 0, 19, 0, 0, 0, 0)),
  (19, (.getfield 155, 22, 8, 11, 135, 0)),
  (22, (.ifCond .ne 12, 25, 34, 0, 0, 0)),
  (25, (.iload_n 3, 26, 0, 0, 0, 0)),
  (26, (.ifCond .ge 8, 29, 34, 0, 0, 0)),
  (29, (.aload_n 0, 30, 0, 0, 0, 0)),
  (30, (.iconst 1, 31, 0, 0, 0, 0)),
  (31, (.invokevirtual 161, 34, 197, 1, 247, 11)),
  (34, (.aload_n 0, 35, 0, 0, 0, 0)),
  (35, (.dup, 36, 0, 0, 0, 0)),
  (36, (.getfield 152, 39, 7, 11, 134, 0)),
  (39, (.aload_n 0, 40, 0, 0, 0, 0)),
  (40, (.getfield 155, 43, 8, 11, 135, 0)),
  (43, (.ifCond .le 7, 46, 50, 0, 0, 0)),
  (46, (.iconst 0, 47, 0, 0, 0, 0)),
  (47, (.goto 4, 50, 51, 0, 0, 0)),
  (50, (.iconst 1, 51, 0, 0, 0, 0)),
  (51, (.iadd, 52, 0, 0, 0, 0)),
  (52, (.putfield 152, 55, 7, 11, 134, 0)),
  (55, (.aload_n 0, 56, 0, 0, 0, 0)),
  (56, (.getfield 155, 59, 8, 11, 135, 0)),
  (59, (.ifCond .le 7, 62, 66, 0, 0, 0)),
  (62, (.iconst 0, 63, 0, 0, 0, 0)),
  (63, (.goto 4, 66, 67, 0, 0, 0)),
  (66, (.iload_n 3, 67, 0, 0, 0, 0)),
  (67, (.ireturn, 68, 0, 0, 0, 0))]
def am_r202 : List (Nat × am_R) := [(0, (.aload_n 0, 1, 0, 0, 0, 0)),
  (1, (.iload_n 1, 2, 0, 0, 0, 0)),
  (2, (.invokevirtual 170, 5, 203, 1, 253, 11)),
  (5, (.aload_n 0, 6, 0, 0, 0, 0)),
  (6, (.iload_n 2, 7, 0, 0, 0, 0)),
  (7, (.iload_n 3, 8, 0, 0, 0, 0)),
  (8, (.invokevirtual 173, 11, 205, 2, 255, 11)),
  (11, (.ireturn, 12, 0, 0, 0, 0))]
def am_r203 : List (Nat × am_R) := [(0, (.aload_n 0, 1, 0, 0, 0, 0)),
  (1, (.iload_n 1, 2, 0, 0, 0, 0)),
  (2, (.invokevirtual 167, 5, 204, 1, 254, 11)),
  (5, (.ifCond .ne 8, 8, 13, 0, 0, 0)),
  (8, (.aload_n 0, 9, 0, 0, 0, 0)),
  (9, (.iconst 1, 10, 0, 0, 0, 0)),
  (10, (.invokevirtual 161, 13, 197, 1, 247, 11)),
  (13, (.return_, 14, 0, 0, 0, 0))]
def am_r204 : List (Nat × am_R) := [(0, (.aload_n 0, 1, 0, 0, 0, 0)),
  (1, (.iload_n 1, 2, 0, 0, 0, 0)),
  (2, (.invokevirtual 164, 5, 195, 1, 245, 11)),
  (5, (.istore_n 2, 6, 0, 0, 0, 0)),
  (6, (.aload_n 0, 7, 0, 0, 0, 0)),
  (7, (.dup, 8, 0, 0, 0, 0)),
  (8, (.getfield 152, 11, 7, 11, 134, 0)),
  (11, (.iload_n 2, 12, 0, 0, 0, 0)),
  (12, (.ifCond .eq 7, 15, 19, 0, 0, 0)),
  (15, (.iconst 1, 16, 0, 0, 0, 0)),
  (16, (.goto 4, 19, 20, 0, 0, 0)),
  (19, (.iconst 0, 20, 0, 0, 0, 0)),
  (20, (.iadd, 21, 0, 0, 0, 0)),
  (21, (.putfield 152, 24, 7, 11, 134, 0)),
  (24, (.iload_n 2, 25, 0, 0, 0, 0)),
  (25, (.ireturn, 26, 0, 0, 0, 0))]
def am_r205 : List (Nat × am_R) := [(0, (.aload_n 0, 1, 0, 0, 0, 0)),
  (1, (.getfield 155, 4, 8, 11, 135, 0)),
  (4, (.ifCond .ne 24, 7, 28, 0, 0, 0)),
  (7, (.aload_n 0, 8, 0, 0, 0, 0)),
  (8, (.getfield 24, 11, 4, 11, 131, 0)),
  (11, (.aload_n 0, 12, 0, 0, 0, 0)),
  (12, (.getfield 152, 15, 7, 11, 134, 0)),
  (15, (.iaload, 16, 0, 0, 0, 0)),
  (16, (.iconst 2, 17, 0, 0, 0, 0)),
  (17, (.if_icmp .eq 11, 20, 28, 0, 0, 0)),
  (20, (.aload_n 0, 21, 0, 0, 0, 0)),
  (21, (.iconst 1, 22, 0, 0, 0, 0)),
  (22, (.invokevirtual 161, 25, 197, 1, 247, 11)),
  (25, (.goto 45, 28, 70, 0, 0, 0)),
  (28, (.aload_n 0, 29, 0, 0, 0, 0)),
  (29, (.getfield 155, 32, 8, 11, 135, 0)),
  (32, (.ifCond .ne 38, 35, 70, 0, 0, 0)),
  (35, (.aload_n 0, 36, 0, 0, 0, 0)),
  (36, (.getfield 30, 39, 6, 11, 133, 0)),
  (39, (.aload_n 0, 40, 0, 0, 0, 0)),
  (40, (.getfield 152, 43, 7, 11, 134, 0)),
  (43, (.laload, 44, 0, 0, 0, 0)),
  (44, (.iload_n 1, 45, 0, 0, 0, 0)),
  (45, (.i2l, 46, 0, 0, 0, 0)),
  (46, (.lcmp, 47, 0, 0, 0, 0)),
  (47, (.ifCond .lt 18, 50, 65, 0, 0, 0)),
  (50, (.aload_n 0, 51, 0, 0, 0, 0)),
  (51, (.getfield 30, 54, 6, 11, 133, 0)),
  (54, (.aload_n 0, 55, 0, 0, 0, 0)),
  (55, (.getfield 152, 58, 7, 11, 134, 0)),
  (58, (.laload, 59, 0, 0, 0, 0)),
  (59, (.iload_n 2, 60, 0, 0, 0, 0)),
  (60, (.i2l, 61, 0, 0, 0, 0)),
  (61, (.lcmp, 62, 0, 0, 0, 0)),
  (62, (.ifCond .le 8, 65, 70, 0, 0, 0)),
  (65, (.aload_n 0, 66, 0, 0, 0, 0)),
  (66, (.iconst 4, 67, 0, 0, 0, 0)),
  (67, (.invokevirtual 161, 70, 197, 1, 247, 11)),
  (70, (.aload_n 0, 71, 0, 0, 0, 0)),
  (71, (.getfield 155, 74, 8, 11, 135, 0)),
  (74, (.ifCond .le 5, 77, 79, 0, 0, 0)),
  (77, (.iconst 0, 78, 0, 0, 0, 0)),
  (78, (.ireturn, 79, 0, 0, 0, 0)),
  (79, (.aload_n 0, 80, 0, 0, 0, 0)),
  (80, (.dup, 81, 0, 0, 0, 0)),
  (81, (.getfield 152, 84, 7, 11, 134, 0)),
  (84, (.iconst 1, 85, 0, 0, 0, 0)),
  (85, (.iadd, 86, 0, 0, 0, 0)),
  (86, (.putfield 152, 89, 7, 11, 134, 0)),
  (89, (.aload_n 0, 90, 0, 0, 0, 0)),
  (90, (.getfield 30, 93, 6, 11, 133, 0)),
  (93, (.aload_n 0, 94, 0, 0, 0, 0)),
  (94, (.getfield 152, 97, 7, 11, 134, 0)),
  (97, (.iconst 1, 98, 0, 0, 0, 0)),
  (98, (.isub, 99, 0, 0, 0, 0)),
  (99, (.laload, 100, 0, 0, 0, 0)),
  (100, (.l2i, 101, 0, 0, 0, 0)),
  (101, (.ireturn, 102, 0, 0, 0, 0))]
def am_r206 : List (Nat × am_R) := [(0, (.aload_n 0, 1, 0, 0, 0, 0)),
  (1, (.getfield 155, 4, 8, 11, 135, 0)),
  (4, (.ifCond .ne 15, 7, 19, 0, 0, 0)),
  (7, (.aload_n 0, 8, 0, 0, 0, 0)),
  (8, (.invokevirtual 186, 11, 198, 0, 248, 11)),
  (11, (.ifCond .ne 8, 14, 19, 0, 0, 0)),
  (14, (.aload_n 0, 15, 0, 0, 0, 0)),
  (15, (.iconst 1, 16, 0, 0, 0, 0)),
  (16, (.invokevirtual 161, 19, 197, 1, 247, 11)),
  (19, (.aload_n 0, 20, 0, 0, 0, 0)),
  (20, (.getfield 155, 23, 8, 11, 135, 0)),
  (23, (.ifCond .le 7, 26, 30, 0, 0, 0)),
  (26, (.iconst (-1), 27, 0, 0, 0, 0)),
  (27, (.goto 10, 30, 37, 0, 0, 0)),
  (30, (.aload_n 0, 31, 0, 0, 0, 0)),
  (31, (.iload_n 1, 32, 0, 0, 0, 0)),
  (32, (.invokevirtual 190, 35, 200, 1, 250, 11)),
  (35, (.iload_n 2, 36, 0, 0, 0, 0)),
  (36, (.isub, 37, 0, 0, 0, 0)),
  (37, (.istore 4, 39, 0, 0, 0, 0)),
  (39, (.aload_n 0, 40, 0, 0, 0, 0)),
  (40, (.getfield 155, 43, 8, 11, 135, 0)),
  (43, (.ifCond .ne 21, 46, 64, 0, 0, 0)),
  (46, (.iload 4, 48, 0, 0, 0, 0)),
  (48, (.iconst 0, 49, 0, 0, 0, 0)),
  (49, (.iconst 5, 50, 0, 0, 0, 0)),
  (50, (.invokestatic 194, 53, 207, 3, 257, 0)),
  (53, (.ifCond .ne 11, 56, 64, 0, 0, 0)),
  (56, (.aload_n 0, 57, 0, 0, 0, 0)),
  (57, (.iconst 2, 58, 0, 0, 0, 0)),
  (58, (.invokevirtual 161, 61, 197, 1, 247, 11)),
  (61, (.goto 25, 64, 86, 0, 0, 0)),
  (64, (.aload_n 0, 65, 0, 0, 0, 0)),
  (65, (.getfield 155, 68, 8, 11, 135, 0)),
  (68, (.ifCond .ne 18, 71, 86, 0, 0, 0)),
  (71, (.iload_n 3, 72, 0, 0, 0, 0)),
  (72, (.iload 4, 74, 0, 0, 0, 0)),
  (74, (.ishr, 75, 0, 0, 0, 0)),
  (75, (.iconst 1, 76, 0, 0, 0, 0)),
  (76, (.iand, 77, 0, 0, 0, 0)),
  (77, (.iconst 1, 78, 0, 0, 0, 0)),
  (78, (.if_icmp .ne 8, 81, 86, 0, 0, 0)),
  (81, (.aload_n 0, 82, 0, 0, 0, 0)),
  (82, (.iconst 3, 83, 0, 0, 0, 0)),
  (83, (.invokevirtual 161, 86, 197, 1, 247, 11)),
  (86, (.aload_n 0, 87, 0, 0, 0, 0)),
  (87, (.dup, 88, 0, 0, 0, 0)),
  (88, (.getfield 152, 91, 7, 11, 134, 0)),
  (91, (.aload_n 0, 92, 0, 0, 0, 0)),
  (92, (.getfield 155, 95, 8, 11, 135, 0)),
  (95, (.ifCond .le 7, 98, 102, 0, 0, 0)),
  (98, (.iconst 0, 99, 0, 0, 0, 0)),
  (99, (.goto 4, 102, 103, 0, 0, 0)),
  (102, (.iconst 1, 103, 0, 0, 0, 0)),
  (103, (.iadd, 104, 0, 0, 0, 0)),
  (104, (.putfield 152, 107, 7, 11, 134, 0)),
  (107, (.aload_n 0, 108, 0, 0, 0, 0)),
  (108, (.getfield 155, 111, 8, 11, 135, 0)),
  (111, (.ifCond .le 7, 114, 118, 0, 0, 0)),
  (114, (.iconst 0, 115, 0, 0, 0, 0)),
  (115, (.goto 5, 118, 120, 0, 0, 0)),
  (118, (.iload 4, 120, 0, 0, 0, 0)),
  (120, (.ireturn, 121, 0, 0, 0, 0))]
def am_r207 : List (Nat × am_R) := [(0, (.iload_n 0, 1, 0, 0, 0, 0)),
  (1, (.iload_n 1, 2, 0, 0, 0, 0)),
  (2, (.if_icmp .lt 12, 5, 14, 0, 0, 0)),
  (5, (.iload_n 0, 6, 0, 0, 0, 0)),
  (6, (.iload_n 2, 7, 0, 0, 0, 0)),
  (7, (.if_icmp .gt 7, 10, 14, 0, 0, 0)),
  (10, (.iconst 1, 11, 0, 0, 0, 0)),
  (11, (.goto 4, 14, 15, 0, 0, 0)),
  (14, (.iconst 0, 15, 0, 0, 0, 0)),
  (15, (.ireturn, 16, 0, 0, 0, 0))]
def am_r208 : List (Nat × am_R) := [(0, (.aload_n 0, 1, 0, 0, 0, 0)),
  (1, (.bipush 6, 3, 0, 0, 0, 0)),
  (3, (.iconst 2, 4, 0, 0, 0, 0)),
  (4, (.invokevirtual 177, 7, 199, 2, 249, 11)),
  (7, (.istore_n 1, 8, 0, 0, 0, 0)),
  (8, (.iload_n 1, 9, 0, 0, 0, 0)),
  (9, (.ifCond .ge 11, 12, 20, 0, 0, 0)),
  (12, (.aload_n 0, 13, 0, 0, 0, 0)),
  (13, (.iconst 1, 14, 0, 0, 0, 0)),
  (14, (.invokevirtual 161, 17, 197, 1, 247, 11)),
  (17, (.goto 20, 20, 37, 0, 0, 0)),
  (20, (.aload_n 0, 21, 0, 0, 0, 0)),
  (21, (.getfield 204, 24, 20, 11, 147, 0)),
  (24, (.iload_n 1, 25, 0, 0, 0, 0)),
  (25, (.ishr, 26, 0, 0, 0, 0)),
  (26, (.iconst 1, 27, 0, 0, 0, 0)),
  (27, (.iand, 28, 0, 0, 0, 0)),
  (28, (.iconst 1, 29, 0, 0, 0, 0)),
  (29, (.if_icmp .ne 8, 32, 37, 0, 0, 0)),
  (32, (.aload_n 0, 33, 0, 0, 0, 0)),
  (33, (.iconst 3, 34, 0, 0, 0, 0)),
  (34, (.invokevirtual 161, 37, 197, 1, 247, 11)),
  (37, (.aload_n 0, 38, 0, 0, 0, 0)),
  (38, (.getfield 155, 41, 8, 11, 135, 0)),
  (41, (.ifCond .le 4, 44, 45, 0, 0, 0)),
  (44, (.return_, 45, 0, 0, 0, 0)),
  (45, (.aload_n 0, 46, 0, 0, 0, 0)),
  (46, (.dup, 47, 0, 0, 0, 0)),
  (47, (.getfield 204, 50, 20, 11, 147, 0)),
  (50, (.iconst 1, 51, 0, 0, 0, 0)),
  (51, (.iload_n 1, 52, 0, 0, 0, 0)),
  (52, (.ishl, 53, 0, 0, 0, 0)),
  (53, (.ior, 54, 0, 0, 0, 0)),
  (54, (.putfield 204, 57, 20, 11, 147, 0)),
  (57, (.aload_n 0, 58, 0, 0, 0, 0)),
  (58, (.dup, 59, 0, 0, 0, 0)),
  (59, (.getfield 152, 62, 7, 11, 134, 0)),
  (62, (.iconst 1, 63, 0, 0, 0, 0)),
  (63, (.iadd, 64, 0, 0, 0, 0)),
  (64, (.putfield 152, 67, 7, 11, 134, 0)),
  (67, (.iload_n 1, 68, 0, 0, 0, 0)),
  (68, (.ifCond .ne 10, 71, 78, 0, 0, 0)),
  (71, (.aload_n 0, 72, 0, 0, 0, 0)),
  (72, (.invokevirtual 231, 75, 209, 0, 259, 11)),
  (75, (.goto 25, 78, 100, 0, 0, 0)),
  (78, (.aload_n 0, 79, 0, 0, 0, 0)),
  (79, (.getfield 79, 82, 10, 11, 137, 0)),
  (82, (.bipush 43, 84, 0, 0, 0, 0)),
  (84, (.aload_n 0, 85, 0, 0, 0, 0)),
  (85, (.getfield 201, 88, 13, 11, 140, 0)),
  (88, (.iastore, 89, 0, 0, 0, 0)),
  (89, (.aload_n 0, 90, 0, 0, 0, 0)),
  (90, (.iconst 0, 91, 0, 0, 0, 0)),
  (91, (.invokevirtual 234, 94, 210, 1, 260, 11)),
  (94, (.aload_n 0, 95, 0, 0, 0, 0)),
  (95, (.iconst 0, 96, 0, 0, 0, 0)),
  (96, (.iconst 0, 97, 0, 0, 0, 0)),
  (97, (.invokevirtual 237, 100, 216, 2, 266, 11)),
  (100, (.return_, 101, 0, 0, 0, 0))]
def am_r209 : List (Nat × am_R) := [(0, (.iconst 0, 1, 0, 0, 0, 0)),
  (1, (.istore_n 1, 2, 0, 0, 0, 0)),
  (2, (.aload_n 0, 3, 0, 0, 0, 0)),
  (3, (.getfield 155, 6, 8, 11, 135, 0)),
  (6, (.ifCond .ne 119, 9, 125, 0, 0, 0)),
  (9, (.iload_n 1, 10, 0, 0, 0, 0)),
  (10, (.ifCond .eq 16, 13, 26, 0, 0, 0)),
  (13, (.aload_n 0, 14, 0, 0, 0, 0)),
  (14, (.getfield 24, 17, 4, 11, 131, 0)),
  (17, (.aload_n 0, 18, 0, 0, 0, 0)),
  (18, (.getfield 152, 21, 7, 11, 134, 0)),
  (21, (.iaload, 22, 0, 0, 0, 0)),
  (22, (.iconst 2, 23, 0, 0, 0, 0)),
  (23, (.if_icmp .ne 102, 26, 125, 0, 0, 0)),
  (26, (.aload_n 0, 27, 0, 0, 0, 0)),
  (27, (.iconst 0, 28, 0, 0, 0, 0)),
  (28, (.bipush 27, 30, 0, 0, 0, 0)),
  (30, (.invokevirtual 173, 33, 205, 2, 255, 11)),
  (33, (.istore_n 2, 34, 0, 0, 0, 0)),
  (34, (.aload_n 0, 35, 0, 0, 0, 0)),
  (35, (.dup, 36, 0, 0, 0, 0)),
  (36, (.getfield 152, 39, 7, 11, 134, 0)),
  (39, (.aload_n 0, 40, 0, 0, 0, 0)),
  (40, (.getfield 155, 43, 8, 11, 135, 0)),
  (43, (.ifCond .le 7, 46, 50, 0, 0, 0)),
  (46, (.iconst 0, 47, 0, 0, 0, 0)),
  (47, (.goto 4, 50, 51, 0, 0, 0)),
  (50, (.iconst 1, 51, 0, 0, 0, 0)),
  (51, (.isub, 52, 0, 0, 0, 0)),
  (52, (.putfield 152, 55, 7, 11, 134, 0)),
  (55, (.aload_n 0, 56, 0, 0, 0, 0)),
  (56, (.getfield 79, 59, 10, 11, 137, 0)),
  (59, (.bipush 42, 61, 0, 0, 0, 0)),
  (61, (.iaload, 62, 0, 0, 0, 0)),
  (62, (.iload_n 2, 63, 0, 0, 0, 0)),
  (63, (.ishr, 64, 0, 0, 0, 0)),
  (64, (.iconst 1, 65, 0, 0, 0, 0)),
  (65, (.iand, 66, 0, 0, 0, 0)),
  (66, (.iconst 1, 67, 0, 0, 0, 0)),
  (67, (.if_icmp .ne 11, 70, 78, 0, 0, 0)),
  (70, (.aload_n 0, 71, 0, 0, 0, 0)),
  (71, (.iconst 3, 72, 0, 0, 0, 0)),
  (72, (.invokevirtual 161, 75, 197, 1, 247, 11)),
  (75, (.goto 14, 78, 89, 0, 0, 0)),
  (78, (.iload_n 1, 79, 0, 0, 0, 0)),
  (79, (.bipush 8, 81, 0, 0, 0, 0)),
  (81, (.if_icmp .ne 8, 84, 89, 0, 0, 0)),
  (84, (.aload_n 0, 85, 0, 0, 0, 0)),
  (85, (.iconst 5, 86, 0, 0, 0, 0)),
  (86, (.invokevirtual 161, 89, 197, 1, 247, 11)),
  (89, (.aload_n 0, 90, 0, 0, 0, 0)),
  (90, (.getfield 155, 93, 8, 11, 135, 0)),
  (93, (.ifCond .ne 29, 96, 122, 0, 0, 0)),
  (96, (.aload_n 0, 97, 0, 0, 0, 0)),
  (97, (.getfield 79, 100, 10, 11, 137, 0)),
  (100, (.bipush 42, 102, 0, 0, 0, 0)),
  (102, (.dup2, 103, 0, 0, 0, 0)),
  (103, (.iaload, 104, 0, 0, 0, 0)),
  (104, (.iconst 1, 105, 0, 0, 0, 0)),
  (105, (.iload_n 2, 106, 0, 0, 0, 0)),
  (106, (.ishl, 107, 0, 0, 0, 0)),
  (107, (.ior, 108, 0, 0, 0, 0)),
  (108, (.iastore, 109, 0, 0, 0, 0)),
  (109, (.aload_n 0, 110, 0, 0, 0, 0)),
  (110, (.dup, 111, 0, 0, 0, 0)),
  (111, (.getfield 152, 114, 7, 11, 134, 0)),
  (114, (.iconst 1, 115, 0, 0, 0, 0)),
  (115, (.iadd, 116, 0, 0, 0, 0)),
  (116, (.putfield 152, 119, 7, 11, 134, 0)),
  (119, (.iinc 1 1, 122, 0, 0, 0, 0)),
  (122, (.goto (-120), 125, 2, 0, 0, 0)),
  (125, (.return_, 126, 0, 0, 0, 0))]
def am_r210 : List (Nat × am_R) := [(0, (.aload_n 0, 1, 0, 0, 0, 0)),
  (1, (.iload_n 1, 2, 0, 0, 0, 0)),
  (2, (.invokevirtual 241, 5, 211, 1, 261, 11)),
  (5, (.aload_n 0, 6, 0, 0, 0, 0)),
  (6, (.bipush 15, 8, 0, 0, 0, 0)),
  (8, (.invokevirtual 164, 11, 195, 1, 245, 11)),
  (11, (.ifCond .ne 12, 14, 23, 0, 0, 0)),
  (14, (.aload_n 0, 15, 0, 0, 0, 0)),
  (15, (.bipush 16, 17, 0, 0, 0, 0)),
  (17, (.invokevirtual 164, 20, 195, 1, 245, 11)),
  (20, (.ifCond .eq 44, 23, 64, 0, 0, 0)),
  (23, (.aload_n 0, 24, 0, 0, 0, 0)),
  (24, (.bipush 15, 26, 0, 0, 0, 0)),
  (26, (.invokevirtual 164, 29, 195, 1, 245, 11)),
  (29, (.istore_n 2, 30, 0, 0, 0, 0)),
  (30, (.aload_n 0, 31, 0, 0, 0, 0)),
  (31, (.dup, 32, 0, 0, 0, 0)),
  (32, (.getfield 152, 35, 7, 11, 134, 0)),
  (35, (.iconst 1, 36, 0, 0, 0, 0)),
  (36, (.iadd, 37, 0, 0, 0, 0)),
  (37, (.putfield 152, 40, 7, 11, 134, 0)),
  (40, (.aload_n 0, 41, 0, 0, 0, 0)),
  (41, (.iload_n 1, 42, 0, 0, 0, 0)),
  (42, (.invokevirtual 241, 45, 211, 1, 261, 11)),
  (45, (.aload_n 0, 46, 0, 0, 0, 0)),
  (46, (.iload_n 2, 47, 0, 0, 0, 0)),
  (47, (.ifCond .eq 8, 50, 55, 0, 0, 0)),
  (50, (.bipush 9, 52, 0, 0, 0, 0)),
  (52, (.goto 5, 55, 57, 0, 0, 0)),
  (55, (.bipush 10, 57, 0, 0, 0, 0)),
  (57, (.iconst 0, 58, 0, 0, 0, 0)),
  (58, (.invokevirtual 237, 61, 216, 2, 266, 11)),
  (61, (.goto (-56), 64, 5, 0, 0, 0)),
  (64, (.return_, 65, 0, 0, 0, 0))]
def am_r211 : List (Nat × am_R) := [(0, (.aload_n 0, 1, 0, 0, 0, 0)),
  (1, (.iload_n 1, 2, 0, 0, 0, 0)),
  (2, (.invokevirtual 244, 5, 212, 1, 262, 11)),
  (5, (.aload_n 0, 6, 0, 0, 0, 0)),
  (6, (.bipush 60, 8, 0, 0, 0, 0)),
  (8, (.invokevirtual 158, 11, 215, 1, 265, 11)),
  (11, (.istore_n 2, 12, 0, 0, 0, 0)),
  (12, (.aload_n 0, 13, 0, 0, 0, 0)),
  (13, (.bipush 60, 15, 0, 0, 0, 0)),
  (15, (.invokevirtual 247, 18, 217, 1, 267, 11)),
  (18, (.ifCond .ne 12, 21, 30, 0, 0, 0)),
  (21, (.aload_n 0, 22, 0, 0, 0, 0)),
  (22, (.bipush 61, 24, 0, 0, 0, 0)),
  (24, (.invokevirtual 247, 27, 217, 1, 267, 11)),
  (27, (.ifCond .eq 24, 30, 51, 0, 0, 0)),
  (30, (.aload_n 0, 31, 0, 0, 0, 0)),
  (31, (.iload_n 1, 32, 0, 0, 0, 0)),
  (32, (.invokevirtual 244, 35, 212, 1, 262, 11)),
  (35, (.aload_n 0, 36, 0, 0, 0, 0)),
  (36, (.iload_n 2, 37, 0, 0, 0, 0)),
  (37, (.ifCond .eq 8, 40, 45, 0, 0, 0)),
  (40, (.bipush 7, 42, 0, 0, 0, 0)),
  (42, (.goto 5, 45, 47, 0, 0, 0)),
  (45, (.bipush 8, 47, 0, 0, 0, 0)),
  (47, (.iconst 0, 48, 0, 0, 0, 0)),
  (48, (.invokevirtual 237, 51, 216, 2, 266, 11)),
  (51, (.return_, 52, 0, 0, 0, 0))]
def am_r212 : List (Nat × am_R) := [(0, (.aload_n 0, 1, 0, 0, 0, 0)),
  (1, (.iload_n 1, 2, 0, 0, 0, 0)),
  (2, (.invokevirtual 250, 5, 213, 1, 263, 11)),
  (5, (.aload_n 0, 6, 0, 0, 0, 0)),
  (6, (.bipush 43, 8, 0, 0, 0, 0)),
  (8, (.invokevirtual 158, 11, 215, 1, 265, 11)),
  (11, (.ifCond .ne 12, 14, 23, 0, 0, 0)),
  (14, (.aload_n 0, 15, 0, 0, 0, 0)),
  (15, (.bipush 45, 17, 0, 0, 0, 0)),
  (17, (.invokevirtual 158, 20, 215, 1, 265, 11)),
  (20, (.ifCond .eq 42, 23, 62, 0, 0, 0)),
  (23, (.aload_n 0, 24, 0, 0, 0, 0)),
  (24, (.bipush 43, 26, 0, 0, 0, 0)),
  (26, (.invokevirtual 158, 29, 215, 1, 265, 11)),
  (29, (.istore_n 2, 30, 0, 0, 0, 0)),
  (30, (.aload_n 0, 31, 0, 0, 0, 0)),
  (31, (.dup, 32, 0, 0, 0, 0)),
  (32, (.getfield 152, 35, 7, 11, 134, 0)),
  (35, (.iconst 1, 36, 0, 0, 0, 0)),
  (36, (.iadd, 37, 0, 0, 0, 0)),
  (37, (.putfield 152, 40, 7, 11, 134, 0)),
  (40, (.aload_n 0, 41, 0, 0, 0, 0)),
  (41, (.iload_n 1, 42, 0, 0, 0, 0)),
  (42, (.invokevirtual 250, 45, 213, 1, 263, 11)),
  (45, (.aload_n 0, 46, 0, 0, 0, 0)),
  (46, (.iload_n 2, 47, 0, 0, 0, 0)),
  (47, (.ifCond .eq 7, 50, 54, 0, 0, 0)),
  (50, (.iconst 4, 51, 0, 0, 0, 0)),
  (51, (.goto 4, 54, 55, 0, 0, 0)),
  (54, (.iconst 5, 55, 0, 0, 0, 0)),
  (55, (.iconst 0, 56, 0, 0, 0, 0)),
  (56, (.invokevirtual 237, 59, 216, 2, 266, 11)),
  (59, (.goto (-54), 62, 5, 0, 0, 0)),
  (62, (.return_, 63, 0, 0, 0, 0))]
def am_r213 : List (Nat × am_R) := [(0, (.aload_n 0, 1, 0, 0, 0, 0)),
  (1, (.iload_n 1, 2, 0, 0, 0, 0)),
  (2, (.invokevirtual 253, 5, 214, 1, 264, 11)),
  (5, (.aload_n 0, 6, 0, 0, 0, 0)),
  (6, (.bipush 42, 8, 0, 0, 0, 0)),
  (8, (.invokevirtual 247, 11, 217, 1, 267, 11)),
  (11, (.ifCond .eq 18, 14, 29, 0, 0, 0)),
  (14, (.aload_n 0, 15, 0, 0, 0, 0)),
  (15, (.iload_n 1, 16, 0, 0, 0, 0)),
  (16, (.invokevirtual 253, 19, 214, 1, 264, 11)),
  (19, (.aload_n 0, 20, 0, 0, 0, 0)),
  (20, (.bipush 6, 22, 0, 0, 0, 0)),
  (22, (.iconst 0, 23, 0, 0, 0, 0)),
  (23, (.invokevirtual 237, 26, 216, 2, 266, 11)),
  (26, (.goto (-21), 29, 5, 0, 0, 0)),
  (29, (.return_, 30, 0, 0, 0, 0))]
def am_r214 : List (Nat × am_R) := [(0, (.aload_n 0, 1, 0, 0, 0, 0)),
  (1, (.getfield 155, 4, 8, 11, 135, 0)),
  (4, (.ifCond .le 4, 7, 8, 0, 0, 0)),
  (7, (.return_, 8, 0, 0, 0, 0)),
  (8, (.aload_n 0, 9, 0, 0, 0, 0)),
  (9, (.getfield 24, 12, 4, 11, 131, 0)),
  (12, (.aload_n 0, 13, 0, 0, 0, 0)),
  (13, (.getfield 152, 16, 7, 11, 134, 0)),
  (16, (.iaload, 17, 0, 0, 0, 0)),
  (17, (.iconst 2, 18, 0, 0, 0, 0)),
  (18, (.if_icmp .ne 7, 21, 25, 0, 0, 0)),
  (21, (.iconst 1, 22, 0, 0, 0, 0)),
  (22, (.goto 4, 25, 26, 0, 0, 0)),
  (25, (.iconst 0, 26, 0, 0, 0, 0)),
  (26, (.istore_n 2, 27, 0, 0, 0, 0)),
  (27, (.aload_n 0, 28, 0, 0, 0, 0)),
  (28, (.bipush 17, 30, 0, 0, 0, 0)),
  (30, (.iconst 4, 31, 0, 0, 0, 0)),
  (31, (.invokevirtual 177, 34, 199, 2, 249, 11)),
  (34, (.istore_n 3, 35, 0, 0, 0, 0)),
  (35, (.iload_n 3, 36, 0, 0, 0, 0)),
  (36, (.ifCond .ge 33, 39, 69, 0, 0, 0)),
  (39, (.iload_n 2, 40, 0, 0, 0, 0)),
  (40, (.ifCond .ne 29, 43, 69, 0, 0, 0)),
  (43, (.aload_n 0, 44, 0, 0, 0, 0)),
  (44, (.bipush 40, 46, 0, 0, 0, 0)),
  (46, (.invokevirtual 158, 49, 215, 1, 265, 11)),
  (49, (.ifCond .ne 20, 52, 69, 0, 0, 0)),
  (52, (.aload_n 0, 53, 0, 0, 0, 0)),
  (53, (.bipush 14, 55, 0, 0, 0, 0)),
  (55, (.invokevirtual 164, 58, 195, 1, 245, 11)),
  (58, (.ifCond .ne 11, 61, 69, 0, 0, 0)),
  (61, (.aload_n 0, 62, 0, 0, 0, 0)),
  (62, (.iconst 1, 63, 0, 0, 0, 0)),
  (63, (.invokevirtual 161, 66, 197, 1, 247, 11)),
  (66, (.goto 13, 69, 79, 0, 0, 0)),
  (69, (.iload_n 1, 70, 0, 0, 0, 0)),
  (70, (.iconst 5, 71, 0, 0, 0, 0)),
  (71, (.if_icmp .ne 8, 74, 79, 0, 0, 0)),
  (74, (.aload_n 0, 75, 0, 0, 0, 0)),
  (75, (.iconst 5, 76, 0, 0, 0, 0)),
  (76, (.invokevirtual 161, 79, 197, 1, 247, 11)),
  (79, (.aload_n 0, 80, 0, 0, 0, 0)),
  (80, (.getfield 155, 83, 8, 11, 135, 0)),
  (83, (.ifCond .le 4, 86, 87, 0, 0, 0)),
  (86, (.return_, 87, 0, 0, 0, 0)),
  (87, (.aload_n 0, 88, 0, 0, 0, 0)),
  (88, (.bipush 14, 90, 0, 0, 0, 0)),
  (90, (.invokevirtual 167, 93, 204, 1, 254, 11)),
  (93, (.ifCond .eq 19, 96, 112, 0, 0, 0)),
  (96, (.aload_n 0, 97, 0, 0, 0, 0)),
  (97, (.iload_n 1, 98, 0, 0, 0, 0)),
  (98, (.iconst 1, 99, 0, 0, 0, 0)),
  (99, (.iadd, 100, 0, 0, 0, 0)),
  (100, (.invokevirtual 253, 103, 214, 1, 264, 11)),
  (103, (.aload_n 0, 104, 0, 0, 0, 0)),
  (104, (.iconst 3, 105, 0, 0, 0, 0)),
  (105, (.iconst 0, 106, 0, 0, 0, 0)),
  (106, (.invokevirtual 237, 109, 216, 2, 266, 11)),
  (109, (.goto 69, 112, 178, 0, 0, 0)),
  (112, (.aload_n 0, 113, 0, 0, 0, 0)),
  (113, (.bipush 40, 115, 0, 0, 0, 0)),
  (115, (.invokevirtual 247, 118, 217, 1, 267, 11)),
  (118, (.ifCond .eq 19, 121, 137, 0, 0, 0)),
  (121, (.aload_n 0, 122, 0, 0, 0, 0)),
  (122, (.iload_n 1, 123, 0, 0, 0, 0)),
  (123, (.iconst 1, 124, 0, 0, 0, 0)),
  (124, (.iadd, 125, 0, 0, 0, 0)),
  (125, (.invokevirtual 234, 128, 210, 1, 260, 11)),
  (128, (.aload_n 0, 129, 0, 0, 0, 0)),
  (129, (.bipush 41, 131, 0, 0, 0, 0)),
  (131, (.invokevirtual 210, 134, 218, 1, 268, 11)),
  (134, (.goto 44, 137, 178, 0, 0, 0)),
  (137, (.aload_n 0, 138, 0, 0, 0, 0)),
  (138, (.iload_n 2, 139, 0, 0, 0, 0)),
  (139, (.ifCond .eq 7, 142, 146, 0, 0, 0)),
  (142, (.iconst 1, 143, 0, 0, 0, 0)),
  (143, (.goto 4, 146, 147, 0, 0, 0)),
  (146, (.iconst 2, 147, 0, 0, 0, 0)),
  (147, (.iload_n 2, 148, 0, 0, 0, 0)),
  (148, (.ifCond .eq 16, 151, 164, 0, 0, 0)),
  (151, (.aload_n 0, 152, 0, 0, 0, 0)),
  (152, (.getfield 30, 155, 6, 11, 133, 0)),
  (155, (.aload_n 0, 156, 0, 0, 0, 0)),
  (156, (.getfield 152, 159, 7, 11, 134, 0)),
  (159, (.laload, 160, 0, 0, 0, 0)),
  (160, (.l2i, 161, 0, 0, 0, 0)),
  (161, (.goto 4, 164, 165, 0, 0, 0)),
  (164, (.iload_n 3, 165, 0, 0, 0, 0)),
  (165, (.invokevirtual 237, 168, 216, 2, 266, 11)),
  (168, (.aload_n 0, 169, 0, 0, 0, 0)),
  (169, (.dup, 170, 0, 0, 0, 0)),
  (170, (.getfield 152, 173, 7, 11, 134, 0)),
  (173, (.iconst 1, 174, 0, 0, 0, 0)),
  (174, (.iadd, 175, 0, 0, 0, 0)),
  (175, (.putfield 152, 178, 7, 11, 134, 0)),
  (178, (.return_, 179, 0, 0, 0, 0))]
def am_r215 : List (Nat × am_R) := [(0, (.aload_n 0, 1, 0, 0, 0, 0)),
  (1, (.getfield 155, 4, 8, 11, 135, 0)),
  (4, (.ifCond .ne 35, 7, 39, 0, 0, 0)),
  (7, (.aload_n 0, 8, 0, 0, 0, 0)),
  (8, (.getfield 24, 11, 4, 11, 131, 0)),
  (11, (.aload_n 0, 12, 0, 0, 0, 0)),
  (12, (.getfield 152, 15, 7, 11, 134, 0)),
  (15, (.iaload, 16, 0, 0, 0, 0)),
  (16, (.iconst 3, 17, 0, 0, 0, 0)),
  (17, (.if_icmp .ne 22, 20, 39, 0, 0, 0)),
  (20, (.aload_n 0, 21, 0, 0, 0, 0)),
  (21, (.getfield 30, 24, 6, 11, 133, 0)),
  (24, (.aload_n 0, 25, 0, 0, 0, 0)),
  (25, (.getfield 152, 28, 7, 11, 134, 0)),
  (28, (.laload, 29, 0, 0, 0, 0)),
  (29, (.iload_n 1, 30, 0, 0, 0, 0)),
  (30, (.i2l, 31, 0, 0, 0, 0)),
  (31, (.lcmp, 32, 0, 0, 0, 0)),
  (32, (.ifCond .ne 7, 35, 39, 0, 0, 0)),
  (35, (.iconst 1, 36, 0, 0, 0, 0)),
  (36, (.goto 4, 39, 40, 0, 0, 0)),
  (39, (.iconst 0, 40, 0, 0, 0, 0)),
  (40, (.ireturn, 41, 0, 0, 0, 0))]
def am_r216 : List (Nat × am_R) := [(0, (.aload_n 0, 1, 0, 0, 0, 0)),
  (1, (.getfield 82, 4, 11, 11, 138, 0)),
  (4, (.sipush 1100, 7, 0, 0, 0, 0)),
  (7, (.aload_n 0, 8, 0, 0, 0, 0)),
  (8, (.getfield 201, 11, 13, 11, 140, 0)),
  (11, (.iadd, 12, 0, 0, 0, 0)),
  (12, (.iload_n 1, 13, 0, 0, 0, 0)),
  (13, (.iastore, 14, 0, 0, 0, 0)),
  (14, (.aload_n 0, 15, 0, 0, 0, 0)),
  (15, (.getfield 85, 18, 12, 11, 139, 0)),
  (18, (.sipush 1100, 21, 0, 0, 0, 0)),
  (21, (.aload_n 0, 22, 0, 0, 0, 0)),
  (22, (.getfield 201, 25, 13, 11, 140, 0)),
  (25, (.iadd, 26, 0, 0, 0, 0)),
  (26, (.iload_n 2, 27, 0, 0, 0, 0)),
  (27, (.iastore, 28, 0, 0, 0, 0)),
  (28, (.aload_n 0, 29, 0, 0, 0, 0)),
  (29, (.dup, 30, 0, 0, 0, 0)),
  (30, (.getfield 201, 33, 13, 11, 140, 0)),
  (33, (.iconst 1, 34, 0, 0, 0, 0)),
  (34, (.iadd, 35, 0, 0, 0, 0)),
  (35, (.putfield 201, 38, 13, 11, 140, 0)),
  (38, (.return_, 39, 0, 0, 0, 0))]
def am_r217 : List (Nat × am_R) := [(0, (.aload_n 0, 1, 0, 0, 0, 0)),
  (1, (.iload_n 1, 2, 0, 0, 0, 0)),
  (2, (.invokevirtual 158, 5, 215, 1, 265, 11)),
  (5, (.istore_n 2, 6, 0, 0, 0, 0)),
  (6, (.aload_n 0, 7, 0, 0, 0, 0)),
  (7, (.dup, 8, 0, 0, 0, 0)),
  (8, (.getfield 152, 11, 7, 11, 134, 0)),
  (11, (.iload_n 2, 12, 0, 0, 0, 0)),
  (12, (.ifCond .eq 7, 15, 19, 0, 0, 0)),
  (15, (.iconst 1, 16, 0, 0, 0, 0)),
  (16, (.goto 4, 19, 20, 0, 0, 0)),
  (19, (.iconst 0, 20, 0, 0, 0, 0)),
  (20, (.iadd, 21, 0, 0, 0, 0)),
  (21, (.putfield 152, 24, 7, 11, 134, 0)),
  (24, (.iload_n 2, 25, 0, 0, 0, 0)),
  (25, (.ireturn, 26, 0, 0, 0, 0))]
def am_r218 : List (Nat × am_R) := [(0, (.aload_n 0, 1, 0, 0, 0, 0)),
  (1, (.iload_n 1, 2, 0, 0, 0, 0)),
  (2, (.invokevirtual 158, 5, 215, 1, 265, 11)),
  (5, (.ifCond .eq 16, 8, 21, 0, 0, 0)),
  (8, (.aload_n 0, 9, 0, 0, 0, 0)),
  (9, (.dup, 10, 0, 0, 0, 0)),
  (10, (.getfield 152, 13, 7, 11, 134, 0)),
  (13, (.iconst 1, 14, 0, 0, 0, 0)),
  (14, (.iadd, 15, 0, 0, 0, 0)),
  (15, (.putfield 152, 18, 7, 11, 134, 0)),
  (18, (.goto 8, 21, 26, 0, 0, 0)),
  (21, (.aload_n 0, 22, 0, 0, 0, 0)),
  (22, (.iconst 1, 23, 0, 0, 0, 0)),
  (23, (.invokevirtual 161, 26, 197, 1, 247, 11)),
  (26, (.return_, 27, 0, 0, 0, 0))]
def am_r219 : List (Nat × am_R) := [(0, (.aload_n 0, 1, 0, 0, 0, 0)),
  (1, (.iconst 0, 2, 0, 0, 0, 0)),
  (2, (.putfield 1, 5, 0, 11, 127, 0)),
  (5, (.aload_n 0, 6, 0, 0, 0, 0)),
  (6, (.invokevirtual 198, 9, 189, 0, 239, 11)),
  (9, (.iconst 0, 10, 0, 0, 0, 0)),
  (10, (.istore_n 1, 11, 0, 0, 0, 0)),
  (11, (.aload_n 0, 12, 0, 0, 0, 0)),
  (12, (.getfield 155, 15, 8, 11, 135, 0)),
  (15, (.ifCond .ne 143, 18, 158, 0, 0, 0)),
  (18, (.aload_n 0, 19, 0, 0, 0, 0)),
  (19, (.getfield 24, 22, 4, 11, 131, 0)),
  (22, (.aload_n 0, 23, 0, 0, 0, 0)),
  (23, (.getfield 152, 26, 7, 11, 134, 0)),
  (26, (.iaload, 27, 0, 0, 0, 0)),
  (27, (.ifCond .eq 131, 30, 158, 0, 0, 0)),
  (30, (.aload_n 0, 31, 0, 0, 0, 0)),
  (31, (.iconst 1, 32, 0, 0, 0, 0)),
  (32, (.invokevirtual 164, 35, 195, 1, 245, 11)),
  (35, (.ifCond .eq 7, 38, 42, 0, 0, 0)),
  (38, (.iconst 2, 39, 0, 0, 0, 0)),
  (39, (.goto 10, 42, 49, 0, 0, 0)),
  (42, (.aload_n 0, 43, 0, 0, 0, 0)),
  (43, (.bipush 8, 45, 0, 0, 0, 0)),
  (45, (.iconst 2, 46, 0, 0, 0, 0)),
  (46, (.invokevirtual 177, 49, 199, 2, 249, 11)),
  (49, (.istore_n 2, 50, 0, 0, 0, 0)),
  (50, (.iload_n 2, 51, 0, 0, 0, 0)),
  (51, (.ifCond .ge 11, 54, 62, 0, 0, 0)),
  (54, (.aload_n 0, 55, 0, 0, 0, 0)),
  (55, (.iconst 1, 56, 0, 0, 0, 0)),
  (56, (.invokevirtual 161, 59, 197, 1, 247, 11)),
  (59, (.goto 90, 62, 149, 0, 0, 0)),
  (62, (.iload_n 1, 63, 0, 0, 0, 0)),
  (63, (.bipush 40, 65, 0, 0, 0, 0)),
  (65, (.if_icmp .ne 11, 68, 76, 0, 0, 0)),
  (68, (.aload_n 0, 69, 0, 0, 0, 0)),
  (69, (.iconst 5, 70, 0, 0, 0, 0)),
  (70, (.invokevirtual 161, 73, 197, 1, 247, 11)),
  (73, (.goto 76, 76, 149, 0, 0, 0)),
  (76, (.aload_n 0, 77, 0, 0, 0, 0)),
  (77, (.dup, 78, 0, 0, 0, 0)),
  (78, (.getfield 152, 81, 7, 11, 134, 0)),
  (81, (.iconst 1, 82, 0, 0, 0, 0)),
  (82, (.iadd, 83, 0, 0, 0, 0)),
  (83, (.putfield 152, 86, 7, 11, 134, 0)),
  (86, (.bipush 125, 88, 0, 0, 0, 0)),
  (88, (.iconst 3, 89, 0, 0, 0, 0)),
  (89, (.iload_n 1, 90, 0, 0, 0, 0)),
  (90, (.imul, 91, 0, 0, 0, 0)),
  (91, (.iadd, 92, 0, 0, 0, 0)),
  (92, (.istore_n 3, 93, 0, 0, 0, 0)),
  (93, (.aload_n 0, 94, 0, 0, 0, 0)),
  (94, (.getfield 100, 97, 21, 11, 148, 0)),
  (97, (.iload_n 3, 98, 0, 0, 0, 0)),
  (98, (.iload_n 2, 99, 0, 0, 0, 0)),
  (99, (.iastore, 100, 0, 0, 0, 0)),
  (100, (.aload_n 0, 101, 0, 0, 0, 0)),
  (101, (.getfield 100, 104, 21, 11, 148, 0)),
  (104, (.iload_n 3, 105, 0, 0, 0, 0)),
  (105, (.iconst 1, 106, 0, 0, 0, 0)),
  (106, (.iadd, 107, 0, 0, 0, 0)),
  (107, (.iload_n 2, 108, 0, 0, 0, 0)),
  (108, (.ifCond .ne 7, 111, 115, 0, 0, 0)),
  (111, (.iconst 0, 112, 0, 0, 0, 0)),
  (112, (.goto 10, 115, 122, 0, 0, 0)),
  (115, (.aload_n 0, 116, 0, 0, 0, 0)),
  (116, (.iconst 0, 117, 0, 0, 0, 0)),
  (117, (.iconst 0, 118, 0, 0, 0, 0)),
  (118, (.iconst 0, 119, 0, 0, 0, 0)),
  (119, (.invokevirtual 224, 122, 206, 3, 256, 11)),
  (122, (.iastore, 123, 0, 0, 0, 0)),
  (123, (.aload_n 0, 124, 0, 0, 0, 0)),
  (124, (.getfield 100, 127, 21, 11, 148, 0)),
  (127, (.iload_n 3, 128, 0, 0, 0, 0)),
  (128, (.iconst 2, 129, 0, 0, 0, 0)),
  (129, (.iadd, 130, 0, 0, 0, 0)),
  (130, (.iload_n 2, 131, 0, 0, 0, 0)),
  (131, (.iconst 2, 132, 0, 0, 0, 0)),
  (132, (.if_icmp .ne 12, 135, 144, 0, 0, 0)),
  (135, (.aload_n 0, 136, 0, 0, 0, 0)),
  (136, (.iconst 0, 137, 0, 0, 0, 0)),
  (137, (.iconst 4, 138, 0, 0, 0, 0)),
  (138, (.invokevirtual 173, 141, 205, 2, 255, 11)),
  (141, (.goto 4, 144, 145, 0, 0, 0)),
  (144, (.iconst 0, 145, 0, 0, 0, 0)),
  (145, (.iastore, 146, 0, 0, 0, 0)),
  (146, (.iinc 1 1, 149, 0, 0, 0, 0)),
  (149, (.aload_n 0, 150, 0, 0, 0, 0)),
  (150, (.bipush 59, 152, 0, 0, 0, 0)),
  (152, (.invokevirtual 210, 155, 218, 1, 268, 11)),
  (155, (.goto (-144), 158, 11, 0, 0, 0)),
  (158, (.aload_n 0, 159, 0, 0, 0, 0)),
  (159, (.getfield 155, 162, 8, 11, 135, 0)),
  (162, (.ifCond .le 8, 165, 170, 0, 0, 0)),
  (165, (.aload_n 0, 166, 0, 0, 0, 0)),
  (166, (.getfield 155, 169, 8, 11, 135, 0)),
  (169, (.ireturn, 170, 0, 0, 0, 0)),
  (170, (.aload_n 0, 171, 0, 0, 0, 0)),
  (171, (.getfield 100, 174, 21, 11, 148, 0)),
  (174, (.iconst 0, 175, 0, 0, 0, 0)),
  (175, (.iload_n 1, 176, 0, 0, 0, 0)),
  (176, (.iastore, 177, 0, 0, 0, 0)),
  (177, (.iconst 0, 178, 0, 0, 0, 0)),
  (178, (.istore_n 2, 179, 0, 0, 0, 0)),
  (179, (.iload_n 2, 180, 0, 0, 0, 0)),
  (180, (.iconst 3, 181, 0, 0, 0, 0)),
  (181, (.iload_n 1, 182, 0, 0, 0, 0)),
  (182, (.imul, 183, 0, 0, 0, 0)),
  (183, (.if_icmp .ge 26, 186, 209, 0, 0, 0)),
  (186, (.aload_n 0, 187, 0, 0, 0, 0)),
  (187, (.getfield 100, 190, 21, 11, 148, 0)),
  (190, (.iconst 1, 191, 0, 0, 0, 0)),
  (191, (.iload_n 2, 192, 0, 0, 0, 0)),
  (192, (.iadd, 193, 0, 0, 0, 0)),
  (193, (.aload_n 0, 194, 0, 0, 0, 0)),
  (194, (.getfield 100, 197, 21, 11, 148, 0)),
  (197, (.bipush 125, 199, 0, 0, 0, 0)),
  (199, (.iload_n 2, 200, 0, 0, 0, 0)),
  (200, (.iadd, 201, 0, 0, 0, 0)),
  (201, (.iaload, 202, 0, 0, 0, 0)),
  (202, (.iastore, 203, 0, 0, 0, 0)),
  (203, (.iinc 2 1, 206, 0, 0, 0, 0)),
  (206, (.goto (-27), 209, 179, 0, 0, 0)),
  (209, (.iconst 0, 210, 0, 0, 0, 0)),
  (210, (.ireturn, 211, 0, 0, 0, 0))]
def am_r220 : List (Nat × am_R) := [(0, (.aload_n 0, 1, 0, 0, 0, 0)),
  (1, (.iconst 0, 2, 0, 0, 0, 0)),
  (2, (.putfield 1, 5, 0, 11, 127, 0)),
  (5, (.aload_n 0, 6, 0, 0, 0, 0)),
  (6, (.iload_n 1, 7, 0, 0, 0, 0)),
  (7, (.invokevirtual 313, 10, 221, 1, 271, 11)),
  (10, (.ifCond .eq 12, 13, 22, 0, 0, 0)),
  (13, (.iload_n 2, 14, 0, 0, 0, 0)),
  (14, (.iconst 0, 15, 0, 0, 0, 0)),
  (15, (.iconst 4, 16, 0, 0, 0, 0)),
  (16, (.invokestatic 194, 19, 207, 3, 257, 0)),
  (19, (.ifCond .ne 6, 22, 25, 0, 0, 0)),
  (22, (.bipush (-2), 24, 0, 0, 0, 0)),
  (24, (.ireturn, 25, 0, 0, 0, 0)),
  (25, (.iload_n 2, 26, 0, 0, 0, 0)),
  (26, (.ifCond .ne 12, 29, 38, 0, 0, 0)),
  (29, (.aload_n 0, 30, 0, 0, 0, 0)),
  (30, (.iload_n 1, 31, 0, 0, 0, 0)),
  (31, (.iconst 0, 32, 0, 0, 0, 0)),
  (32, (.invokevirtual 263, 35, 187, 2, 237, 11)),
  (35, (.goto 55, 38, 90, 0, 0, 0)),
  (38, (.iload_n 2, 39, 0, 0, 0, 0)),
  (39, (.iconst 1, 40, 0, 0, 0, 0)),
  (40, (.if_icmp .ne 14, 43, 54, 0, 0, 0)),
  (43, (.aload_n 0, 44, 0, 0, 0, 0)),
  (44, (.getfield 109, 47, 24, 11, 151, 0)),
  (47, (.iconst 2, 48, 0, 0, 0, 0)),
  (48, (.iload_n 1, 49, 0, 0, 0, 0)),
  (49, (.iadd, 50, 0, 0, 0, 0)),
  (50, (.iaload, 51, 0, 0, 0, 0)),
  (51, (.goto 39, 54, 90, 0, 0, 0)),
  (54, (.iload_n 2, 55, 0, 0, 0, 0)),
  (55, (.iconst 2, 56, 0, 0, 0, 0)),
  (56, (.if_icmp .ne 11, 59, 67, 0, 0, 0)),
  (59, (.aload_n 0, 60, 0, 0, 0, 0)),
  (60, (.iload_n 1, 61, 0, 0, 0, 0)),
  (61, (.invokevirtual 316, 64, 222, 1, 272, 11)),
  (64, (.goto 26, 67, 90, 0, 0, 0)),
  (67, (.iload_n 2, 68, 0, 0, 0, 0)),
  (68, (.iconst 3, 69, 0, 0, 0, 0)),
  (69, (.if_icmp .ne 12, 72, 81, 0, 0, 0)),
  (72, (.aload_n 0, 73, 0, 0, 0, 0)),
  (73, (.iload_n 1, 74, 0, 0, 0, 0)),
  (74, (.iconst 2, 75, 0, 0, 0, 0)),
  (75, (.invokevirtual 263, 78, 187, 2, 237, 11)),
  (78, (.goto 12, 81, 90, 0, 0, 0)),
  (81, (.aload_n 0, 82, 0, 0, 0, 0)),
  (82, (.getfield 109, 85, 24, 11, 151, 0)),
  (85, (.bipush 8, 87, 0, 0, 0, 0)),
  (87, (.iload_n 1, 88, 0, 0, 0, 0)),
  (88, (.iadd, 89, 0, 0, 0, 0)),
  (89, (.iaload, 90, 0, 0, 0, 0)),
  (90, (.ireturn, 91, 0, 0, 0, 0))]
def am_r221 : List (Nat × am_R) := [(0, (.iload_n 1, 1, 0, 0, 0, 0)),
  (1, (.ifCond .lt 15, 4, 16, 0, 0, 0)),
  (4, (.iload_n 1, 5, 0, 0, 0, 0)),
  (5, (.aload_n 0, 6, 0, 0, 0, 0)),
  (6, (.invokevirtual 259, 9, 186, 0, 236, 11)),
  (9, (.if_icmp .ge 7, 12, 16, 0, 0, 0)),
  (12, (.iconst 1, 13, 0, 0, 0, 0)),
  (13, (.goto 4, 16, 17, 0, 0, 0)),
  (16, (.iconst 0, 17, 0, 0, 0, 0)),
  (17, (.ireturn, 18, 0, 0, 0, 0))]
def am_r222 : List (Nat × am_R) := [(0, (.aload_n 0, 1, 0, 0, 0, 0)),
  (1, (.getfield 109, 4, 24, 11, 151, 0)),
  (4, (.iconst 0, 5, 0, 0, 0, 0)),
  (5, (.iaload, 6, 0, 0, 0, 0)),
  (6, (.aload_n 0, 7, 0, 0, 0, 0)),
  (7, (.iconst 0, 8, 0, 0, 0, 0)),
  (8, (.iload_n 1, 9, 0, 0, 0, 0)),
  (9, (.invokevirtual 288, 12, 223, 2, 273, 11)),
  (12, (.aload_n 0, 13, 0, 0, 0, 0)),
  (13, (.aload_n 0, 14, 0, 0, 0, 0)),
  (14, (.getfield 109, 17, 24, 11, 151, 0)),
  (17, (.iconst 0, 18, 0, 0, 0, 0)),
  (18, (.iaload, 19, 0, 0, 0, 0)),
  (19, (.invokevirtual 307, 22, 224, 1, 274, 11)),
  (22, (.invokestatic 291, 25, 225, 3, 275, 0)),
  (25, (.ireturn, 26, 0, 0, 0, 0))]
def am_r223 : List (Nat × am_R) := [(0, (.aload_n 0, 1, 0, 0, 0, 0)),
  (1, (.iload_n 2, 2, 0, 0, 0, 0)),
  (2, (.iconst 0, 3, 0, 0, 0, 0)),
  (3, (.invokevirtual 263, 6, 187, 2, 237, 11)),
  (6, (.iconst 3, 7, 0, 0, 0, 0)),
  (7, (.if_icmp .ne 7, 10, 14, 0, 0, 0)),
  (10, (.iconst 0, 11, 0, 0, 0, 0)),
  (11, (.goto 15, 14, 26, 0, 0, 0)),
  (14, (.aload_n 0, 15, 0, 0, 0, 0)),
  (15, (.getfield 109, 18, 24, 11, 151, 0)),
  (18, (.iload_n 1, 19, 0, 0, 0, 0)),
  (19, (.iconst 2, 20, 0, 0, 0, 0)),
  (20, (.iadd, 21, 0, 0, 0, 0)),
  (21, (.iload_n 2, 22, 0, 0, 0, 0)),
  (22, (.iadd, 23, 0, 0, 0, 0)),
  (23, (.iaload, 24, 0, 0, 0, 0)),
  (24, (.iconst 2, 25, 0, 0, 0, 0)),
  (25, (.isub, 26, 0, 0, 0, 0)),
  (26, (.ireturn, 27, 0, 0, 0, 0))]
def am_r224 : List (Nat × am_R) := [(0, (.aload_n 0, 1, 0, 0, 0, 0)),
  (1, (.getfield 79, 4, 10, 11, 137, 0)),
  (4, (.iconst 2, 5, 0, 0, 0, 0)),
  (5, (.iaload, 6, 0, 0, 0, 0)),
  (6, (.iload_n 1, 7, 0, 0, 0, 0)),
  (7, (.bipush 28, 9, 0, 0, 0, 0)),
  (9, (.irem, 10, 0, 0, 0, 0)),
  (10, (.ishr, 11, 0, 0, 0, 0)),
  (11, (.iconst 1, 12, 0, 0, 0, 0)),
  (12, (.iand, 13, 0, 0, 0, 0)),
  (13, (.ireturn, 14, 0, 0, 0, 0))]
def am_r225 : List (Nat × am_R) := [(0, (.iload_n 2, 1, 0, 0, 0, 0)),
  (1, (.iconst 1, 2, 0, 0, 0, 0)),
  (2, (.if_icmp .ne 10, 5, 12, 0, 0, 0)),
  (5, (.iload_n 0, 6, 0, 0, 0, 0)),
  (6, (.bipush 7, 8, 0, 0, 0, 0)),
  (8, (.irem, 9, 0, 0, 0, 0)),
  (9, (.goto 12, 12, 21, 0, 0, 0)),
  (12, (.iload_n 0, 13, 0, 0, 0, 0)),
  (13, (.iload_n 1, 14, 0, 0, 0, 0)),
  (14, (.iadd, 15, 0, 0, 0, 0)),
  (15, (.bipush 7, 17, 0, 0, 0, 0)),
  (17, (.iadd, 18, 0, 0, 0, 0)),
  (18, (.bipush 7, 20, 0, 0, 0, 0)),
  (20, (.irem, 21, 0, 0, 0, 0)),
  (21, (.ireturn, 22, 0, 0, 0, 0))]
def am_r226 : List (Nat × am_R) := [(0, (.aload_n 0, 1, 0, 0, 0, 0)),
  (1, (.iconst 0, 2, 0, 0, 0, 0)),
  (2, (.putfield 1, 5, 0, 11, 127, 0)),
  (5, (.aload_n 0, 6, 0, 0, 0, 0)),
  (6, (.iload_n 1, 7, 0, 0, 0, 0)),
  (7, (.invokevirtual 319, 10, 227, 1, 277, 11)),
  (10, (.ifCond .eq 12, 13, 22, 0, 0, 0)),
  (13, (.iload_n 2, 14, 0, 0, 0, 0)),
  (14, (.iconst 0, 15, 0, 0, 0, 0)),
  (15, (.iconst 4, 16, 0, 0, 0, 0)),
  (16, (.invokestatic 194, 19, 207, 3, 257, 0)),
  (19, (.ifCond .ne 6, 22, 25, 0, 0, 0)),
  (22, (.bipush (-2), 24, 0, 0, 0, 0)),
  (24, (.ireturn, 25, 0, 0, 0, 0)),
  (25, (.iload_n 2, 26, 0, 0, 0, 0)),
  (26, (.iconst 2, 27, 0, 0, 0, 0)),
  (27, (.if_icmp .ge 12, 30, 39, 0, 0, 0)),
  (30, (.aload_n 0, 31, 0, 0, 0, 0)),
  (31, (.iload_n 1, 32, 0, 0, 0, 0)),
  (32, (.iload_n 2, 33, 0, 0, 0, 0)),
  (33, (.invokevirtual 269, 36, 184, 2, 234, 11)),
  (36, (.goto 42, 39, 78, 0, 0, 0)),
  (39, (.iload_n 2, 40, 0, 0, 0, 0)),
  (40, (.iconst 2, 41, 0, 0, 0, 0)),
  (41, (.if_icmp .ne 11, 44, 52, 0, 0, 0)),
  (44, (.aload_n 0, 45, 0, 0, 0, 0)),
  (45, (.iload_n 1, 46, 0, 0, 0, 0)),
  (46, (.invokevirtual 322, 49, 228, 1, 278, 11)),
  (49, (.goto 29, 52, 78, 0, 0, 0)),
  (52, (.iload_n 2, 53, 0, 0, 0, 0)),
  (53, (.iconst 3, 54, 0, 0, 0, 0)),
  (54, (.if_icmp .ne 15, 57, 69, 0, 0, 0)),
  (57, (.aload_n 0, 58, 0, 0, 0, 0)),
  (58, (.getfield 109, 61, 24, 11, 151, 0)),
  (61, (.bipush 14, 63, 0, 0, 0, 0)),
  (63, (.iload_n 1, 64, 0, 0, 0, 0)),
  (64, (.iadd, 65, 0, 0, 0, 0)),
  (65, (.iaload, 66, 0, 0, 0, 0)),
  (66, (.goto 12, 69, 78, 0, 0, 0)),
  (69, (.aload_n 0, 70, 0, 0, 0, 0)),
  (70, (.getfield 109, 73, 24, 11, 151, 0)),
  (73, (.bipush 19, 75, 0, 0, 0, 0)),
  (75, (.iload_n 1, 76, 0, 0, 0, 0)),
  (76, (.iadd, 77, 0, 0, 0, 0)),
  (77, (.iaload, 78, 0, 0, 0, 0)),
  (78, (.ireturn, 79, 0, 0, 0, 0))]
def am_r227 : List (Nat × am_R) := [(0, (.iload_n 1, 1, 0, 0, 0, 0)),
  (1, (.ifCond .lt 15, 4, 16, 0, 0, 0)),
  (4, (.iload_n 1, 5, 0, 0, 0, 0)),
  (5, (.aload_n 0, 6, 0, 0, 0, 0)),
  (6, (.invokevirtual 266, 9, 183, 0, 233, 11)),
  (9, (.if_icmp .ge 7, 12, 16, 0, 0, 0)),
  (12, (.iconst 1, 13, 0, 0, 0, 0)),
  (13, (.goto 4, 16, 17, 0, 0, 0)),
  (16, (.iconst 0, 17, 0, 0, 0, 0)),
  (17, (.ireturn, 18, 0, 0, 0, 0))]
def am_r228 : List (Nat × am_R) := [(0, (.iconst 0, 1, 0, 0, 0, 0)),
  (1, (.istore_n 2, 2, 0, 0, 0, 0)),
  (2, (.iconst 0, 3, 0, 0, 0, 0)),
  (3, (.istore_n 3, 4, 0, 0, 0, 0)),
  (4, (.iload_n 3, 5, 0, 0, 0, 0)),
  (5, (.aload_n 0, 6, 0, 0, 0, 0)),
  (6, (.invokevirtual 259, 9, 186, 0, 236, 11)),
  (9, (.if_icmp .ge 28, 12, 37, 0, 0, 0)),
  (12, (.iload_n 2, 13, 0, 0, 0, 0)),
  (13, (.aload_n 0, 14, 0, 0, 0, 0)),
  (14, (.iload_n 3, 15, 0, 0, 0, 0)),
  (15, (.iload_n 1, 16, 0, 0, 0, 0)),
  (16, (.invokevirtual 284, 19, 229, 2, 279, 11)),
  (19, (.ifCond .eq 9, 22, 28, 0, 0, 0)),
  (22, (.iconst 1, 23, 0, 0, 0, 0)),
  (23, (.iload_n 3, 24, 0, 0, 0, 0)),
  (24, (.ishl, 25, 0, 0, 0, 0)),
  (25, (.goto 4, 28, 29, 0, 0, 0)),
  (28, (.iconst 0, 29, 0, 0, 0, 0)),
  (29, (.ior, 30, 0, 0, 0, 0)),
  (30, (.istore_n 2, 31, 0, 0, 0, 0)),
  (31, (.iinc 3 1, 34, 0, 0, 0, 0)),
  (34, (.goto (-30), 37, 4, 0, 0, 0)),
  (37, (.iload_n 2, 38, 0, 0, 0, 0)),
  (38, (.ireturn, 39, 0, 0, 0, 0))]
def am_r229 : List (Nat × am_R) := [(0, (.aload_n 0, 1, 0, 0, 0, 0)),
  (1, (.iload_n 1, 2, 0, 0, 0, 0)),
  (2, (.iconst 2, 3, 0, 0, 0, 0)),
  (3, (.invokevirtual 263, 6, 187, 2, 237, 11)),
  (6, (.iload_n 2, 7, 0, 0, 0, 0)),
  (7, (.ishr, 8, 0, 0, 0, 0)),
  (8, (.iconst 1, 9, 0, 0, 0, 0)),
  (9, (.iand, 10, 0, 0, 0, 0)),
  (10, (.iconst 1, 11, 0, 0, 0, 0)),
  (11, (.if_icmp .ne 7, 14, 18, 0, 0, 0)),
  (14, (.iconst 1, 15, 0, 0, 0, 0)),
  (15, (.goto 4, 18, 19, 0, 0, 0)),
  (18, (.iconst 0, 19, 0, 0, 0, 0)),
  (19, (.ireturn, 20, 0, 0, 0, 0))]
def am_r230 : List (Nat × am_R) := [(0, (.aload_n 0, 1, 0, 0, 0, 0)),
  (1, (.iconst 0, 2, 0, 0, 0, 0)),
  (2, (.putfield 1, 5, 0, 11, 127, 0)),
  (5, (.aload_n 0, 6, 0, 0, 0, 0)),
  (6, (.invokevirtual 325, 9, 231, 0, 281, 11)),
  (9, (.aload_n 0, 10, 0, 0, 0, 0)),
  (10, (.iconst 0, 11, 0, 0, 0, 0)),
  (11, (.invokevirtual 328, 14, 233, 1, 283, 11)),
  (14, (.ireturn, 15, 0, 0, 0, 0))]
def am_r231 : List (Nat × am_R) := [(0, (.aload_n 0, 1, 0, 0, 0, 0)),
  (1, (.getfield 278, 4, 25, 11, 152, 0)),
  (4, (.bipush 16, 6, 0, 0, 0, 0)),
  (6, (.if_icmp .ne 47, 9, 53, 0, 0, 0)),
  (9, (.iconst 1, 10, 0, 0, 0, 0)),
  (10, (.istore_n 1, 11, 0, 0, 0, 0)),
  (11, (.iload_n 1, 12, 0, 0, 0, 0)),
  (12, (.bipush 16, 14, 0, 0, 0, 0)),
  (14, (.if_icmp .ge 29, 17, 43, 0, 0, 0)),
  (17, (.aload_n 0, 18, 0, 0, 0, 0)),
  (18, (.bipush 49, 20, 0, 0, 0, 0)),
  (20, (.iconst 5, 21, 0, 0, 0, 0)),
  (21, (.iload_n 1, 22, 0, 0, 0, 0)),
  (22, (.iadd, 23, 0, 0, 0, 0)),
  (23, (.imul, 24, 0, 0, 0, 0)),
  (24, (.bipush 49, 26, 0, 0, 0, 0)),
  (26, (.iconst 5, 27, 0, 0, 0, 0)),
  (27, (.iload_n 1, 28, 0, 0, 0, 0)),
  (28, (.iadd, 29, 0, 0, 0, 0)),
  (29, (.iconst 1, 30, 0, 0, 0, 0)),
  (30, (.isub, 31, 0, 0, 0, 0)),
  (31, (.imul, 32, 0, 0, 0, 0)),
  (32, (.bipush 24, 34, 0, 0, 0, 0)),
  (34, (.invokevirtual 281, 37, 232, 3, 282, 11)),
  (37, (.iinc 1 1, 40, 0, 0, 0, 0)),
  (40, (.goto (-29), 43, 11, 0, 0, 0)),
  (43, (.aload_n 0, 44, 0, 0, 0, 0)),
  (44, (.dup, 45, 0, 0, 0, 0)),
  (45, (.getfield 278, 48, 25, 11, 152, 0)),
  (48, (.iconst 1, 49, 0, 0, 0, 0)),
  (49, (.isub, 50, 0, 0, 0, 0)),
  (50, (.putfield 278, 53, 25, 11, 152, 0)),
  (53, (.aload_n 0, 54, 0, 0, 0, 0)),
  (54, (.iconst 0, 55, 0, 0, 0, 0)),
  (55, (.bipush 49, 57, 0, 0, 0, 0)),
  (57, (.iconst 5, 58, 0, 0, 0, 0)),
  (58, (.aload_n 0, 59, 0, 0, 0, 0)),
  (59, (.getfield 278, 62, 25, 11, 152, 0)),
  (62, (.iadd, 63, 0, 0, 0, 0)),
  (63, (.imul, 64, 0, 0, 0, 0)),
  (64, (.bipush 24, 66, 0, 0, 0, 0)),
  (66, (.invokevirtual 281, 69, 232, 3, 282, 11)),
  (69, (.aload_n 0, 70, 0, 0, 0, 0)),
  (70, (.dup, 71, 0, 0, 0, 0)),
  (71, (.getfield 278, 74, 25, 11, 152, 0)),
  (74, (.iconst 1, 75, 0, 0, 0, 0)),
  (75, (.iadd, 76, 0, 0, 0, 0)),
  (76, (.putfield 278, 79, 25, 11, 152, 0)),
  (79, (.return_, 80, 0, 0, 0, 0))]
def am_r232 : List (Nat × am_R) := [(0, (.iconst 0, 1, 0, 0, 0, 0)),
  (1, (.istore 4, 3, 0, 0, 0, 0)),
  (3, (.iload 4, 5, 0, 0, 0, 0)),
  (5, (.iload_n 3, 6, 0, 0, 0, 0)),
  (6, (.if_icmp .ge 27, 9, 33, 0, 0, 0)),
  (9, (.aload_n 0, 10, 0, 0, 0, 0)),
  (10, (.getfield 109, 13, 24, 11, 151, 0)),
  (13, (.iload_n 2, 14, 0, 0, 0, 0)),
  (14, (.iload 4, 16, 0, 0, 0, 0)),
  (16, (.iadd, 17, 0, 0, 0, 0)),
  (17, (.aload_n 0, 18, 0, 0, 0, 0)),
  (18, (.getfield 109, 21, 24, 11, 151, 0)),
  (21, (.iload_n 1, 22, 0, 0, 0, 0)),
  (22, (.iload 4, 24, 0, 0, 0, 0)),
  (24, (.iadd, 25, 0, 0, 0, 0)),
  (25, (.iaload, 26, 0, 0, 0, 0)),
  (26, (.iastore, 27, 0, 0, 0, 0)),
  (27, (.iinc 4 1, 30, 0, 0, 0, 0)),
  (30, (.goto (-27), 33, 3, 0, 0, 0)),
  (33, (.return_, 34, 0, 0, 0, 0))]
def am_r233 : List (Nat × am_R) := [(0, (.aload_n 0, 1, 0, 0, 0, 0)),
  (1, (.iload_n 1, 2, 0, 0, 0, 0)),
  (2, (.aload_n 0, 3, 0, 0, 0, 0)),
  (3, (.aload_n 0, 4, 0, 0, 0, 0)),
  (4, (.getfield 109, 7, 24, 11, 151, 0)),
  (7, (.iload_n 1, 8, 0, 0, 0, 0)),
  (8, (.iconst 0, 9, 0, 0, 0, 0)),
  (9, (.iadd, 10, 0, 0, 0, 0)),
  (10, (.iaload, 11, 0, 0, 0, 0)),
  (11, (.iconst 1, 12, 0, 0, 0, 0)),
  (12, (.iadd, 13, 0, 0, 0, 0)),
  (13, (.invokevirtual 307, 16, 224, 1, 274, 11)),
  (16, (.invokevirtual 310, 19, 234, 2, 284, 11)),
  (19, (.ireturn, 20, 0, 0, 0, 0))]
def am_r234 : List (Nat × am_R) := [(0, (.aload_n 0, 1, 0, 0, 0, 0)),
  (1, (.getfield 109, 4, 24, 11, 151, 0)),
  (4, (.iload_n 1, 5, 0, 0, 0, 0)),
  (5, (.iconst 0, 6, 0, 0, 0, 0)),
  (6, (.iadd, 7, 0, 0, 0, 0)),
  (7, (.dup2, 8, 0, 0, 0, 0)),
  (8, (.iaload, 9, 0, 0, 0, 0)),
  (9, (.iconst 1, 10, 0, 0, 0, 0)),
  (10, (.iadd, 11, 0, 0, 0, 0)),
  (11, (.iastore, 12, 0, 0, 0, 0)),
  (12, (.aload_n 0, 13, 0, 0, 0, 0)),
  (13, (.iconst 0, 14, 0, 0, 0, 0)),
  (14, (.putfield 294, 17, 28, 11, 155, 0)),
  (17, (.iconst 0, 18, 0, 0, 0, 0)),
  (18, (.istore_n 3, 19, 0, 0, 0, 0)),
  (19, (.iload_n 3, 20, 0, 0, 0, 0)),
  (20, (.aload_n 0, 21, 0, 0, 0, 0)),
  (21, (.invokevirtual 259, 24, 186, 0, 236, 11)),
  (24, (.if_icmp .ge 103, 27, 127, 0, 0, 0)),
  (27, (.aload_n 0, 28, 0, 0, 0, 0)),
  (28, (.getfield 103, 31, 22, 11, 149, 0)),
  (31, (.iconst 0, 32, 0, 0, 0, 0)),
  (32, (.aload_n 0, 33, 0, 0, 0, 0)),
  (33, (.iload_n 1, 34, 0, 0, 0, 0)),
  (34, (.iload_n 3, 35, 0, 0, 0, 0)),
  (35, (.invokevirtual 288, 38, 223, 2, 273, 11)),
  (38, (.iastore, 39, 0, 0, 0, 0)),
  (39, (.aload_n 0, 40, 0, 0, 0, 0)),
  (40, (.getfield 103, 43, 22, 11, 149, 0)),
  (43, (.iconst 1, 44, 0, 0, 0, 0)),
  (44, (.aload_n 0, 45, 0, 0, 0, 0)),
  (45, (.getfield 109, 48, 24, 11, 151, 0)),
  (48, (.iload_n 1, 49, 0, 0, 0, 0)),
  (49, (.iconst 0, 50, 0, 0, 0, 0)),
  (50, (.iadd, 51, 0, 0, 0, 0)),
  (51, (.iaload, 52, 0, 0, 0, 0)),
  (52, (.bipush 7, 54, 0, 0, 0, 0)),
  (54, (.idiv, 55, 0, 0, 0, 0)),
  (55, (.iastore, 56, 0, 0, 0, 0)),
  (56, (.aload_n 0, 57, 0, 0, 0, 0)),
  (57, (.getfield 103, 60, 22, 11, 149, 0)),
  (60, (.iconst 2, 61, 0, 0, 0, 0)),
  (61, (.aload_n 0, 62, 0, 0, 0, 0)),
  (62, (.getfield 109, 65, 24, 11, 151, 0)),
  (65, (.iload_n 1, 66, 0, 0, 0, 0)),
  (66, (.bipush 8, 68, 0, 0, 0, 0)),
  (68, (.iadd, 69, 0, 0, 0, 0)),
  (69, (.iload_n 3, 70, 0, 0, 0, 0)),
  (70, (.iadd, 71, 0, 0, 0, 0)),
  (71, (.iaload, 72, 0, 0, 0, 0)),
  (72, (.invokestatic 297, 75, 235, 1, 285, 0)),
  (75, (.iastore, 76, 0, 0, 0, 0)),
  (76, (.aload_n 0, 77, 0, 0, 0, 0)),
  (77, (.getfield 103, 80, 22, 11, 149, 0)),
  (80, (.iconst 3, 81, 0, 0, 0, 0)),
  (81, (.iload_n 2, 82, 0, 0, 0, 0)),
  (82, (.iastore, 83, 0, 0, 0, 0)),
  (83, (.aload_n 0, 84, 0, 0, 0, 0)),
  (84, (.dup, 85, 0, 0, 0, 0)),
  (85, (.getfield 294, 88, 28, 11, 155, 0)),
  (88, (.aload_n 0, 89, 0, 0, 0, 0)),
  (89, (.getfield 79, 92, 10, 11, 137, 0)),
  (92, (.iconst 3, 93, 0, 0, 0, 0)),
  (93, (.iaload, 94, 0, 0, 0, 0)),
  (94, (.ifCond .lt 16, 97, 110, 0, 0, 0)),
  (97, (.aload_n 0, 98, 0, 0, 0, 0)),
  (98, (.aload_n 0, 99, 0, 0, 0, 0)),
  (99, (.getfield 79, 102, 10, 11, 137, 0)),
  (102, (.iconst 3, 103, 0, 0, 0, 0)),
  (103, (.iaload, 104, 0, 0, 0, 0)),
  (104, (.invokevirtual 300, 107, 236, 1, 286, 11)),
  (107, (.ifCond .eq 9, 110, 116, 0, 0, 0)),
  (110, (.iconst 1, 111, 0, 0, 0, 0)),
  (111, (.iload_n 3, 112, 0, 0, 0, 0)),
  (112, (.ishl, 113, 0, 0, 0, 0)),
  (113, (.goto 4, 116, 117, 0, 0, 0)),
  (116, (.iconst 0, 117, 0, 0, 0, 0)),
  (117, (.ior, 118, 0, 0, 0, 0)),
  (118, (.putfield 294, 121, 28, 11, 155, 0)),
  (121, (.iinc 3 1, 124, 0, 0, 0, 0)),
  (124, (.goto (-105), 127, 19, 0, 0, 0)),
  (127, (.iconst 0, 128, 0, 0, 0, 0)),
  (128, (.istore_n 3, 129, 0, 0, 0, 0)),
  (129, (.iconst 0, 130, 0, 0, 0, 0)),
  (130, (.istore 4, 132, 0, 0, 0, 0)),
  (132, (.iload 4, 134, 0, 0, 0, 0)),
  (134, (.aload_n 0, 135, 0, 0, 0, 0)),
  (135, (.invokevirtual 266, 138, 183, 0, 233, 11)),
  (138, (.if_icmp .ge 203, 141, 341, 0, 0, 0)),
  (141, (.iconst 0, 142, 0, 0, 0, 0)),
  (142, (.istore 5, 144, 0, 0, 0, 0)),
  (144, (.iconst 0, 145, 0, 0, 0, 0)),
  (145, (.istore 6, 147, 0, 0, 0, 0)),
  (147, (.iload 6, 149, 0, 0, 0, 0)),
  (149, (.aload_n 0, 150, 0, 0, 0, 0)),
  (150, (.invokevirtual 259, 153, 186, 0, 236, 11)),
  (153, (.if_icmp .ge 48, 156, 201, 0, 0, 0)),
  (156, (.iload 5, 158, 0, 0, 0, 0)),
  (158, (.aload_n 0, 159, 0, 0, 0, 0)),
  (159, (.getfield 294, 162, 28, 11, 155, 0)),
  (162, (.iload 6, 164, 0, 0, 0, 0)),
  (164, (.ishr, 165, 0, 0, 0, 0)),
  (165, (.iconst 1, 166, 0, 0, 0, 0)),
  (166, (.iand, 167, 0, 0, 0, 0)),
  (167, (.iconst 1, 168, 0, 0, 0, 0)),
  (168, (.if_icmp .ne 23, 171, 191, 0, 0, 0)),
  (171, (.aload_n 0, 172, 0, 0, 0, 0)),
  (172, (.iload_n 1, 173, 0, 0, 0, 0)),
  (173, (.iload 6, 175, 0, 0, 0, 0)),
  (175, (.iload 4, 177, 0, 0, 0, 0)),
  (177, (.iload_n 2, 178, 0, 0, 0, 0)),
  (178, (.invokevirtual 303, 181, 238, 4, 288, 11)),
  (181, (.ifCond .eq 10, 184, 191, 0, 0, 0)),
  (184, (.iconst 1, 185, 0, 0, 0, 0)),
  (185, (.iload 6, 187, 0, 0, 0, 0)),
  (187, (.ishl, 188, 0, 0, 0, 0)),
  (188, (.goto 4, 191, 192, 0, 0, 0)),
  (191, (.iconst 0, 192, 0, 0, 0, 0)),
  (192, (.ior, 193, 0, 0, 0, 0)),
  (193, (.istore 5, 195, 0, 0, 0, 0)),
  (195, (.iinc 6 1, 198, 0, 0, 0, 0)),
  (198, (.goto (-51), 201, 147, 0, 0, 0)),
  (201, (.aload_n 0, 202, 0, 0, 0, 0)),
  (202, (.getfield 109, 205, 24, 11, 151, 0)),
  (205, (.iload_n 1, 206, 0, 0, 0, 0)),
  (206, (.bipush 19, 208, 0, 0, 0, 0)),
  (208, (.iadd, 209, 0, 0, 0, 0)),
  (209, (.iload 4, 211, 0, 0, 0, 0)),
  (211, (.iadd, 212, 0, 0, 0, 0)),
  (212, (.iload 5, 214, 0, 0, 0, 0)),
  (214, (.iastore, 215, 0, 0, 0, 0)),
  (215, (.iload 5, 217, 0, 0, 0, 0)),
  (217, (.invokestatic 297, 220, 235, 1, 285, 0)),
  (220, (.aload_n 0, 221, 0, 0, 0, 0)),
  (221, (.iload 4, 223, 0, 0, 0, 0)),
  (223, (.iconst 1, 224, 0, 0, 0, 0)),
  (224, (.invokevirtual 269, 227, 184, 2, 234, 11)),
  (227, (.if_icmp .lt 7, 230, 234, 0, 0, 0)),
  (230, (.iconst 1, 231, 0, 0, 0, 0)),
  (231, (.goto 4, 234, 235, 0, 0, 0)),
  (234, (.iconst 0, 235, 0, 0, 0, 0)),
  (235, (.istore 6, 237, 0, 0, 0, 0)),
  (237, (.aload_n 0, 238, 0, 0, 0, 0)),
  (238, (.getfield 109, 241, 24, 11, 151, 0)),
  (241, (.iload_n 1, 242, 0, 0, 0, 0)),
  (242, (.bipush 14, 244, 0, 0, 0, 0)),
  (244, (.iadd, 245, 0, 0, 0, 0)),
  (245, (.iload 4, 247, 0, 0, 0, 0)),
  (247, (.iadd, 248, 0, 0, 0, 0)),
  (248, (.dup2, 249, 0, 0, 0, 0)),
  (249, (.iaload, 250, 0, 0, 0, 0)),
  (250, (.iload 6, 252, 0, 0, 0, 0)),
  (252, (.ifCond .eq 7, 255, 259, 0, 0, 0)),
  (255, (.iconst 1, 256, 0, 0, 0, 0)),
  (256, (.goto 4, 259, 260, 0, 0, 0)),
  (259, (.iconst 0, 260, 0, 0, 0, 0)),
  (260, (.iadd, 261, 0, 0, 0, 0)),
  (261, (.iastore, 262, 0, 0, 0, 0)),
  (262, (.iload_n 3, 263, 0, 0, 0, 0)),
  (263, (.iload 6, 265, 0, 0, 0, 0)),
  (265, (.ifCond .eq 10, 268, 275, 0, 0, 0)),
  (268, (.iconst 1, 269, 0, 0, 0, 0)),
  (269, (.iload 4, 271, 0, 0, 0, 0)),
  (271, (.ishl, 272, 0, 0, 0, 0)),
  (272, (.goto 4, 275, 276, 0, 0, 0)),
  (275, (.iconst 0, 276, 0, 0, 0, 0)),
  (276, (.ior, 277, 0, 0, 0, 0)),
  (277, (.istore_n 3, 278, 0, 0, 0, 0)),
  (278, (.iconst 0, 279, 0, 0, 0, 0)),
  (279, (.istore 7, 281, 0, 0, 0, 0)),
  (281, (.iload 7, 283, 0, 0, 0, 0)),
  (283, (.aload_n 0, 284, 0, 0, 0, 0)),
  (284, (.invokevirtual 259, 287, 186, 0, 236, 11)),
  (287, (.if_icmp .ge 48, 290, 335, 0, 0, 0)),
  (290, (.aload_n 0, 291, 0, 0, 0, 0)),
  (291, (.getfield 109, 294, 24, 11, 151, 0)),
  (294, (.iload_n 1, 295, 0, 0, 0, 0)),
  (295, (.bipush 8, 297, 0, 0, 0, 0)),
  (297, (.iadd, 298, 0, 0, 0, 0)),
  (298, (.iload 7, 300, 0, 0, 0, 0)),
  (300, (.iadd, 301, 0, 0, 0, 0)),
  (301, (.dup2, 302, 0, 0, 0, 0)),
  (302, (.iaload, 303, 0, 0, 0, 0)),
  (303, (.iload 5, 305, 0, 0, 0, 0)),
  (305, (.iload 7, 307, 0, 0, 0, 0)),
  (307, (.ishr, 308, 0, 0, 0, 0)),
  (308, (.iconst 1, 309, 0, 0, 0, 0)),
  (309, (.iand, 310, 0, 0, 0, 0)),
  (310, (.iconst 1, 311, 0, 0, 0, 0)),
  (311, (.if_icmp .ne 15, 314, 326, 0, 0, 0)),
  (314, (.iload 5, 316, 0, 0, 0, 0)),
  (316, (.iconst 1, 317, 0, 0, 0, 0)),
  (317, (.iload 7, 319, 0, 0, 0, 0)),
  (319, (.ishl, 320, 0, 0, 0, 0)),
  (320, (.iconst (-1), 321, 0, 0, 0, 0)),
  (321, (.ixor, 322, 0, 0, 0, 0)),
  (322, (.iand, 323, 0, 0, 0, 0)),
  (323, (.goto 4, 326, 327, 0, 0, 0)),
  (326, (.iconst 0, 327, 0, 0, 0, 0)),
  (327, (.ior, 328, 0, 0, 0, 0)),
  (328, (.iastore, 329, 0, 0, 0, 0)),
  (329, (.iinc 7 1, 332, 0, 0, 0, 0)),
  (332, (.goto (-51), 335, 281, 0, 0, 0)),
  (335, (.iinc 4 1, 338, 0, 0, 0, 0)),
  (338, (.goto (-206), 341, 132, 0, 0, 0)),
  (341, (.iload_n 3, 342, 0, 0, 0, 0)),
  (342, (.ireturn, 343, 0, 0, 0, 0))]
def am_r235 : List (Nat × am_R) := [(0, (.iconst 0, 1, 0, 0, 0, 0)),
  (1, (.istore_n 1, 2, 0, 0, 0, 0)),
  (2, (.iconst 0, 3, 0, 0, 0, 0)),
  (3, (.istore_n 2, 4, 0, 0, 0, 0)),
  (4, (.iload_n 2, 5, 0, 0, 0, 0)),
  (5, (.bipush 30, 7, 0, 0, 0, 0)),
  (7, (.if_icmp .ge 17, 10, 24, 0, 0, 0)),
  (10, (.iload_n 1, 11, 0, 0, 0, 0)),
  (11, (.iload_n 0, 12, 0, 0, 0, 0)),
  (12, (.iload_n 2, 13, 0, 0, 0, 0)),
  (13, (.ishr, 14, 0, 0, 0, 0)),
  (14, (.iconst 1, 15, 0, 0, 0, 0)),
  (15, (.iand, 16, 0, 0, 0, 0)),
  (16, (.iadd, 17, 0, 0, 0, 0)),
  (17, (.istore_n 1, 18, 0, 0, 0, 0)),
  (18, (.iinc 2 1, 21, 0, 0, 0, 0)),
  (21, (.goto (-17), 24, 4, 0, 0, 0)),
  (24, (.iload_n 1, 25, 0, 0, 0, 0)),
  (25, (.ireturn, 26, 0, 0, 0, 0))]
def am_r236 : List (Nat × am_R) := [(0, (.iconst 0, 1, 0, 0, 0, 0)),
  (1, (.istore_n 2, 2, 0, 0, 0, 0)),
  (2, (.iload_n 1, 3, 0, 0, 0, 0)),
  (3, (.istore_n 3, 4, 0, 0, 0, 0)),
  (4, (.aload_n 0, 5, 0, 0, 0, 0)),
  (5, (.getfield 82, 8, 11, 11, 138, 0)),
  (8, (.iload_n 3, 9, 0, 0, 0, 0)),
  (9, (.iaload, 10, 0, 0, 0, 0)),
  (10, (.ifCond .eq 130, 13, 140, 0, 0, 0)),
  (13, (.aload_n 0, 14, 0, 0, 0, 0)),
  (14, (.getfield 82, 17, 11, 11, 138, 0)),
  (17, (.iload_n 3, 18, 0, 0, 0, 0)),
  (18, (.iaload, 19, 0, 0, 0, 0)),
  (19, (.istore 4, 21, 0, 0, 0, 0)),
  (21, (.iload 4, 23, 0, 0, 0, 0)),
  (23, (.iconst 1, 24, 0, 0, 0, 0)),
  (24, (.if_icmp .eq 9, 27, 33, 0, 0, 0)),
  (27, (.iload 4, 29, 0, 0, 0, 0)),
  (29, (.iconst 2, 30, 0, 0, 0, 0)),
  (30, (.if_icmp .ne 41, 33, 71, 0, 0, 0)),
  (33, (.aload_n 0, 34, 0, 0, 0, 0)),
  (34, (.getfield 106, 37, 23, 11, 150, 0)),
  (37, (.iload_n 2, 38, 0, 0, 0, 0)),
  (38, (.iload 4, 40, 0, 0, 0, 0)),
  (40, (.iconst 1, 41, 0, 0, 0, 0)),
  (41, (.if_icmp .ne 12, 44, 53, 0, 0, 0)),
  (44, (.aload_n 0, 45, 0, 0, 0, 0)),
  (45, (.getfield 85, 48, 12, 11, 139, 0)),
  (48, (.iload_n 3, 49, 0, 0, 0, 0)),
  (49, (.iaload, 50, 0, 0, 0, 0)),
  (50, (.goto 14, 53, 64, 0, 0, 0)),
  (53, (.aload_n 0, 54, 0, 0, 0, 0)),
  (54, (.getfield 103, 57, 22, 11, 149, 0)),
  (57, (.aload_n 0, 58, 0, 0, 0, 0)),
  (58, (.getfield 85, 61, 12, 11, 139, 0)),
  (61, (.iload_n 3, 62, 0, 0, 0, 0)),
  (62, (.iaload, 63, 0, 0, 0, 0)),
  (63, (.iaload, 64, 0, 0, 0, 0)),
  (64, (.iastore, 65, 0, 0, 0, 0)),
  (65, (.iinc 2 1, 68, 0, 0, 0, 0)),
  (68, (.goto 66, 71, 134, 0, 0, 0)),
  (71, (.iload 4, 73, 0, 0, 0, 0)),
  (73, (.iconst 3, 74, 0, 0, 0, 0)),
  (74, (.if_icmp .ne 30, 77, 104, 0, 0, 0)),
  (77, (.aload_n 0, 78, 0, 0, 0, 0)),
  (78, (.getfield 106, 81, 23, 11, 150, 0)),
  (81, (.iload_n 2, 82, 0, 0, 0, 0)),
  (82, (.iconst 1, 83, 0, 0, 0, 0)),
  (83, (.isub, 84, 0, 0, 0, 0)),
  (84, (.aload_n 0, 85, 0, 0, 0, 0)),
  (85, (.getfield 106, 88, 23, 11, 150, 0)),
  (88, (.iload_n 2, 89, 0, 0, 0, 0)),
  (89, (.iconst 1, 90, 0, 0, 0, 0)),
  (90, (.isub, 91, 0, 0, 0, 0)),
  (91, (.iaload, 92, 0, 0, 0, 0)),
  (92, (.ifCond .ne 7, 95, 99, 0, 0, 0)),
  (95, (.iconst 1, 96, 0, 0, 0, 0)),
  (96, (.goto 4, 99, 100, 0, 0, 0)),
  (99, (.iconst 0, 100, 0, 0, 0, 0)),
  (100, (.iastore, 101, 0, 0, 0, 0)),
  (101, (.goto 33, 104, 134, 0, 0, 0)),
  (104, (.iinc 2 (-1), 107, 0, 0, 0, 0)),
  (107, (.aload_n 0, 108, 0, 0, 0, 0)),
  (108, (.getfield 106, 111, 23, 11, 150, 0)),
  (111, (.iload_n 2, 112, 0, 0, 0, 0)),
  (112, (.iconst 1, 113, 0, 0, 0, 0)),
  (113, (.isub, 114, 0, 0, 0, 0)),
  (114, (.iload 4, 116, 0, 0, 0, 0)),
  (116, (.aload_n 0, 117, 0, 0, 0, 0)),
  (117, (.getfield 106, 120, 23, 11, 150, 0)),
  (120, (.iload_n 2, 121, 0, 0, 0, 0)),
  (121, (.iconst 1, 122, 0, 0, 0, 0)),
  (122, (.isub, 123, 0, 0, 0, 0)),
  (123, (.iaload, 124, 0, 0, 0, 0)),
  (124, (.aload_n 0, 125, 0, 0, 0, 0)),
  (125, (.getfield 106, 128, 23, 11, 150, 0)),
  (128, (.iload_n 2, 129, 0, 0, 0, 0)),
  (129, (.iaload, 130, 0, 0, 0, 0)),
  (130, (.invokestatic 256, 133, 237, 3, 287, 0)),
  (133, (.iastore, 134, 0, 0, 0, 0)),
  (134, (.iinc 3 1, 137, 0, 0, 0, 0)),
  (137, (.goto (-133), 140, 4, 0, 0, 0)),
  (140, (.aload_n 0, 141, 0, 0, 0, 0)),
  (141, (.getfield 106, 144, 23, 11, 150, 0)),
  (144, (.iconst 0, 145, 0, 0, 0, 0)),
  (145, (.iaload, 146, 0, 0, 0, 0)),
  (146, (.ireturn, 147, 0, 0, 0, 0))]
def am_r237 : List (Nat × am_R) := [(0, (.iload_n 0, 1, 0, 0, 0, 0)),
  (1, (.tableswitch 87 4 9 #[39, 43, 47, 51, 62, 73], 40, 0, 0, 0, 0)),
  (40, (.iload_n 1, 41, 0, 0, 0, 0)),
  (41, (.iload_n 2, 42, 0, 0, 0, 0)),
  (42, (.iadd, 43, 0, 0, 0, 0)),
  (43, (.ireturn, 44, 0, 0, 0, 0)),
  (44, (.iload_n 1, 45, 0, 0, 0, 0)),
  (45, (.iload_n 2, 46, 0, 0, 0, 0)),
  (46, (.isub, 47, 0, 0, 0, 0)),
  (47, (.ireturn, 48, 0, 0, 0, 0)),
  (48, (.iload_n 1, 49, 0, 0, 0, 0)),
  (49, (.iload_n 2, 50, 0, 0, 0, 0)),
  (50, (.imul, 51, 0, 0, 0, 0)),
  (51, (.ireturn, 52, 0, 0, 0, 0)),
  (52, (.iload_n 1, 53, 0, 0, 0, 0)),
  (53, (.iload_n 2, 54, 0, 0, 0, 0)),
  (54, (.if_icmp .ge 7, 57, 61, 0, 0, 0)),
  (57, (.iconst 1, 58, 0, 0, 0, 0)),
  (58, (.goto 4, 61, 62, 0, 0, 0)),
  (61, (.iconst 0, 62, 0, 0, 0, 0)),
  (62, (.ireturn, 63, 0, 0, 0, 0)),
  (63, (.iload_n 1, 64, 0, 0, 0, 0)),
  (64, (.iload_n 2, 65, 0, 0, 0, 0)),
  (65, (.if_icmp .ne 7, 68, 72, 0, 0, 0)),
  (68, (.iconst 1, 69, 0, 0, 0, 0)),
  (69, (.goto 4, 72, 73, 0, 0, 0)),
  (72, (.iconst 0, 73, 0, 0, 0, 0)),
  (73, (.ireturn, 74, 0, 0, 0, 0)),
  (74, (.iload_n 1, 75, 0, 0, 0, 0)),
  (75, (.ifCond .eq 11, 78, 86, 0, 0, 0)),
  (78, (.iload_n 2, 79, 0, 0, 0, 0)),
  (79, (.ifCond .eq 7, 82, 86, 0, 0, 0)),
  (82, (.iconst 1, 83, 0, 0, 0, 0)),
  (83, (.goto 4, 86, 87, 0, 0, 0)),
  (86, (.iconst 0, 87, 0, 0, 0, 0)),
  (87, (.ireturn, 88, 0, 0, 0, 0)),
  (88, (.iload_n 1, 89, 0, 0, 0, 0)),
  (89, (.ifCond .ne 7, 92, 96, 0, 0, 0)),
  (92, (.iload_n 2, 93, 0, 0, 0, 0)),
  (93, (.ifCond .eq 7, 96, 100, 0, 0, 0)),
  (96, (.iconst 1, 97, 0, 0, 0, 0)),
  (97, (.goto 4, 100, 101, 0, 0, 0)),
  (100, (.iconst 0, 101, 0, 0, 0, 0)),
  (101, (.ireturn, 102, 0, 0, 0, 0))]
def am_r238 : List (Nat × am_R) := [(0, (.aload_n 0, 1, 0, 0, 0, 0)),
  (1, (.iload_n 2, 2, 0, 0, 0, 0)),
  (2, (.iconst 0, 3, 0, 0, 0, 0)),
  (3, (.invokevirtual 263, 6, 187, 2, 237, 11)),
  (6, (.istore 5, 8, 0, 0, 0, 0)),
  (8, (.aload_n 0, 9, 0, 0, 0, 0)),
  (9, (.getfield 116, 12, 27, 11, 154, 0)),
  (12, (.iload_n 3, 13, 0, 0, 0, 0)),
  (13, (.iaload, 14, 0, 0, 0, 0)),
  (14, (.istore 6, 16, 0, 0, 0, 0)),
  (16, (.aload_n 0, 17, 0, 0, 0, 0)),
  (17, (.getfield 109, 20, 24, 11, 151, 0)),
  (20, (.iload_n 1, 21, 0, 0, 0, 0)),
  (21, (.iconst 0, 22, 0, 0, 0, 0)),
  (22, (.iadd, 23, 0, 0, 0, 0)),
  (23, (.iaload, 24, 0, 0, 0, 0)),
  (24, (.aload_n 0, 25, 0, 0, 0, 0)),
  (25, (.iload_n 1, 26, 0, 0, 0, 0)),
  (26, (.iload_n 2, 27, 0, 0, 0, 0)),
  (27, (.invokevirtual 288, 30, 223, 2, 273, 11)),
  (30, (.iload 4, 32, 0, 0, 0, 0)),
  (32, (.invokestatic 291, 35, 225, 3, 275, 0)),
  (35, (.istore 7, 37, 0, 0, 0, 0)),
  (37, (.aload_n 0, 38, 0, 0, 0, 0)),
  (38, (.iload_n 2, 39, 0, 0, 0, 0)),
  (39, (.iload_n 3, 40, 0, 0, 0, 0)),
  (40, (.invokevirtual 284, 43, 229, 2, 279, 11)),
  (43, (.ifCond .eq 44, 46, 87, 0, 0, 0)),
  (46, (.iload 7, 48, 0, 0, 0, 0)),
  (48, (.iload 6, 50, 0, 0, 0, 0)),
  (50, (.if_icmp .eq 21, 53, 71, 0, 0, 0)),
  (53, (.iload 5, 55, 0, 0, 0, 0)),
  (55, (.iconst 1, 56, 0, 0, 0, 0)),
  (56, (.if_icmp .ne 31, 59, 87, 0, 0, 0)),
  (59, (.iload 7, 61, 0, 0, 0, 0)),
  (61, (.iload 6, 63, 0, 0, 0, 0)),
  (63, (.iconst 1, 64, 0, 0, 0, 0)),
  (64, (.iadd, 65, 0, 0, 0, 0)),
  (65, (.bipush 7, 67, 0, 0, 0, 0)),
  (67, (.irem, 68, 0, 0, 0, 0)),
  (68, (.if_icmp .ne 19, 71, 87, 0, 0, 0)),
  (71, (.iload 5, 73, 0, 0, 0, 0)),
  (73, (.iconst 2, 74, 0, 0, 0, 0)),
  (74, (.if_icmp .ne 9, 77, 83, 0, 0, 0)),
  (77, (.iload 6, 79, 0, 0, 0, 0)),
  (79, (.iconst 1, 80, 0, 0, 0, 0)),
  (80, (.if_icmp .ne 7, 83, 87, 0, 0, 0)),
  (83, (.iconst 1, 84, 0, 0, 0, 0)),
  (84, (.goto 4, 87, 88, 0, 0, 0)),
  (87, (.iconst 0, 88, 0, 0, 0, 0)),
  (88, (.ireturn, 89, 0, 0, 0, 0))]
def am_r239 : List (Nat × am_R) := [(0, (.aload_n 0, 1, 0, 0, 0, 0)),
  (1, (.iconst 0, 2, 0, 0, 0, 0)),
  (2, (.putfield 1, 5, 0, 11, 127, 0)),
  (5, (.aload_n 0, 6, 0, 0, 0, 0)),
  (6, (.iload_n 1, 7, 0, 0, 0, 0)),
  (7, (.invokevirtual 313, 10, 221, 1, 271, 11)),
  (10, (.ifCond .eq 12, 13, 22, 0, 0, 0)),
  (13, (.iload_n 2, 14, 0, 0, 0, 0)),
  (14, (.iconst 0, 15, 0, 0, 0, 0)),
  (15, (.iconst 4, 16, 0, 0, 0, 0)),
  (16, (.invokestatic 194, 19, 207, 3, 257, 0)),
  (19, (.ifCond .ne 5, 22, 24, 0, 0, 0)),
  (22, (.iconst (-1), 23, 0, 0, 0, 0)),
  (23, (.ireturn, 24, 0, 0, 0, 0)),
  (24, (.aload_n 0, 25, 0, 0, 0, 0)),
  (25, (.invokevirtual 325, 28, 231, 0, 281, 11)),
  (28, (.aload_n 0, 29, 0, 0, 0, 0)),
  (29, (.getfield 109, 32, 24, 11, 151, 0)),
  (32, (.iconst 2, 33, 0, 0, 0, 0)),
  (33, (.iload_n 1, 34, 0, 0, 0, 0)),
  (34, (.iadd, 35, 0, 0, 0, 0)),
  (35, (.iaload, 36, 0, 0, 0, 0)),
  (36, (.istore_n 3, 37, 0, 0, 0, 0)),
  (37, (.aload_n 0, 38, 0, 0, 0, 0)),
  (38, (.getfield 109, 41, 24, 11, 151, 0)),
  (41, (.iconst 2, 42, 0, 0, 0, 0)),
  (42, (.iload_n 1, 43, 0, 0, 0, 0)),
  (43, (.iadd, 44, 0, 0, 0, 0)),
  (44, (.iload_n 2, 45, 0, 0, 0, 0)),
  (45, (.iastore, 46, 0, 0, 0, 0)),
  (46, (.iload_n 3, 47, 0, 0, 0, 0)),
  (47, (.ireturn, 48, 0, 0, 0, 0))]
def am_inf_5 : List (List (Nat × am_R) × Nat × Option FieldType) := [(am_r200, 3, (Option.some Jvm.ClassFile.FieldType.int)), (am_r201, 4, (Option.some Jvm.ClassFile.FieldType.int)), (am_r202, 4, (Option.some Jvm.ClassFile.FieldType.int)), (am_r203, 2, (Option.none : Option Jvm.ClassFile.FieldType)), (am_r204, 3, (Option.some Jvm.ClassFile.FieldType.boolean)), (am_r205, 3, (Option.some Jvm.ClassFile.FieldType.int)), (am_r206, 5, (Option.some Jvm.ClassFile.FieldType.int)), (am_r207, 3, (Option.some Jvm.ClassFile.FieldType.boolean)), (am_r208, 2, (Option.none : Option Jvm.ClassFile.FieldType)), (am_r209, 3, (Option.none : Option Jvm.ClassFile.FieldType)), (am_r210, 3, (Option.none : Option Jvm.ClassFile.FieldType)), (am_r211, 3, (Option.none : Option Jvm.ClassFile.FieldType)), (am_r212, 3, (Option.none : Option Jvm.ClassFile.FieldType)), (am_r213, 2, (Option.none : Option Jvm.ClassFile.FieldType)), (am_r214, 4, (Option.none : Option Jvm.ClassFile.FieldType)), (am_r215, 2, (Option.some Jvm.ClassFile.FieldType.boolean)), (am_r216, 3, (Option.none : Option Jvm.ClassFile.FieldType)), (am_r217, 3, (Option.some Jvm.ClassFile.FieldType.boolean)), (am_r218, 2, (Option.none : Option Jvm.ClassFile.FieldType)), (am_r219, 4, (Option.some Jvm.ClassFile.FieldType.int)), (am_r220, 3, (Option.some Jvm.ClassFile.FieldType.int)), (am_r221, 2, (Option.some Jvm.ClassFile.FieldType.boolean)), (am_r222, 2, (Option.some Jvm.ClassFile.FieldType.int)), (am_r223, 3, (Option.some Jvm.ClassFile.FieldType.int)), (am_r224, 2, (Option.some Jvm.ClassFile.FieldType.int)), (am_r225, 3, (Option.some Jvm.ClassFile.FieldType.int)), (am_r226, 3, (Option.some Jvm.ClassFile.FieldType.int)), (am_r227, 2, (Option.some Jvm.ClassFile.FieldType.boolean)), (am_r228, 4, (Option.some Jvm.ClassFile.FieldType.int)), (am_r229, 3, (Option.some Jvm.ClassFile.FieldType.boolean)), (am_r230, 1, (Option.some Jvm.ClassFile.FieldType.int)), (am_r231, 2, (Option.none : Option Jvm.ClassFile.FieldType)), (am_r232, 5, (Option.none : Option Jvm.ClassFile.FieldType)), (am_r233, 2, (Option.some Jvm.ClassFile.FieldType.int)), (am_r234, 8, (Option.some Jvm.ClassFile.FieldType.int)), (am_r235, 3, (Option.some Jvm.ClassFile.FieldType.int)), (am_r236, 5, (Option.some Jvm.ClassFile.FieldType.int)), (am_r237, 3, (Option.some Jvm.ClassFile.FieldType.int)), (am_r238, 8, (Option.some Jvm.ClassFile.FieldType.boolean)), (am_r239, 4, (Option.some Jvm.ClassFile.FieldType.int))]
theorem am_ck_5_0 : ((am_mi_5.zip am_inf_5).take 10).all am_chk = true := by decide +kernel
theorem am_ck_5_1 : (((am_mi_5.zip am_inf_5).drop 10).take 10).all am_chk = true := by decide +kernel
theorem am_ck_5_2 : (((am_mi_5.zip am_inf_5).drop 20).take 10).all am_chk = true := by decide +kernel
theorem am_ck_5_3 : (((am_mi_5.zip am_inf_5).drop 30)).all am_chk = true := by decide +kernel
theorem am_ck_5 : (am_mi_5.zip am_inf_5).all am_chk = true := am_all_cut _ 10 _ am_ck_5_0 (am_all_cut _ 10 _ am_ck_5_1 (by
  rw [List.drop_drop]
  exact am_all_cut _ 10 _ am_ck_5_2 (by
    rw [List.drop_drop]
    exact am_ck_5_3)))
end
section
/-! rows of methods, checked against their bytes -/
def am_r240 : List (Nat × am_R) := [(0, (.aload_n 0, 1, 0, 0, 0, 0)),
  (1, (.iconst 0, 2, 0, 0, 0, 0)),
  (2, (.putfield 1, 5, 0, 11, 127, 0)),
  (5, (.aload_n 0, 6, 0, 0, 0, 0)),
  (6, (.iload_n 1, 7, 0, 0, 0, 0)),
  (7, (.invokevirtual 313, 10, 221, 1, 271, 11)),
  (10, (.ifCond .ne 5, 13, 15, 0, 0, 0)),
  (13, (.iconst (-1), 14, 0, 0, 0, 0)),
  (14, (.ireturn, 15, 0, 0, 0, 0)),
  (15, (.aload_n 0, 16, 0, 0, 0, 0)),
  (16, (.invokevirtual 325, 19, 231, 0, 281, 11)),
  (19, (.aload_n 0, 20, 0, 0, 0, 0)),
  (20, (.iconst 0, 21, 0, 0, 0, 0)),
  (21, (.iload_n 1, 22, 0, 0, 0, 0)),
  (22, (.invokevirtual 330, 25, 241, 2, 291, 11)),
  (25, (.aload_n 0, 26, 0, 0, 0, 0)),
  (26, (.getfield 109, 29, 24, 11, 151, 0)),
  (29, (.iconst 1, 30, 0, 0, 0, 0)),
  (30, (.iaload, 31, 0, 0, 0, 0)),
  (31, (.ireturn, 32, 0, 0, 0, 0))]
def am_r241 : List (Nat × am_R) := [(0, (.aload_n 0, 1, 0, 0, 0, 0)),
  (1, (.getfield 109, 4, 24, 11, 151, 0)),
  (4, (.iload_n 1, 5, 0, 0, 0, 0)),
  (5, (.iconst 2, 6, 0, 0, 0, 0)),
  (6, (.iadd, 7, 0, 0, 0, 0)),
  (7, (.iload_n 2, 8, 0, 0, 0, 0)),
  (8, (.iadd, 9, 0, 0, 0, 0)),
  (9, (.iconst 2, 10, 0, 0, 0, 0)),
  (10, (.iastore, 11, 0, 0, 0, 0)),
  (11, (.aload_n 0, 12, 0, 0, 0, 0)),
  (12, (.getfield 109, 15, 24, 11, 151, 0)),
  (15, (.iload_n 1, 16, 0, 0, 0, 0)),
  (16, (.iconst 1, 17, 0, 0, 0, 0)),
  (17, (.iadd, 18, 0, 0, 0, 0)),
  (18, (.dup2, 19, 0, 0, 0, 0)),
  (19, (.iaload, 20, 0, 0, 0, 0)),
  (20, (.iconst 1, 21, 0, 0, 0, 0)),
  (21, (.iadd, 22, 0, 0, 0, 0)),
  (22, (.iastore, 23, 0, 0, 0, 0)),
  (23, (.return_, 24, 0, 0, 0, 0))]
def am_r242 : List (Nat × am_R) := [(0, (.aload_n 0, 1, 0, 0, 0, 0)),
  (1, (.iconst 0, 2, 0, 0, 0, 0)),
  (2, (.putfield 1, 5, 0, 11, 127, 0)),
  (5, (.aload_n 0, 6, 0, 0, 0, 0)),
  (6, (.getfield 278, 9, 25, 11, 152, 0)),
  (9, (.ifCond .ne 5, 12, 14, 0, 0, 0)),
  (12, (.iconst 0, 13, 0, 0, 0, 0)),
  (13, (.ireturn, 14, 0, 0, 0, 0)),
  (14, (.aload_n 0, 15, 0, 0, 0, 0)),
  (15, (.dup, 16, 0, 0, 0, 0)),
  (16, (.getfield 278, 19, 25, 11, 152, 0)),
  (19, (.iconst 1, 20, 0, 0, 0, 0)),
  (20, (.isub, 21, 0, 0, 0, 0)),
  (21, (.putfield 278, 24, 25, 11, 152, 0)),
  (24, (.aload_n 0, 25, 0, 0, 0, 0)),
  (25, (.bipush 49, 27, 0, 0, 0, 0)),
  (27, (.iconst 5, 28, 0, 0, 0, 0)),
  (28, (.aload_n 0, 29, 0, 0, 0, 0)),
  (29, (.getfield 278, 32, 25, 11, 152, 0)),
  (32, (.iadd, 33, 0, 0, 0, 0)),
  (33, (.imul, 34, 0, 0, 0, 0)),
  (34, (.iconst 0, 35, 0, 0, 0, 0)),
  (35, (.bipush 24, 37, 0, 0, 0, 0)),
  (37, (.invokevirtual 281, 40, 232, 3, 282, 11)),
  (40, (.iconst 1, 41, 0, 0, 0, 0)),
  (41, (.ireturn, 42, 0, 0, 0, 0))]
def am_r243 : List (Nat × am_R) := [(0, (.aload_n 0, 1, 0, 0, 0, 0)),
  (1, (.iconst 0, 2, 0, 0, 0, 0)),
  (2, (.putfield 1, 5, 0, 11, 127, 0)),
  (5, (.iload_n 1, 6, 0, 0, 0, 0)),
  (6, (.iconst 0, 7, 0, 0, 0, 0)),
  (7, (.iconst 2, 8, 0, 0, 0, 0)),
  (8, (.invokestatic 194, 11, 207, 3, 257, 0)),
  (11, (.ifCond .ne 6, 14, 17, 0, 0, 0)),
  (14, (.bipush (-2), 16, 0, 0, 0, 0)),
  (16, (.ireturn, 17, 0, 0, 0, 0)),
  (17, (.aload_n 0, 18, 0, 0, 0, 0)),
  (18, (.sipush 1029, 21, 0, 0, 0, 0)),
  (21, (.invokevirtual 275, 24, 185, 1, 235, 11)),
  (24, (.iconst (-1), 25, 0, 0, 0, 0)),
  (25, (.istore_n 2, 26, 0, 0, 0, 0)),
  (26, (.iconst (-1), 27, 0, 0, 0, 0)),
  (27, (.istore_n 3, 28, 0, 0, 0, 0)),
  (28, (.iconst 0, 29, 0, 0, 0, 0)),
  (29, (.istore 4, 31, 0, 0, 0, 0)),
  (31, (.iload 4, 33, 0, 0, 0, 0)),
  (33, (.aload_n 0, 34, 0, 0, 0, 0)),
  (34, (.getfield 100, 37, 21, 11, 148, 0)),
  (37, (.iconst 0, 38, 0, 0, 0, 0)),
  (38, (.iaload, 39, 0, 0, 0, 0)),
  (39, (.if_icmp .ge 148, 42, 187, 0, 0, 0)),
  (42, (.aload_n 0, 43, 0, 0, 0, 0)),
  (43, (.getfield 100, 46, 21, 11, 148, 0)),
  (46, (.iconst 1, 47, 0, 0, 0, 0)),
  (47, (.iconst 3, 48, 0, 0, 0, 0)),
  (48, (.iload 4, 50, 0, 0, 0, 0)),
  (50, (.imul, 51, 0, 0, 0, 0)),
  (51, (.iadd, 52, 0, 0, 0, 0)),
  (52, (.iaload, 53, 0, 0, 0, 0)),
  (53, (.istore 5, 55, 0, 0, 0, 0)),
  (55, (.aload_n 0, 56, 0, 0, 0, 0)),
  (56, (.getfield 100, 59, 21, 11, 148, 0)),
  (59, (.iconst 2, 60, 0, 0, 0, 0)),
  (60, (.iconst 3, 61, 0, 0, 0, 0)),
  (61, (.iload 4, 63, 0, 0, 0, 0)),
  (63, (.imul, 64, 0, 0, 0, 0)),
  (64, (.iadd, 65, 0, 0, 0, 0)),
  (65, (.iaload, 66, 0, 0, 0, 0)),
  (66, (.istore 6, 68, 0, 0, 0, 0)),
  (68, (.iload 5, 70, 0, 0, 0, 0)),
  (70, (.ifCond .ne 71, 73, 141, 0, 0, 0)),
  (73, (.aload_n 0, 74, 0, 0, 0, 0)),
  (74, (.sipush 1029, 77, 0, 0, 0, 0)),
  (77, (.invokevirtual 333, 80, 244, 1, 294, 11)),
  (80, (.istore 7, 82, 0, 0, 0, 0)),
  (82, (.aload_n 0, 83, 0, 0, 0, 0)),
  (83, (.sipush 1029, 86, 0, 0, 0, 0)),
  (86, (.invokevirtual 328, 89, 233, 1, 283, 11)),
  (89, (.ifCond .eq 7, 92, 96, 0, 0, 0)),
  (92, (.iconst 1, 93, 0, 0, 0, 0)),
  (93, (.goto 4, 96, 97, 0, 0, 0)),
  (96, (.iconst 0, 97, 0, 0, 0, 0)),
  (97, (.istore 8, 99, 0, 0, 0, 0)),
  (99, (.iload 8, 101, 0, 0, 0, 0)),
  (101, (.ifCond .eq 12, 104, 113, 0, 0, 0)),
  (104, (.iload_n 2, 105, 0, 0, 0, 0)),
  (105, (.ifCond .ge 8, 108, 113, 0, 0, 0)),
  (108, (.iload 4, 110, 0, 0, 0, 0)),
  (110, (.goto 4, 113, 114, 0, 0, 0)),
  (113, (.iload_n 2, 114, 0, 0, 0, 0)),
  (114, (.istore_n 2, 115, 0, 0, 0, 0)),
  (115, (.iload_n 3, 116, 0, 0, 0, 0)),
  (116, (.ifCond .ge 20, 119, 136, 0, 0, 0)),
  (119, (.aload_n 0, 120, 0, 0, 0, 0)),
  (120, (.sipush 1029, 123, 0, 0, 0, 0)),
  (123, (.invokevirtual 333, 126, 244, 1, 294, 11)),
  (126, (.iload 7, 128, 0, 0, 0, 0)),
  (128, (.if_icmp .le 8, 131, 136, 0, 0, 0)),
  (131, (.iload 4, 133, 0, 0, 0, 0)),
  (133, (.goto 4, 136, 137, 0, 0, 0)),
  (136, (.iload_n 3, 137, 0, 0, 0, 0)),
  (137, (.istore_n 3, 138, 0, 0, 0, 0)),
  (138, (.goto 43, 141, 181, 0, 0, 0)),
  (141, (.iload 5, 143, 0, 0, 0, 0)),
  (143, (.iconst 1, 144, 0, 0, 0, 0)),
  (144, (.if_icmp .ne 15, 147, 159, 0, 0, 0)),
  (147, (.aload_n 0, 148, 0, 0, 0, 0)),
  (148, (.sipush 1029, 151, 0, 0, 0, 0)),
  (151, (.iload 6, 153, 0, 0, 0, 0)),
  (153, (.invokevirtual 330, 156, 241, 2, 291, 11)),
  (156, (.goto 25, 159, 181, 0, 0, 0)),
  (159, (.aload_n 0, 160, 0, 0, 0, 0)),
  (160, (.getfield 109, 163, 24, 11, 151, 0)),
  (163, (.sipush 1031, 166, 0, 0, 0, 0)),
  (166, (.iload 6, 168, 0, 0, 0, 0)),
  (168, (.iadd, 169, 0, 0, 0, 0)),
  (169, (.aload_n 0, 170, 0, 0, 0, 0)),
  (170, (.getfield 100, 173, 21, 11, 148, 0)),
  (173, (.iconst 3, 174, 0, 0, 0, 0)),
  (174, (.iconst 3, 175, 0, 0, 0, 0)),
  (175, (.iload 4, 177, 0, 0, 0, 0)),
  (177, (.imul, 178, 0, 0, 0, 0)),
  (178, (.iadd, 179, 0, 0, 0, 0)),
  (179, (.iaload, 180, 0, 0, 0, 0)),
  (180, (.iastore, 181, 0, 0, 0, 0)),
  (181, (.iinc 4 1, 184, 0, 0, 0, 0)),
  (184, (.goto (-153), 187, 31, 0, 0, 0)),
  (187, (.iload_n 1, 188, 0, 0, 0, 0)),
  (188, (.ifCond .ne 7, 191, 195, 0, 0, 0)),
  (191, (.iload_n 2, 192, 0, 0, 0, 0)),
  (192, (.goto 23, 195, 215, 0, 0, 0)),
  (195, (.iload_n 1, 196, 0, 0, 0, 0)),
  (196, (.iconst 1, 197, 0, 0, 0, 0)),
  (197, (.if_icmp .ne 7, 200, 204, 0, 0, 0)),
  (200, (.iload_n 3, 201, 0, 0, 0, 0)),
  (201, (.goto 14, 204, 215, 0, 0, 0)),
  (204, (.aload_n 0, 205, 0, 0, 0, 0)),
  (205, (.sipush 1043, 208, 0, 0, 0, 0)),
  (208, (.aload_n 0, 209, 0, 0, 0, 0)),
  (209, (.invokevirtual 266, 212, 183, 0, 233, 11)),
  (212, (.invokevirtual 336, 215, 245, 2, 295, 11)),
  (215, (.ireturn, 216, 0, 0, 0, 0))]
def am_r244 : List (Nat × am_R) := [(0, (.iconst 0, 1, 0, 0, 0, 0)),
  (1, (.istore_n 2, 2, 0, 0, 0, 0)),
  (2, (.iconst 0, 3, 0, 0, 0, 0)),
  (3, (.istore_n 3, 4, 0, 0, 0, 0)),
  (4, (.iload_n 3, 5, 0, 0, 0, 0)),
  (5, (.aload_n 0, 6, 0, 0, 0, 0)),
  (6, (.invokevirtual 259, 9, 186, 0, 236, 11)),
  (9, (.if_icmp .ge 26, 12, 35, 0, 0, 0)),
  (12, (.iload_n 2, 13, 0, 0, 0, 0)),
  (13, (.aload_n 0, 14, 0, 0, 0, 0)),
  (14, (.getfield 109, 17, 24, 11, 151, 0)),
  (17, (.iload_n 1, 18, 0, 0, 0, 0)),
  (18, (.bipush 8, 20, 0, 0, 0, 0)),
  (20, (.iadd, 21, 0, 0, 0, 0)),
  (21, (.iload_n 3, 22, 0, 0, 0, 0)),
  (22, (.iadd, 23, 0, 0, 0, 0)),
  (23, (.iaload, 24, 0, 0, 0, 0)),
  (24, (.invokestatic 297, 27, 235, 1, 285, 0)),
  (27, (.iadd, 28, 0, 0, 0, 0)),
  (28, (.istore_n 2, 29, 0, 0, 0, 0)),
  (29, (.iinc 3 1, 32, 0, 0, 0, 0)),
  (32, (.goto (-28), 35, 4, 0, 0, 0)),
  (35, (.iload_n 2, 36, 0, 0, 0, 0)),
  (36, (.iconst 2, 37, 0, 0, 0, 0)),
  (37, (.idiv, 38, 0, 0, 0, 0)),
  (38, (.ireturn, 39, 0, 0, 0, 0))]
def am_r245 : List (Nat × am_R) := [(0, (.iconst 0, 1, 0, 0, 0, 0)),
  (1, (.istore_n 3, 2, 0, 0, 0, 0)),
  (2, (.iconst 0, 3, 0, 0, 0, 0)),
  (3, (.istore 4, 5, 0, 0, 0, 0)),
  (5, (.iload 4, 7, 0, 0, 0, 0)),
  (7, (.iload_n 2, 8, 0, 0, 0, 0)),
  (8, (.if_icmp .ge 21, 11, 29, 0, 0, 0)),
  (11, (.iload_n 3, 12, 0, 0, 0, 0)),
  (12, (.aload_n 0, 13, 0, 0, 0, 0)),
  (13, (.getfield 109, 16, 24, 11, 151, 0)),
  (16, (.iload_n 1, 17, 0, 0, 0, 0)),
  (17, (.iload 4, 19, 0, 0, 0, 0)),
  (19, (.iadd, 20, 0, 0, 0, 0)),
  (20, (.iaload, 21, 0, 0, 0, 0)),
  (21, (.iadd, 22, 0, 0, 0, 0)),
  (22, (.istore_n 3, 23, 0, 0, 0, 0)),
  (23, (.iinc 4 1, 26, 0, 0, 0, 0)),
  (26, (.goto (-21), 29, 5, 0, 0, 0)),
  (29, (.iload_n 3, 30, 0, 0, 0, 0)),
  (30, (.ireturn, 31, 0, 0, 0, 0))]
def am_r246 : List (Nat × am_R) := [(0, (.aload_n 0, 1, 0, 0, 0, 0)),
  (1, (.iconst 0, 2, 0, 0, 0, 0)),
  (2, (.putfield 1, 5, 0, 11, 127, 0)),
  (5, (.aload_n 0, 6, 0, 0, 0, 0)),
  (6, (.iload_n 1, 7, 0, 0, 0, 0)),
  (7, (.invokevirtual 319, 10, 227, 1, 277, 11)),
  (10, (.ifCond .eq 13, 13, 23, 0, 0, 0)),
  (13, (.iload_n 2, 14, 0, 0, 0, 0)),
  (14, (.iconst 1, 15, 0, 0, 0, 0)),
  (15, (.bipush 60, 17, 0, 0, 0, 0)),
  (17, (.invokestatic 194, 20, 207, 3, 257, 0)),
  (20, (.ifCond .ne 5, 23, 25, 0, 0, 0)),
  (23, (.iconst (-1), 24, 0, 0, 0, 0)),
  (24, (.ireturn, 25, 0, 0, 0, 0)),
  (25, (.aload_n 0, 26, 0, 0, 0, 0)),
  (26, (.invokevirtual 339, 29, 247, 0, 297, 11)),
  (29, (.iconst 0, 30, 0, 0, 0, 0)),
  (30, (.istore_n 3, 31, 0, 0, 0, 0)),
  (31, (.iload_n 3, 32, 0, 0, 0, 0)),
  (32, (.iload_n 2, 33, 0, 0, 0, 0)),
  (33, (.if_icmp .ge 17, 36, 50, 0, 0, 0)),
  (36, (.aload_n 0, 37, 0, 0, 0, 0)),
  (37, (.sipush 1029, 40, 0, 0, 0, 0)),
  (40, (.invokevirtual 328, 43, 233, 1, 283, 11)),
  (43, (.pop, 44, 0, 0, 0, 0)),
  (44, (.iinc 3 1, 47, 0, 0, 0, 0)),
  (47, (.goto (-16), 50, 31, 0, 0, 0)),
  (50, (.aload_n 0, 51, 0, 0, 0, 0)),
  (51, (.getfield 109, 54, 24, 11, 151, 0)),
  (54, (.sipush 1048, 57, 0, 0, 0, 0)),
  (57, (.iload_n 1, 58, 0, 0, 0, 0)),
  (58, (.iadd, 59, 0, 0, 0, 0)),
  (59, (.iaload, 60, 0, 0, 0, 0)),
  (60, (.ireturn, 61, 0, 0, 0, 0))]
def am_r247 : List (Nat × am_R) := [(0, (.aload_n 0, 1, 0, 0, 0, 0)),
  (1, (.iconst 0, 2, 0, 0, 0, 0)),
  (2, (.sipush 1029, 5, 0, 0, 0, 0)),
  (5, (.bipush 24, 7, 0, 0, 0, 0)),
  (7, (.invokevirtual 281, 10, 232, 3, 282, 11)),
  (10, (.return_, 11, 0, 0, 0, 0))]
def am_r248 : List (Nat × am_R) := [(0, (.aload_n 0, 1, 0, 0, 0, 0)),
  (1, (.iconst 0, 2, 0, 0, 0, 0)),
  (2, (.putfield 1, 5, 0, 11, 127, 0)),
  (5, (.aload_n 0, 6, 0, 0, 0, 0)),
  (6, (.invokevirtual 339, 9, 247, 0, 297, 11)),
  (9, (.iconst 1, 10, 0, 0, 0, 0)),
  (10, (.istore_n 3, 11, 0, 0, 0, 0)),
  (11, (.iload_n 3, 12, 0, 0, 0, 0)),
  (12, (.bipush 60, 14, 0, 0, 0, 0)),
  (14, (.if_icmp .gt 53, 17, 67, 0, 0, 0)),
  (17, (.aload_n 0, 18, 0, 0, 0, 0)),
  (18, (.iload_n 1, 19, 0, 0, 0, 0)),
  (19, (.invokevirtual 313, 22, 221, 1, 271, 11)),
  (22, (.ifCond .eq 45, 25, 67, 0, 0, 0)),
  (25, (.aload_n 0, 26, 0, 0, 0, 0)),
  (26, (.iload_n 2, 27, 0, 0, 0, 0)),
  (27, (.invokevirtual 319, 30, 227, 1, 277, 11)),
  (30, (.ifCond .eq 37, 33, 67, 0, 0, 0)),
  (33, (.aload_n 0, 34, 0, 0, 0, 0)),
  (34, (.sipush 1029, 37, 0, 0, 0, 0)),
  (37, (.invokevirtual 328, 40, 233, 1, 283, 11)),
  (40, (.pop, 41, 0, 0, 0, 0)),
  (41, (.aload_n 0, 42, 0, 0, 0, 0)),
  (42, (.getfield 109, 45, 24, 11, 151, 0)),
  (45, (.sipush 1048, 48, 0, 0, 0, 0)),
  (48, (.iload_n 2, 49, 0, 0, 0, 0)),
  (49, (.iadd, 50, 0, 0, 0, 0)),
  (50, (.iaload, 51, 0, 0, 0, 0)),
  (51, (.iload_n 1, 52, 0, 0, 0, 0)),
  (52, (.ishr, 53, 0, 0, 0, 0)),
  (53, (.iconst 1, 54, 0, 0, 0, 0)),
  (54, (.iand, 55, 0, 0, 0, 0)),
  (55, (.iconst 1, 56, 0, 0, 0, 0)),
  (56, (.if_icmp .ne 5, 59, 61, 0, 0, 0)),
  (59, (.iload_n 3, 60, 0, 0, 0, 0)),
  (60, (.ireturn, 61, 0, 0, 0, 0)),
  (61, (.iinc 3 1, 64, 0, 0, 0, 0)),
  (64, (.goto (-53), 67, 11, 0, 0, 0)),
  (67, (.iconst (-1), 68, 0, 0, 0, 0)),
  (68, (.ireturn, 69, 0, 0, 0, 0))]
def am_r249 : List (Nat × am_R) := [(0, (.aload_n 0, 1, 0, 0, 0, 0)),
  (1, (.iconst 0, 2, 0, 0, 0, 0)),
  (2, (.putfield 1, 5, 0, 11, 127, 0)),
  (5, (.aload_n 0, 6, 0, 0, 0, 0)),
  (6, (.invokevirtual 339, 9, 247, 0, 297, 11)),
  (9, (.iconst 1, 10, 0, 0, 0, 0)),
  (10, (.istore_n 2, 11, 0, 0, 0, 0)),
  (11, (.iload_n 2, 12, 0, 0, 0, 0)),
  (12, (.bipush 60, 14, 0, 0, 0, 0)),
  (14, (.if_icmp .gt 34, 17, 48, 0, 0, 0)),
  (17, (.aload_n 0, 18, 0, 0, 0, 0)),
  (18, (.iload_n 1, 19, 0, 0, 0, 0)),
  (19, (.invokevirtual 319, 22, 227, 1, 277, 11)),
  (22, (.ifCond .eq 26, 25, 48, 0, 0, 0)),
  (25, (.aload_n 0, 26, 0, 0, 0, 0)),
  (26, (.sipush 1029, 29, 0, 0, 0, 0)),
  (29, (.invokevirtual 328, 32, 233, 1, 283, 11)),
  (32, (.iload_n 1, 33, 0, 0, 0, 0)),
  (33, (.ishr, 34, 0, 0, 0, 0)),
  (34, (.iconst 1, 35, 0, 0, 0, 0)),
  (35, (.iand, 36, 0, 0, 0, 0)),
  (36, (.iconst 1, 37, 0, 0, 0, 0)),
  (37, (.if_icmp .ne 5, 40, 42, 0, 0, 0)),
  (40, (.iload_n 2, 41, 0, 0, 0, 0)),
  (41, (.ireturn, 42, 0, 0, 0, 0)),
  (42, (.iinc 2 1, 45, 0, 0, 0, 0)),
  (45, (.goto (-34), 48, 11, 0, 0, 0)),
  (48, (.iconst (-1), 49, 0, 0, 0, 0)),
  (49, (.ireturn, 50, 0, 0, 0, 0))]
def am_r250 : List (Nat × am_R) := [(0, (.aload_n 0, 1, 0, 0, 0, 0)),
  (1, (.iconst 0, 2, 0, 0, 0, 0)),
  (2, (.putfield 1, 5, 0, 11, 127, 0)),
  (5, (.aload_n 0, 6, 0, 0, 0, 0)),
  (6, (.iload_n 1, 7, 0, 0, 0, 0)),
  (7, (.invokevirtual 319, 10, 227, 1, 277, 11)),
  (10, (.ifCond .eq 13, 13, 23, 0, 0, 0)),
  (13, (.iload_n 2, 14, 0, 0, 0, 0)),
  (14, (.iconst 1, 15, 0, 0, 0, 0)),
  (15, (.bipush 60, 17, 0, 0, 0, 0)),
  (17, (.invokestatic 194, 20, 207, 3, 257, 0)),
  (20, (.ifCond .ne 5, 23, 25, 0, 0, 0)),
  (23, (.iconst (-1), 24, 0, 0, 0, 0)),
  (24, (.ireturn, 25, 0, 0, 0, 0)),
  (25, (.aload_n 0, 26, 0, 0, 0, 0)),
  (26, (.invokevirtual 339, 29, 247, 0, 297, 11)),
  (29, (.iconst 0, 30, 0, 0, 0, 0)),
  (30, (.istore_n 3, 31, 0, 0, 0, 0)),
  (31, (.iload_n 3, 32, 0, 0, 0, 0)),
  (32, (.iload_n 2, 33, 0, 0, 0, 0)),
  (33, (.if_icmp .ge 17, 36, 50, 0, 0, 0)),
  (36, (.aload_n 0, 37, 0, 0, 0, 0)),
  (37, (.sipush 1029, 40, 0, 0, 0, 0)),
  (40, (.invokevirtual 328, 43, 233, 1, 283, 11)),
  (43, (.pop, 44, 0, 0, 0, 0)),
  (44, (.iinc 3 1, 47, 0, 0, 0, 0)),
  (47, (.goto (-16), 50, 31, 0, 0, 0)),
  (50, (.aload_n 0, 51, 0, 0, 0, 0)),
  (51, (.getfield 109, 54, 24, 11, 151, 0)),
  (54, (.sipush 1043, 57, 0, 0, 0, 0)),
  (57, (.iload_n 1, 58, 0, 0, 0, 0)),
  (58, (.iadd, 59, 0, 0, 0, 0)),
  (59, (.iaload, 60, 0, 0, 0, 0)),
  (60, (.aload_n 0, 61, 0, 0, 0, 0)),
  (61, (.getfield 109, 64, 24, 11, 151, 0)),
  (64, (.bipush 14, 66, 0, 0, 0, 0)),
  (66, (.iload_n 1, 67, 0, 0, 0, 0)),
  (67, (.iadd, 68, 0, 0, 0, 0)),
  (68, (.iaload, 69, 0, 0, 0, 0)),
  (69, (.isub, 70, 0, 0, 0, 0)),
  (70, (.ireturn, 71, 0, 0, 0, 0))]
def am_r251 : List (Nat × am_R) := [(0, (.aload_n 0, 1, 0, 0, 0, 0)),
  (1, (.iconst 0, 2, 0, 0, 0, 0)),
  (2, (.putfield 1, 5, 0, 11, 127, 0)),
  (5, (.aload_n 0, 6, 0, 0, 0, 0)),
  (6, (.invokevirtual 339, 9, 247, 0, 297, 11)),
  (9, (.iconst 0, 10, 0, 0, 0, 0)),
  (10, (.istore_n 3, 11, 0, 0, 0, 0)),
  (11, (.iload_n 3, 12, 0, 0, 0, 0)),
  (12, (.bipush 60, 14, 0, 0, 0, 0)),
  (14, (.if_icmp .gt 58, 17, 72, 0, 0, 0)),
  (17, (.aload_n 0, 18, 0, 0, 0, 0)),
  (18, (.iload_n 1, 19, 0, 0, 0, 0)),
  (19, (.invokevirtual 313, 22, 221, 1, 271, 11)),
  (22, (.ifCond .eq 50, 25, 72, 0, 0, 0)),
  (25, (.aload_n 0, 26, 0, 0, 0, 0)),
  (26, (.iload_n 2, 27, 0, 0, 0, 0)),
  (27, (.invokevirtual 313, 30, 221, 1, 271, 11)),
  (30, (.ifCond .eq 42, 33, 72, 0, 0, 0)),
  (33, (.iload_n 1, 34, 0, 0, 0, 0)),
  (34, (.iload_n 2, 35, 0, 0, 0, 0)),
  (35, (.if_icmp .eq 37, 38, 72, 0, 0, 0)),
  (38, (.aload_n 0, 39, 0, 0, 0, 0)),
  (39, (.getfield 109, 42, 24, 11, 151, 0)),
  (42, (.sipush 1037, 45, 0, 0, 0, 0)),
  (45, (.iload_n 1, 46, 0, 0, 0, 0)),
  (46, (.iadd, 47, 0, 0, 0, 0)),
  (47, (.iaload, 48, 0, 0, 0, 0)),
  (48, (.iload_n 2, 49, 0, 0, 0, 0)),
  (49, (.ishr, 50, 0, 0, 0, 0)),
  (50, (.iconst 1, 51, 0, 0, 0, 0)),
  (51, (.iand, 52, 0, 0, 0, 0)),
  (52, (.iconst 1, 53, 0, 0, 0, 0)),
  (53, (.if_icmp .ne 5, 56, 58, 0, 0, 0)),
  (56, (.iload_n 3, 57, 0, 0, 0, 0)),
  (57, (.ireturn, 58, 0, 0, 0, 0)),
  (58, (.aload_n 0, 59, 0, 0, 0, 0)),
  (59, (.sipush 1029, 62, 0, 0, 0, 0)),
  (62, (.invokevirtual 328, 65, 233, 1, 283, 11)),
  (65, (.pop, 66, 0, 0, 0, 0)),
  (66, (.iinc 3 1, 69, 0, 0, 0, 0)),
  (69, (.goto (-58), 72, 11, 0, 0, 0)),
  (72, (.iconst (-1), 73, 0, 0, 0, 0)),
  (73, (.ireturn, 74, 0, 0, 0, 0))]
def am_r252 : List (Nat × am_R) := [(0, (.aload_n 0, 1, 0, 0, 0, 0)),
  (1, (.iconst 0, 2, 0, 0, 0, 0)),
  (2, (.putfield 1, 5, 0, 11, 127, 0)),
  (5, (.iload_n 1, 6, 0, 0, 0, 0)),
  (6, (.iconst 1, 7, 0, 0, 0, 0)),
  (7, (.bipush 60, 9, 0, 0, 0, 0)),
  (9, (.invokestatic 194, 12, 207, 3, 257, 0)),
  (12, (.ifCond .ne 5, 15, 17, 0, 0, 0)),
  (15, (.iconst (-1), 16, 0, 0, 0, 0)),
  (16, (.ireturn, 17, 0, 0, 0, 0)),
  (17, (.aload_n 0, 18, 0, 0, 0, 0)),
  (18, (.invokevirtual 339, 21, 247, 0, 297, 11)),
  (21, (.iconst 0, 22, 0, 0, 0, 0)),
  (22, (.istore_n 2, 23, 0, 0, 0, 0)),
  (23, (.iconst 0, 24, 0, 0, 0, 0)),
  (24, (.istore_n 3, 25, 0, 0, 0, 0)),
  (25, (.iload_n 3, 26, 0, 0, 0, 0)),
  (26, (.iload_n 1, 27, 0, 0, 0, 0)),
  (27, (.if_icmp .ge 35, 30, 62, 0, 0, 0)),
  (30, (.aload_n 0, 31, 0, 0, 0, 0)),
  (31, (.sipush 1029, 34, 0, 0, 0, 0)),
  (34, (.invokevirtual 328, 37, 233, 1, 283, 11)),
  (37, (.pop, 38, 0, 0, 0, 0)),
  (38, (.iload_n 2, 39, 0, 0, 0, 0)),
  (39, (.aload_n 0, 40, 0, 0, 0, 0)),
  (40, (.sipush 1029, 43, 0, 0, 0, 0)),
  (43, (.invokevirtual 342, 46, 253, 1, 303, 11)),
  (46, (.ifCond .ne 7, 49, 53, 0, 0, 0)),
  (49, (.iconst 1, 50, 0, 0, 0, 0)),
  (50, (.goto 4, 53, 54, 0, 0, 0)),
  (53, (.iconst 0, 54, 0, 0, 0, 0)),
  (54, (.iadd, 55, 0, 0, 0, 0)),
  (55, (.istore_n 2, 56, 0, 0, 0, 0)),
  (56, (.iinc 3 1, 59, 0, 0, 0, 0)),
  (59, (.goto (-34), 62, 25, 0, 0, 0)),
  (62, (.iload_n 2, 63, 0, 0, 0, 0)),
  (63, (.ireturn, 64, 0, 0, 0, 0))]
def am_r253 : List (Nat × am_R) := [(0, (.iconst 0, 1, 0, 0, 0, 0)),
  (1, (.istore_n 2, 2, 0, 0, 0, 0)),
  (2, (.iconst 0, 3, 0, 0, 0, 0)),
  (3, (.istore_n 3, 4, 0, 0, 0, 0)),
  (4, (.iload_n 3, 5, 0, 0, 0, 0)),
  (5, (.aload_n 0, 6, 0, 0, 0, 0)),
  (6, (.invokevirtual 266, 9, 183, 0, 233, 11)),
  (9, (.if_icmp .ge 26, 12, 35, 0, 0, 0)),
  (12, (.iload_n 2, 13, 0, 0, 0, 0)),
  (13, (.aload_n 0, 14, 0, 0, 0, 0)),
  (14, (.getfield 109, 17, 24, 11, 151, 0)),
  (17, (.iload_n 1, 18, 0, 0, 0, 0)),
  (18, (.bipush 19, 20, 0, 0, 0, 0)),
  (20, (.iadd, 21, 0, 0, 0, 0)),
  (21, (.iload_n 3, 22, 0, 0, 0, 0)),
  (22, (.iadd, 23, 0, 0, 0, 0)),
  (23, (.iaload, 24, 0, 0, 0, 0)),
  (24, (.invokestatic 297, 27, 235, 1, 285, 0)),
  (27, (.iadd, 28, 0, 0, 0, 0)),
  (28, (.istore_n 2, 29, 0, 0, 0, 0)),
  (29, (.iinc 3 1, 32, 0, 0, 0, 0)),
  (32, (.goto (-28), 35, 4, 0, 0, 0)),
  (35, (.iload_n 2, 36, 0, 0, 0, 0)),
  (36, (.ireturn, 37, 0, 0, 0, 0))]
def am_r254 : List (Nat × am_R) := [(0, (.aload_n 0, 1, 0, 0, 0, 0)),
  (1, (.iconst 0, 2, 0, 0, 0, 0)),
  (2, (.putfield 1, 5, 0, 11, 127, 0)),
  (5, (.aload_n 0, 6, 0, 0, 0, 0)),
  (6, (.invokevirtual 339, 9, 247, 0, 297, 11)),
  (9, (.iconst (-1), 10, 0, 0, 0, 0)),
  (10, (.istore_n 1, 11, 0, 0, 0, 0)),
  (11, (.iconst 0, 12, 0, 0, 0, 0)),
  (12, (.istore_n 2, 13, 0, 0, 0, 0)),
  (13, (.iconst 1, 14, 0, 0, 0, 0)),
  (14, (.istore_n 3, 15, 0, 0, 0, 0)),
  (15, (.iload_n 3, 16, 0, 0, 0, 0)),
  (16, (.bipush 7, 18, 0, 0, 0, 0)),
  (18, (.if_icmp .gt 51, 21, 69, 0, 0, 0)),
  (21, (.aload_n 0, 22, 0, 0, 0, 0)),
  (22, (.sipush 1029, 25, 0, 0, 0, 0)),
  (25, (.invokevirtual 328, 28, 233, 1, 283, 11)),
  (28, (.pop, 29, 0, 0, 0, 0)),
  (29, (.aload_n 0, 30, 0, 0, 0, 0)),
  (30, (.sipush 1029, 33, 0, 0, 0, 0)),
  (33, (.invokevirtual 342, 36, 253, 1, 303, 11)),
  (36, (.istore 4, 38, 0, 0, 0, 0)),
  (38, (.iload 4, 40, 0, 0, 0, 0)),
  (40, (.iload_n 2, 41, 0, 0, 0, 0)),
  (41, (.if_icmp .le 7, 44, 48, 0, 0, 0)),
  (44, (.iload_n 3, 45, 0, 0, 0, 0)),
  (45, (.goto 4, 48, 49, 0, 0, 0)),
  (48, (.iload_n 1, 49, 0, 0, 0, 0)),
  (49, (.istore_n 1, 50, 0, 0, 0, 0)),
  (50, (.iload 4, 52, 0, 0, 0, 0)),
  (52, (.iload_n 2, 53, 0, 0, 0, 0)),
  (53, (.if_icmp .le 8, 56, 61, 0, 0, 0)),
  (56, (.iload 4, 58, 0, 0, 0, 0)),
  (58, (.goto 4, 61, 62, 0, 0, 0)),
  (61, (.iload_n 2, 62, 0, 0, 0, 0)),
  (62, (.istore_n 2, 63, 0, 0, 0, 0)),
  (63, (.iinc 3 1, 66, 0, 0, 0, 0)),
  (66, (.goto (-51), 69, 15, 0, 0, 0)),
  (69, (.iload_n 1, 70, 0, 0, 0, 0)),
  (70, (.ireturn, 71, 0, 0, 0, 0))]
def am_r255 : List (Nat × am_R) := [(0, (.aload_n 0, 1, 0, 0, 0, 0)),
  (1, (.iconst 0, 2, 0, 0, 0, 0)),
  (2, (.putfield 1, 5, 0, 11, 127, 0)),
  (5, (.aload_n 0, 6, 0, 0, 0, 0)),
  (6, (.iload_n 1, 7, 0, 0, 0, 0)),
  (7, (.invokevirtual 319, 10, 227, 1, 277, 11)),
  (10, (.ifCond .ne 5, 13, 15, 0, 0, 0)),
  (13, (.iconst (-1), 14, 0, 0, 0, 0)),
  (14, (.ireturn, 15, 0, 0, 0, 0)),
  (15, (.aload_n 0, 16, 0, 0, 0, 0)),
  (16, (.invokevirtual 339, 19, 247, 0, 297, 11)),
  (19, (.iconst 0, 20, 0, 0, 0, 0)),
  (20, (.istore_n 2, 21, 0, 0, 0, 0)),
  (21, (.iconst 0, 22, 0, 0, 0, 0)),
  (22, (.istore_n 3, 23, 0, 0, 0, 0)),
  (23, (.iload_n 3, 24, 0, 0, 0, 0)),
  (24, (.bipush 7, 26, 0, 0, 0, 0)),
  (26, (.if_icmp .ge 38, 29, 64, 0, 0, 0)),
  (29, (.aload_n 0, 30, 0, 0, 0, 0)),
  (30, (.sipush 1029, 33, 0, 0, 0, 0)),
  (33, (.invokevirtual 328, 36, 233, 1, 283, 11)),
  (36, (.pop, 37, 0, 0, 0, 0)),
  (37, (.iload_n 2, 38, 0, 0, 0, 0)),
  (38, (.aload_n 0, 39, 0, 0, 0, 0)),
  (39, (.getfield 109, 42, 24, 11, 151, 0)),
  (42, (.sipush 1048, 45, 0, 0, 0, 0)),
  (45, (.iload_n 1, 46, 0, 0, 0, 0)),
  (46, (.iadd, 47, 0, 0, 0, 0)),
  (47, (.iaload, 48, 0, 0, 0, 0)),
  (48, (.ifCond .eq 7, 51, 55, 0, 0, 0)),
  (51, (.iconst 1, 52, 0, 0, 0, 0)),
  (52, (.goto 4, 55, 56, 0, 0, 0)),
  (55, (.iconst 0, 56, 0, 0, 0, 0)),
  (56, (.iadd, 57, 0, 0, 0, 0)),
  (57, (.istore_n 2, 58, 0, 0, 0, 0)),
  (58, (.iinc 3 1, 61, 0, 0, 0, 0)),
  (61, (.goto (-38), 64, 23, 0, 0, 0)),
  (64, (.iload_n 2, 65, 0, 0, 0, 0)),
  (65, (.ireturn, 66, 0, 0, 0, 0))]
def am_r256 : List (Nat × am_R) := [(0, (.aload_n 0, 1, 0, 0, 0, 0)),
  (1, (.iconst 0, 2, 0, 0, 0, 0)),
  (2, (.putfield 1, 5, 0, 11, 127, 0)),
  (5, (.aload_n 0, 6, 0, 0, 0, 0)),
  (6, (.invokevirtual 339, 9, 247, 0, 297, 11)),
  (9, (.iconst 0, 10, 0, 0, 0, 0)),
  (10, (.istore_n 1, 11, 0, 0, 0, 0)),
  (11, (.iload_n 1, 12, 0, 0, 0, 0)),
  (12, (.bipush 60, 14, 0, 0, 0, 0)),
  (14, (.if_icmp .ge 17, 17, 31, 0, 0, 0)),
  (17, (.aload_n 0, 18, 0, 0, 0, 0)),
  (18, (.sipush 1029, 21, 0, 0, 0, 0)),
  (21, (.invokevirtual 328, 24, 233, 1, 283, 11)),
  (24, (.pop, 25, 0, 0, 0, 0)),
  (25, (.iinc 1 1, 28, 0, 0, 0, 0)),
  (28, (.goto (-17), 31, 11, 0, 0, 0)),
  (31, (.iconst 0, 32, 0, 0, 0, 0)),
  (32, (.istore_n 1, 33, 0, 0, 0, 0)),
  (33, (.iconst 0, 34, 0, 0, 0, 0)),
  (34, (.istore_n 2, 35, 0, 0, 0, 0)),
  (35, (.iload_n 2, 36, 0, 0, 0, 0)),
  (36, (.aload_n 0, 37, 0, 0, 0, 0)),
  (37, (.invokevirtual 259, 40, 186, 0, 236, 11)),
  (40, (.if_icmp .ge 32, 43, 72, 0, 0, 0)),
  (43, (.iload_n 1, 44, 0, 0, 0, 0)),
  (44, (.aload_n 0, 45, 0, 0, 0, 0)),
  (45, (.getfield 109, 48, 24, 11, 151, 0)),
  (48, (.sipush 1037, 51, 0, 0, 0, 0)),
  (51, (.iload_n 2, 52, 0, 0, 0, 0)),
  (52, (.iadd, 53, 0, 0, 0, 0)),
  (53, (.iaload, 54, 0, 0, 0, 0)),
  (54, (.ifCond .ne 9, 57, 63, 0, 0, 0)),
  (57, (.iconst 1, 58, 0, 0, 0, 0)),
  (58, (.iload_n 2, 59, 0, 0, 0, 0)),
  (59, (.ishl, 60, 0, 0, 0, 0)),
  (60, (.goto 4, 63, 64, 0, 0, 0)),
  (63, (.iconst 0, 64, 0, 0, 0, 0)),
  (64, (.ior, 65, 0, 0, 0, 0)),
  (65, (.istore_n 1, 66, 0, 0, 0, 0)),
  (66, (.iinc 2 1, 69, 0, 0, 0, 0)),
  (69, (.goto (-34), 72, 35, 0, 0, 0)),
  (72, (.iload_n 1, 73, 0, 0, 0, 0)),
  (73, (.ireturn, 74, 0, 0, 0, 0))]
def am_r257 : List (Nat × am_R) := [(0, (.aload_n 0, 1, 0, 0, 0, 0)),
  (1, (.iconst 0, 2, 0, 0, 0, 0)),
  (2, (.putfield 1, 5, 0, 11, 127, 0)),
  (5, (.iconst (-1), 6, 0, 0, 0, 0)),
  (6, (.istore_n 2, 7, 0, 0, 0, 0)),
  (7, (.iconst (-1), 8, 0, 0, 0, 0)),
  (8, (.istore_n 3, 9, 0, 0, 0, 0)),
  (9, (.iconst 0, 10, 0, 0, 0, 0)),
  (10, (.istore 4, 12, 0, 0, 0, 0)),
  (12, (.iload 4, 14, 0, 0, 0, 0)),
  (14, (.bipush 7, 16, 0, 0, 0, 0)),
  (16, (.if_icmp .ge 91, 19, 107, 0, 0, 0)),
  (19, (.aload_n 0, 20, 0, 0, 0, 0)),
  (20, (.iload_n 1, 21, 0, 0, 0, 0)),
  (21, (.invokevirtual 319, 24, 227, 1, 277, 11)),
  (24, (.ifCond .eq 83, 27, 107, 0, 0, 0)),
  (27, (.aload_n 0, 28, 0, 0, 0, 0)),
  (28, (.getfield 116, 31, 27, 11, 154, 0)),
  (31, (.iload_n 1, 32, 0, 0, 0, 0)),
  (32, (.iload 4, 34, 0, 0, 0, 0)),
  (34, (.iastore, 35, 0, 0, 0, 0)),
  (35, (.aload_n 0, 36, 0, 0, 0, 0)),
  (36, (.invokevirtual 339, 39, 247, 0, 297, 11)),
  (39, (.iconst 0, 40, 0, 0, 0, 0)),
  (40, (.istore 5, 42, 0, 0, 0, 0)),
  (42, (.iload 5, 44, 0, 0, 0, 0)),
  (44, (.bipush 28, 46, 0, 0, 0, 0)),
  (46, (.if_icmp .ge 17, 49, 63, 0, 0, 0)),
  (49, (.aload_n 0, 50, 0, 0, 0, 0)),
  (50, (.sipush 1029, 53, 0, 0, 0, 0)),
  (53, (.invokevirtual 328, 56, 233, 1, 283, 11)),
  (56, (.pop, 57, 0, 0, 0, 0)),
  (57, (.iinc 5 1, 60, 0, 0, 0, 0)),
  (60, (.goto (-18), 63, 42, 0, 0, 0)),
  (63, (.aload_n 0, 64, 0, 0, 0, 0)),
  (64, (.getfield 109, 67, 24, 11, 151, 0)),
  (67, (.sipush 1043, 70, 0, 0, 0, 0)),
  (70, (.iload_n 1, 71, 0, 0, 0, 0)),
  (71, (.iadd, 72, 0, 0, 0, 0)),
  (72, (.iaload, 73, 0, 0, 0, 0)),
  (73, (.istore 5, 75, 0, 0, 0, 0)),
  (75, (.iload 5, 77, 0, 0, 0, 0)),
  (77, (.iload_n 3, 78, 0, 0, 0, 0)),
  (78, (.if_icmp .le 8, 81, 86, 0, 0, 0)),
  (81, (.iload 4, 83, 0, 0, 0, 0)),
  (83, (.goto 4, 86, 87, 0, 0, 0)),
  (86, (.iload_n 2, 87, 0, 0, 0, 0)),
  (87, (.istore_n 2, 88, 0, 0, 0, 0)),
  (88, (.iload 5, 90, 0, 0, 0, 0)),
  (90, (.iload_n 3, 91, 0, 0, 0, 0)),
  (91, (.if_icmp .le 8, 94, 99, 0, 0, 0)),
  (94, (.iload 5, 96, 0, 0, 0, 0)),
  (96, (.goto 4, 99, 100, 0, 0, 0)),
  (99, (.iload_n 3, 100, 0, 0, 0, 0)),
  (100, (.istore_n 3, 101, 0, 0, 0, 0)),
  (101, (.iinc 4 1, 104, 0, 0, 0, 0)),
  (104, (.goto (-92), 107, 12, 0, 0, 0)),
  (107, (.aload_n 0, 108, 0, 0, 0, 0)),
  (108, (.invokevirtual 272, 111, 182, 0, 232, 11)),
  (111, (.iload_n 2, 112, 0, 0, 0, 0)),
  (112, (.ireturn, 113, 0, 0, 0, 0))]
def am_r258 : List (Nat × am_R) := [(0, (.aload_n 0, 1, 0, 0, 0, 0)),
  (1, (.iconst 0, 2, 0, 0, 0, 0)),
  (2, (.putfield 1, 5, 0, 11, 127, 0)),
  (5, (.aload_n 0, 6, 0, 0, 0, 0)),
  (6, (.invokevirtual 339, 9, 247, 0, 297, 11)),
  (9, (.iconst (-1), 10, 0, 0, 0, 0)),
  (10, (.istore_n 2, 11, 0, 0, 0, 0)),
  (11, (.iconst 1, 12, 0, 0, 0, 0)),
  (12, (.istore_n 3, 13, 0, 0, 0, 0)),
  (13, (.iload_n 3, 14, 0, 0, 0, 0)),
  (14, (.bipush 60, 16, 0, 0, 0, 0)),
  (16, (.if_icmp .gt 38, 19, 54, 0, 0, 0)),
  (19, (.aload_n 0, 20, 0, 0, 0, 0)),
  (20, (.iload_n 1, 21, 0, 0, 0, 0)),
  (21, (.invokevirtual 319, 24, 227, 1, 277, 11)),
  (24, (.ifCond .eq 30, 27, 54, 0, 0, 0)),
  (27, (.aload_n 0, 28, 0, 0, 0, 0)),
  (28, (.sipush 1029, 31, 0, 0, 0, 0)),
  (31, (.invokevirtual 328, 34, 233, 1, 283, 11)),
  (34, (.iload_n 1, 35, 0, 0, 0, 0)),
  (35, (.ishr, 36, 0, 0, 0, 0)),
  (36, (.iconst 1, 37, 0, 0, 0, 0)),
  (37, (.iand, 38, 0, 0, 0, 0)),
  (38, (.iconst 1, 39, 0, 0, 0, 0)),
  (39, (.if_icmp .ne 7, 42, 46, 0, 0, 0)),
  (42, (.iload_n 3, 43, 0, 0, 0, 0)),
  (43, (.goto 4, 46, 47, 0, 0, 0)),
  (46, (.iload_n 2, 47, 0, 0, 0, 0)),
  (47, (.istore_n 2, 48, 0, 0, 0, 0)),
  (48, (.iinc 3 1, 51, 0, 0, 0, 0)),
  (51, (.goto (-38), 54, 13, 0, 0, 0)),
  (54, (.iload_n 2, 55, 0, 0, 0, 0)),
  (55, (.ireturn, 56, 0, 0, 0, 0))]
def am_r259 : List (Nat × am_R) := [(0, (.aload_n 0, 1, 0, 0, 0, 0)),
  (1, (.iconst 0, 2, 0, 0, 0, 0)),
  (2, (.putfield 1, 5, 0, 11, 127, 0)),
  (5, (.aload_n 0, 6, 0, 0, 0, 0)),
  (6, (.invokevirtual 339, 9, 247, 0, 297, 11)),
  (9, (.iconst 0, 10, 0, 0, 0, 0)),
  (10, (.istore_n 1, 11, 0, 0, 0, 0)),
  (11, (.iload_n 1, 12, 0, 0, 0, 0)),
  (12, (.bipush 6, 14, 0, 0, 0, 0)),
  (14, (.if_icmp .ge 20, 17, 34, 0, 0, 0)),
  (17, (.aload_n 0, 18, 0, 0, 0, 0)),
  (18, (.getfield 119, 21, 29, 11, 156, 0)),
  (21, (.iload_n 1, 22, 0, 0, 0, 0)),
  (22, (.iconst 1, 23, 0, 0, 0, 0)),
  (23, (.iload_n 1, 24, 0, 0, 0, 0)),
  (24, (.ishl, 25, 0, 0, 0, 0)),
  (25, (.iconst 1, 26, 0, 0, 0, 0)),
  (26, (.isub, 27, 0, 0, 0, 0)),
  (27, (.iastore, 28, 0, 0, 0, 0)),
  (28, (.iinc 1 1, 31, 0, 0, 0, 0)),
  (31, (.goto (-20), 34, 11, 0, 0, 0)),
  (34, (.iconst 0, 35, 0, 0, 0, 0)),
  (35, (.istore_n 1, 36, 0, 0, 0, 0)),
  (36, (.iload_n 1, 37, 0, 0, 0, 0)),
  (37, (.bipush 28, 39, 0, 0, 0, 0)),
  (39, (.if_icmp .ge 81, 42, 120, 0, 0, 0)),
  (42, (.aload_n 0, 43, 0, 0, 0, 0)),
  (43, (.sipush 1029, 46, 0, 0, 0, 0)),
  (46, (.invokevirtual 328, 49, 233, 1, 283, 11)),
  (49, (.pop, 50, 0, 0, 0, 0)),
  (50, (.iconst 0, 51, 0, 0, 0, 0)),
  (51, (.istore_n 2, 52, 0, 0, 0, 0)),
  (52, (.iload_n 2, 53, 0, 0, 0, 0)),
  (53, (.bipush 6, 55, 0, 0, 0, 0)),
  (55, (.aload_n 0, 56, 0, 0, 0, 0)),
  (56, (.invokevirtual 266, 59, 183, 0, 233, 11)),
  (59, (.imul, 60, 0, 0, 0, 0)),
  (60, (.if_icmp .ge 54, 63, 114, 0, 0, 0)),
  (63, (.aload_n 0, 64, 0, 0, 0, 0)),
  (64, (.getfield 109, 67, 24, 11, 151, 0)),
  (67, (.sipush 1048, 70, 0, 0, 0, 0)),
  (70, (.iload_n 2, 71, 0, 0, 0, 0)),
  (71, (.bipush 6, 73, 0, 0, 0, 0)),
  (73, (.idiv, 74, 0, 0, 0, 0)),
  (74, (.iadd, 75, 0, 0, 0, 0)),
  (75, (.iaload, 76, 0, 0, 0, 0)),
  (76, (.istore_n 3, 77, 0, 0, 0, 0)),
  (77, (.aload_n 0, 78, 0, 0, 0, 0)),
  (78, (.getfield 119, 81, 29, 11, 156, 0)),
  (81, (.iload_n 2, 82, 0, 0, 0, 0)),
  (82, (.bipush 6, 84, 0, 0, 0, 0)),
  (84, (.irem, 85, 0, 0, 0, 0)),
  (85, (.dup2, 86, 0, 0, 0, 0)),
  (86, (.iaload, 87, 0, 0, 0, 0)),
  (87, (.iload_n 3, 88, 0, 0, 0, 0)),
  (88, (.iload_n 2, 89, 0, 0, 0, 0)),
  (89, (.bipush 6, 91, 0, 0, 0, 0)),
  (91, (.irem, 92, 0, 0, 0, 0)),
  (92, (.ishr, 93, 0, 0, 0, 0)),
  (93, (.iconst 1, 94, 0, 0, 0, 0)),
  (94, (.iand, 95, 0, 0, 0, 0)),
  (95, (.iconst 1, 96, 0, 0, 0, 0)),
  (96, (.if_icmp .ne 7, 99, 103, 0, 0, 0)),
  (99, (.iload_n 3, 100, 0, 0, 0, 0)),
  (100, (.goto 6, 103, 106, 0, 0, 0)),
  (103, (.iload_n 3, 104, 0, 0, 0, 0)),
  (104, (.iconst (-1), 105, 0, 0, 0, 0)),
  (105, (.ixor, 106, 0, 0, 0, 0)),
  (106, (.iand, 107, 0, 0, 0, 0)),
  (107, (.iastore, 108, 0, 0, 0, 0)),
  (108, (.iinc 2 1, 111, 0, 0, 0, 0)),
  (111, (.goto (-59), 114, 52, 0, 0, 0)),
  (114, (.iinc 1 1, 117, 0, 0, 0, 0)),
  (117, (.goto (-81), 120, 36, 0, 0, 0)),
  (120, (.iconst 0, 121, 0, 0, 0, 0)),
  (121, (.istore_n 1, 122, 0, 0, 0, 0)),
  (122, (.iconst 0, 123, 0, 0, 0, 0)),
  (123, (.istore_n 2, 124, 0, 0, 0, 0)),
  (124, (.iload_n 2, 125, 0, 0, 0, 0)),
  (125, (.aload_n 0, 126, 0, 0, 0, 0)),
  (126, (.invokevirtual 259, 129, 186, 0, 236, 11)),
  (129, (.if_icmp .ge 21, 132, 150, 0, 0, 0)),
  (132, (.iload_n 1, 133, 0, 0, 0, 0)),
  (133, (.aload_n 0, 134, 0, 0, 0, 0)),
  (134, (.getfield 119, 137, 29, 11, 156, 0)),
  (137, (.iload_n 2, 138, 0, 0, 0, 0)),
  (138, (.iaload, 139, 0, 0, 0, 0)),
  (139, (.invokestatic 297, 142, 235, 1, 285, 0)),
  (142, (.iadd, 143, 0, 0, 0, 0)),
  (143, (.istore_n 1, 144, 0, 0, 0, 0)),
  (144, (.iinc 2 1, 147, 0, 0, 0, 0)),
  (147, (.goto (-23), 150, 124, 0, 0, 0)),
  (150, (.iload_n 1, 151, 0, 0, 0, 0)),
  (151, (.ireturn, 152, 0, 0, 0, 0))]
def am_r260 : List (Nat × am_R) := [(0, (.aload_n 0, 1, 0, 0, 0, 0)),
  (1, (.iconst 0, 2, 0, 0, 0, 0)),
  (2, (.putfield 1, 5, 0, 11, 127, 0)),
  (5, (.iconst (-1), 6, 0, 0, 0, 0)),
  (6, (.istore_n 1, 7, 0, 0, 0, 0)),
  (7, (.iconst (-1), 8, 0, 0, 0, 0)),
  (8, (.istore_n 2, 9, 0, 0, 0, 0)),
  (9, (.iconst 0, 10, 0, 0, 0, 0)),
  (10, (.istore_n 3, 11, 0, 0, 0, 0)),
  (11, (.iload_n 3, 12, 0, 0, 0, 0)),
  (12, (.aload_n 0, 13, 0, 0, 0, 0)),
  (13, (.invokevirtual 259, 16, 186, 0, 236, 11)),
  (16, (.if_icmp .ge 99, 19, 115, 0, 0, 0)),
  (19, (.iconst 0, 20, 0, 0, 0, 0)),
  (20, (.istore 4, 22, 0, 0, 0, 0)),
  (22, (.iconst 1, 23, 0, 0, 0, 0)),
  (23, (.istore 5, 25, 0, 0, 0, 0)),
  (25, (.iload 5, 27, 0, 0, 0, 0)),
  (27, (.bipush 28, 29, 0, 0, 0, 0)),
  (29, (.if_icmp .gt 55, 32, 84, 0, 0, 0)),
  (32, (.aload_n 0, 33, 0, 0, 0, 0)),
  (33, (.getfield 109, 36, 24, 11, 151, 0)),
  (36, (.iconst 0, 37, 0, 0, 0, 0)),
  (37, (.iaload, 38, 0, 0, 0, 0)),
  (38, (.iload 5, 40, 0, 0, 0, 0)),
  (40, (.iadd, 41, 0, 0, 0, 0)),
  (41, (.istore 6, 43, 0, 0, 0, 0)),
  (43, (.iload 4, 45, 0, 0, 0, 0)),
  (45, (.iload 6, 47, 0, 0, 0, 0)),
  (47, (.aload_n 0, 48, 0, 0, 0, 0)),
  (48, (.iconst 0, 49, 0, 0, 0, 0)),
  (49, (.iload_n 3, 50, 0, 0, 0, 0)),
  (50, (.invokevirtual 288, 53, 223, 2, 273, 11)),
  (53, (.aload_n 0, 54, 0, 0, 0, 0)),
  (54, (.iload 6, 56, 0, 0, 0, 0)),
  (56, (.invokevirtual 307, 59, 224, 1, 274, 11)),
  (59, (.invokestatic 291, 62, 225, 3, 275, 0)),
  (62, (.iload 6, 64, 0, 0, 0, 0)),
  (64, (.bipush 7, 66, 0, 0, 0, 0)),
  (66, (.irem, 67, 0, 0, 0, 0)),
  (67, (.if_icmp .ne 7, 70, 74, 0, 0, 0)),
  (70, (.iconst 1, 71, 0, 0, 0, 0)),
  (71, (.goto 4, 74, 75, 0, 0, 0)),
  (74, (.iconst 0, 75, 0, 0, 0, 0)),
  (75, (.iadd, 76, 0, 0, 0, 0)),
  (76, (.istore 4, 78, 0, 0, 0, 0)),
  (78, (.iinc 5 1, 81, 0, 0, 0, 0)),
  (81, (.goto (-56), 84, 25, 0, 0, 0)),
  (84, (.iload 4, 86, 0, 0, 0, 0)),
  (86, (.iload_n 2, 87, 0, 0, 0, 0)),
  (87, (.if_icmp .le 7, 90, 94, 0, 0, 0)),
  (90, (.iload_n 3, 91, 0, 0, 0, 0)),
  (91, (.goto 4, 94, 95, 0, 0, 0)),
  (94, (.iload_n 1, 95, 0, 0, 0, 0)),
  (95, (.istore_n 1, 96, 0, 0, 0, 0)),
  (96, (.iload 4, 98, 0, 0, 0, 0)),
  (98, (.iload_n 2, 99, 0, 0, 0, 0)),
  (99, (.if_icmp .le 8, 102, 107, 0, 0, 0)),
  (102, (.iload 4, 104, 0, 0, 0, 0)),
  (104, (.goto 4, 107, 108, 0, 0, 0)),
  (107, (.iload_n 2, 108, 0, 0, 0, 0)),
  (108, (.istore_n 2, 109, 0, 0, 0, 0)),
  (109, (.iinc 3 1, 112, 0, 0, 0, 0)),
  (112, (.goto (-101), 115, 11, 0, 0, 0)),
  (115, (.iload_n 1, 116, 0, 0, 0, 0)),
  (116, (.ireturn, 117, 0, 0, 0, 0))]
def am_r261 : List (Nat × am_R) := [(0, (.aload_n 0, 1, 0, 0, 0, 0)),
  (1, (.iconst 0, 2, 0, 0, 0, 0)),
  (2, (.putfield 1, 5, 0, 11, 127, 0)),
  (5, (.aload_n 0, 6, 0, 0, 0, 0)),
  (6, (.iload_n 1, 7, 0, 0, 0, 0)),
  (7, (.invokevirtual 319, 10, 227, 1, 277, 11)),
  (10, (.ifCond .ne 5, 13, 15, 0, 0, 0)),
  (13, (.iconst (-1), 14, 0, 0, 0, 0)),
  (14, (.ireturn, 15, 0, 0, 0, 0)),
  (15, (.iconst 0, 16, 0, 0, 0, 0)),
  (16, (.istore_n 2, 17, 0, 0, 0, 0)),
  (17, (.bipush (-2), 19, 0, 0, 0, 0)),
  (19, (.istore_n 3, 20, 0, 0, 0, 0)),
  (20, (.iload_n 3, 21, 0, 0, 0, 0)),
  (21, (.iconst 2, 22, 0, 0, 0, 0)),
  (22, (.if_icmp .gt 41, 25, 63, 0, 0, 0)),
  (25, (.aload_n 0, 26, 0, 0, 0, 0)),
  (26, (.iload_n 3, 27, 0, 0, 0, 0)),
  (27, (.invokevirtual 345, 30, 262, 1, 312, 11)),
  (30, (.aload_n 0, 31, 0, 0, 0, 0)),
  (31, (.iload_n 1, 32, 0, 0, 0, 0)),
  (32, (.invokevirtual 322, 35, 228, 1, 278, 11)),
  (35, (.iand, 36, 0, 0, 0, 0)),
  (36, (.istore 4, 38, 0, 0, 0, 0)),
  (38, (.iload 4, 40, 0, 0, 0, 0)),
  (40, (.invokestatic 297, 43, 235, 1, 285, 0)),
  (43, (.iload_n 2, 44, 0, 0, 0, 0)),
  (44, (.invokestatic 297, 47, 235, 1, 285, 0)),
  (47, (.if_icmp .le 8, 50, 55, 0, 0, 0)),
  (50, (.iload 4, 52, 0, 0, 0, 0)),
  (52, (.goto 4, 55, 56, 0, 0, 0)),
  (55, (.iload_n 2, 56, 0, 0, 0, 0)),
  (56, (.istore_n 2, 57, 0, 0, 0, 0)),
  (57, (.iinc 3 1, 60, 0, 0, 0, 0)),
  (60, (.goto (-40), 63, 20, 0, 0, 0)),
  (63, (.iload_n 2, 64, 0, 0, 0, 0)),
  (64, (.ireturn, 65, 0, 0, 0, 0))]
def am_r262 : List (Nat × am_R) := [(0, (.iconst 0, 1, 0, 0, 0, 0)),
  (1, (.istore_n 2, 2, 0, 0, 0, 0)),
  (2, (.iconst 0, 3, 0, 0, 0, 0)),
  (3, (.istore_n 3, 4, 0, 0, 0, 0)),
  (4, (.iload_n 3, 5, 0, 0, 0, 0)),
  (5, (.aload_n 0, 6, 0, 0, 0, 0)),
  (6, (.invokevirtual 259, 9, 186, 0, 236, 11)),
  (9, (.if_icmp .ge 29, 12, 38, 0, 0, 0)),
  (12, (.iload_n 2, 13, 0, 0, 0, 0)),
  (13, (.aload_n 0, 14, 0, 0, 0, 0)),
  (14, (.iconst 0, 15, 0, 0, 0, 0)),
  (15, (.iload_n 3, 16, 0, 0, 0, 0)),
  (16, (.invokevirtual 288, 19, 223, 2, 273, 11)),
  (19, (.iload_n 1, 20, 0, 0, 0, 0)),
  (20, (.if_icmp .ne 9, 23, 29, 0, 0, 0)),
  (23, (.iconst 1, 24, 0, 0, 0, 0)),
  (24, (.iload_n 3, 25, 0, 0, 0, 0)),
  (25, (.ishl, 26, 0, 0, 0, 0)),
  (26, (.goto 4, 29, 30, 0, 0, 0)),
  (29, (.iconst 0, 30, 0, 0, 0, 0)),
  (30, (.ior, 31, 0, 0, 0, 0)),
  (31, (.istore_n 2, 32, 0, 0, 0, 0)),
  (32, (.iinc 3 1, 35, 0, 0, 0, 0)),
  (35, (.goto (-31), 38, 4, 0, 0, 0)),
  (38, (.iload_n 2, 39, 0, 0, 0, 0)),
  (39, (.ireturn, 40, 0, 0, 0, 0))]
def am_r263 : List (Nat × am_R) := [(0, (.aload_n 0, 1, 0, 0, 0, 0)),
  (1, (.iconst 0, 2, 0, 0, 0, 0)),
  (2, (.putfield 1, 5, 0, 11, 127, 0)),
  (5, (.aload_n 0, 6, 0, 0, 0, 0)),
  (6, (.iload_n 1, 7, 0, 0, 0, 0)),
  (7, (.invokevirtual 319, 10, 227, 1, 277, 11)),
  (10, (.ifCond .eq 12, 13, 22, 0, 0, 0)),
  (13, (.iload_n 2, 14, 0, 0, 0, 0)),
  (14, (.iconst 0, 15, 0, 0, 0, 0)),
  (15, (.iconst 1, 16, 0, 0, 0, 0)),
  (16, (.invokestatic 194, 19, 207, 3, 257, 0)),
  (19, (.ifCond .ne 6, 22, 25, 0, 0, 0)),
  (22, (.bipush (-3), 24, 0, 0, 0, 0)),
  (24, (.ireturn, 25, 0, 0, 0, 0)),
  (25, (.bipush (-3), 27, 0, 0, 0, 0)),
  (27, (.istore_n 3, 28, 0, 0, 0, 0)),
  (28, (.iconst (-1), 29, 0, 0, 0, 0)),
  (29, (.istore 4, 31, 0, 0, 0, 0)),
  (31, (.bipush (-2), 33, 0, 0, 0, 0)),
  (33, (.istore 5, 35, 0, 0, 0, 0)),
  (35, (.iload 5, 37, 0, 0, 0, 0)),
  (37, (.iconst 2, 38, 0, 0, 0, 0)),
  (38, (.if_icmp .gt 68, 41, 106, 0, 0, 0)),
  (41, (.aload_n 0, 42, 0, 0, 0, 0)),
  (42, (.iload_n 1, 43, 0, 0, 0, 0)),
  (43, (.iload 5, 45, 0, 0, 0, 0)),
  (45, (.invokevirtual 351, 48, 264, 2, 314, 11)),
  (48, (.istore 6, 50, 0, 0, 0, 0)),
  (50, (.iload 6, 52, 0, 0, 0, 0)),
  (52, (.ifCond .lt 19, 55, 71, 0, 0, 0)),
  (55, (.iload 4, 57, 0, 0, 0, 0)),
  (57, (.ifCond .lt 10, 60, 67, 0, 0, 0)),
  (60, (.iload 6, 62, 0, 0, 0, 0)),
  (62, (.iload 4, 64, 0, 0, 0, 0)),
  (64, (.if_icmp .ge 7, 67, 71, 0, 0, 0)),
  (67, (.iconst 1, 68, 0, 0, 0, 0)),
  (68, (.goto 4, 71, 72, 0, 0, 0)),
  (71, (.iconst 0, 72, 0, 0, 0, 0)),
  (72, (.istore 7, 74, 0, 0, 0, 0)),
  (74, (.iload 7, 76, 0, 0, 0, 0)),
  (76, (.ifCond .eq 8, 79, 84, 0, 0, 0)),
  (79, (.iload 5, 81, 0, 0, 0, 0)),
  (81, (.goto 4, 84, 85, 0, 0, 0)),
  (84, (.iload_n 3, 85, 0, 0, 0, 0)),
  (85, (.istore_n 3, 86, 0, 0, 0, 0)),
  (86, (.iload 7, 88, 0, 0, 0, 0)),
  (88, (.ifCond .eq 8, 91, 96, 0, 0, 0)),
  (91, (.iload 6, 93, 0, 0, 0, 0)),
  (93, (.goto 5, 96, 98, 0, 0, 0)),
  (96, (.iload 4, 98, 0, 0, 0, 0)),
  (98, (.istore 4, 100, 0, 0, 0, 0)),
  (100, (.iinc 5 1, 103, 0, 0, 0, 0)),
  (103, (.goto (-68), 106, 35, 0, 0, 0)),
  (106, (.iload 4, 108, 0, 0, 0, 0)),
  (108, (.ifCond .ge 8, 111, 116, 0, 0, 0)),
  (111, (.bipush (-3), 113, 0, 0, 0, 0)),
  (113, (.goto 13, 116, 126, 0, 0, 0)),
  (116, (.iload_n 2, 117, 0, 0, 0, 0)),
  (117, (.ifCond .ne 8, 120, 125, 0, 0, 0)),
  (120, (.iload 4, 122, 0, 0, 0, 0)),
  (122, (.goto 4, 125, 126, 0, 0, 0)),
  (125, (.iload_n 3, 126, 0, 0, 0, 0)),
  (126, (.ireturn, 127, 0, 0, 0, 0))]
def am_r264 : List (Nat × am_R) := [(0, (.aload_n 0, 1, 0, 0, 0, 0)),
  (1, (.iload_n 1, 2, 0, 0, 0, 0)),
  (2, (.iconst 1, 3, 0, 0, 0, 0)),
  (3, (.invokevirtual 269, 6, 184, 2, 234, 11)),
  (6, (.istore_n 3, 7, 0, 0, 0, 0)),
  (7, (.iconst 0, 8, 0, 0, 0, 0)),
  (8, (.istore 4, 10, 0, 0, 0, 0)),
  (10, (.iconst 0, 11, 0, 0, 0, 0)),
  (11, (.istore 5, 13, 0, 0, 0, 0)),
  (13, (.iload 5, 15, 0, 0, 0, 0)),
  (15, (.iconst 4, 16, 0, 0, 0, 0)),
  (16, (.if_icmp .gt 111, 19, 127, 0, 0, 0)),
  (19, (.iconst 0, 20, 0, 0, 0, 0)),
  (20, (.istore 6, 22, 0, 0, 0, 0)),
  (22, (.iload 6, 24, 0, 0, 0, 0)),
  (24, (.aload_n 0, 25, 0, 0, 0, 0)),
  (25, (.invokevirtual 259, 28, 186, 0, 236, 11)),
  (28, (.if_icmp .ge 93, 31, 121, 0, 0, 0)),
  (31, (.aload_n 0, 32, 0, 0, 0, 0)),
  (32, (.iload 6, 34, 0, 0, 0, 0)),
  (34, (.iconst 0, 35, 0, 0, 0, 0)),
  (35, (.invokevirtual 263, 38, 187, 2, 237, 11)),
  (38, (.iconst 3, 39, 0, 0, 0, 0)),
  (39, (.if_icmp .ne 7, 42, 46, 0, 0, 0)),
  (42, (.iconst 1, 43, 0, 0, 0, 0)),
  (43, (.goto 4, 46, 47, 0, 0, 0)),
  (46, (.iconst 0, 47, 0, 0, 0, 0)),
  (47, (.istore 7, 49, 0, 0, 0, 0)),
  (49, (.iload 7, 51, 0, 0, 0, 0)),
  (51, (.ifCond .eq 16, 54, 67, 0, 0, 0)),
  (54, (.iload_n 2, 55, 0, 0, 0, 0)),
  (55, (.ifCond .ne 7, 58, 62, 0, 0, 0)),
  (58, (.iconst 0, 59, 0, 0, 0, 0)),
  (59, (.goto 23, 62, 82, 0, 0, 0)),
  (62, (.bipush 9, 64, 0, 0, 0, 0)),
  (64, (.goto 18, 67, 82, 0, 0, 0)),
  (67, (.aload_n 0, 68, 0, 0, 0, 0)),
  (68, (.getfield 109, 71, 24, 11, 151, 0)),
  (71, (.iconst 2, 72, 0, 0, 0, 0)),
  (72, (.iload 6, 74, 0, 0, 0, 0)),
  (74, (.iadd, 75, 0, 0, 0, 0)),
  (75, (.iaload, 76, 0, 0, 0, 0)),
  (76, (.iload_n 2, 77, 0, 0, 0, 0)),
  (77, (.iconst 2, 78, 0, 0, 0, 0)),
  (78, (.iadd, 79, 0, 0, 0, 0)),
  (79, (.invokestatic 348, 82, 265, 2, 315, 0)),
  (82, (.istore 8, 84, 0, 0, 0, 0)),
  (84, (.aload_n 0, 85, 0, 0, 0, 0)),
  (85, (.iload 6, 87, 0, 0, 0, 0)),
  (87, (.iload_n 1, 88, 0, 0, 0, 0)),
  (88, (.invokevirtual 284, 91, 229, 2, 279, 11)),
  (91, (.ifCond .eq 24, 94, 115, 0, 0, 0)),
  (94, (.iload 8, 96, 0, 0, 0, 0)),
  (96, (.iload 5, 98, 0, 0, 0, 0)),
  (98, (.if_icmp .ne 17, 101, 115, 0, 0, 0)),
  (101, (.iload_n 3, 102, 0, 0, 0, 0)),
  (102, (.ifCond .le 13, 105, 115, 0, 0, 0)),
  (105, (.iinc 3 (-1), 108, 0, 0, 0, 0)),
  (108, (.iload 4, 110, 0, 0, 0, 0)),
  (110, (.iload 5, 112, 0, 0, 0, 0)),
  (112, (.iadd, 113, 0, 0, 0, 0)),
  (113, (.istore 4, 115, 0, 0, 0, 0)),
  (115, (.iinc 6 1, 118, 0, 0, 0, 0)),
  (118, (.goto (-96), 121, 22, 0, 0, 0)),
  (121, (.iinc 5 1, 124, 0, 0, 0, 0)),
  (124, (.goto (-111), 127, 13, 0, 0, 0)),
  (127, (.iload_n 3, 128, 0, 0, 0, 0)),
  (128, (.ifCond .le 7, 131, 135, 0, 0, 0)),
  (131, (.iconst (-1), 132, 0, 0, 0, 0)),
  (132, (.goto 5, 135, 137, 0, 0, 0)),
  (135, (.iload 4, 137, 0, 0, 0, 0)),
  (137, (.ireturn, 138, 0, 0, 0, 0))]
def am_r265 : List (Nat × am_R) := [(0, (.iload_n 0, 1, 0, 0, 0, 0)),
  (1, (.iload_n 1, 2, 0, 0, 0, 0)),
  (2, (.if_icmp .ge 9, 5, 11, 0, 0, 0)),
  (5, (.iload_n 1, 6, 0, 0, 0, 0)),
  (6, (.iload_n 0, 7, 0, 0, 0, 0)),
  (7, (.isub, 8, 0, 0, 0, 0)),
  (8, (.goto 6, 11, 14, 0, 0, 0)),
  (11, (.iload_n 0, 12, 0, 0, 0, 0)),
  (12, (.iload_n 1, 13, 0, 0, 0, 0)),
  (13, (.isub, 14, 0, 0, 0, 0)),
  (14, (.ireturn, 15, 0, 0, 0, 0))]
def am_r266 : List (Nat × am_R) := [(0, (.aload_n 0, 1, 0, 0, 0, 0)),
  (1, (.iconst 0, 2, 0, 0, 0, 0)),
  (2, (.putfield 1, 5, 0, 11, 127, 0)),
  (5, (.aload_n 0, 6, 0, 0, 0, 0)),
  (6, (.iload_n 1, 7, 0, 0, 0, 0)),
  (7, (.invokevirtual 319, 10, 227, 1, 277, 11)),
  (10, (.ifCond .eq 25, 13, 35, 0, 0, 0)),
  (13, (.iload_n 2, 14, 0, 0, 0, 0)),
  (14, (.iconst 1, 15, 0, 0, 0, 0)),
  (15, (.bipush 28, 17, 0, 0, 0, 0)),
  (17, (.invokestatic 194, 20, 207, 3, 257, 0)),
  (20, (.ifCond .eq 15, 23, 35, 0, 0, 0)),
  (23, (.aload_n 0, 24, 0, 0, 0, 0)),
  (24, (.getfield 109, 27, 24, 11, 151, 0)),
  (27, (.bipush 24, 29, 0, 0, 0, 0)),
  (29, (.iaload, 30, 0, 0, 0, 0)),
  (30, (.bipush 8, 32, 0, 0, 0, 0)),
  (32, (.if_icmp .ne 5, 35, 37, 0, 0, 0)),
  (35, (.iconst 0, 36, 0, 0, 0, 0)),
  (36, (.ireturn, 37, 0, 0, 0, 0)),
  (37, (.bipush 25, 39, 0, 0, 0, 0)),
  (39, (.iconst 3, 40, 0, 0, 0, 0)),
  (40, (.aload_n 0, 41, 0, 0, 0, 0)),
  (41, (.getfield 109, 44, 24, 11, 151, 0)),
  (44, (.bipush 24, 46, 0, 0, 0, 0)),
  (46, (.iaload, 47, 0, 0, 0, 0)),
  (47, (.imul, 48, 0, 0, 0, 0)),
  (48, (.iadd, 49, 0, 0, 0, 0)),
  (49, (.istore 4, 51, 0, 0, 0, 0)),
  (51, (.aload_n 0, 52, 0, 0, 0, 0)),
  (52, (.getfield 109, 55, 24, 11, 151, 0)),
  (55, (.iload 4, 57, 0, 0, 0, 0)),
  (57, (.iload_n 1, 58, 0, 0, 0, 0)),
  (58, (.iastore, 59, 0, 0, 0, 0)),
  (59, (.aload_n 0, 60, 0, 0, 0, 0)),
  (60, (.getfield 109, 63, 24, 11, 151, 0)),
  (63, (.iload 4, 65, 0, 0, 0, 0)),
  (65, (.iconst 1, 66, 0, 0, 0, 0)),
  (66, (.iadd, 67, 0, 0, 0, 0)),
  (67, (.iload_n 2, 68, 0, 0, 0, 0)),
  (68, (.iastore, 69, 0, 0, 0, 0)),
  (69, (.aload_n 0, 70, 0, 0, 0, 0)),
  (70, (.getfield 109, 73, 24, 11, 151, 0)),
  (73, (.iload 4, 75, 0, 0, 0, 0)),
  (75, (.iconst 2, 76, 0, 0, 0, 0)),
  (76, (.iadd, 77, 0, 0, 0, 0)),
  (77, (.iload_n 3, 78, 0, 0, 0, 0)),
  (78, (.ifCond .eq 7, 81, 85, 0, 0, 0)),
  (81, (.iconst 1, 82, 0, 0, 0, 0)),
  (82, (.goto 4, 85, 86, 0, 0, 0)),
  (85, (.iconst 0, 86, 0, 0, 0, 0)),
  (86, (.iastore, 87, 0, 0, 0, 0)),
  (87, (.aload_n 0, 88, 0, 0, 0, 0)),
  (88, (.getfield 109, 91, 24, 11, 151, 0)),
  (91, (.bipush 24, 93, 0, 0, 0, 0)),
  (93, (.dup2, 94, 0, 0, 0, 0)),
  (94, (.iaload, 95, 0, 0, 0, 0)),
  (95, (.iconst 1, 96, 0, 0, 0, 0)),
  (96, (.iadd, 97, 0, 0, 0, 0)),
  (97, (.iastore, 98, 0, 0, 0, 0)),
  (98, (.iconst 1, 99, 0, 0, 0, 0)),
  (99, (.ireturn, 100, 0, 0, 0, 0))]
def am_r267 : List (Nat × am_R) := [(0, (.aload_n 0, 1, 0, 0, 0, 0)),
  (1, (.iconst 0, 2, 0, 0, 0, 0)),
  (2, (.putfield 1, 5, 0, 11, 127, 0)),
  (5, (.aload_n 0, 6, 0, 0, 0, 0)),
  (6, (.invokevirtual 357, 9, 268, 0, 318, 11)),
  (9, (.ireturn, 10, 0, 0, 0, 0))]
def am_r268 : List (Nat × am_R) := [(0, (.iconst 0, 1, 0, 0, 0, 0)),
  (1, (.istore_n 1, 2, 0, 0, 0, 0)),
  (2, (.iconst 0, 3, 0, 0, 0, 0)),
  (3, (.istore_n 2, 4, 0, 0, 0, 0)),
  (4, (.iload_n 2, 5, 0, 0, 0, 0)),
  (5, (.iconst 5, 6, 0, 0, 0, 0)),
  (6, (.if_icmp .ge 107, 9, 113, 0, 0, 0)),
  (9, (.iconst 1, 10, 0, 0, 0, 0)),
  (10, (.istore_n 3, 11, 0, 0, 0, 0)),
  (11, (.iconst 0, 12, 0, 0, 0, 0)),
  (12, (.istore 4, 14, 0, 0, 0, 0)),
  (14, (.iload 4, 16, 0, 0, 0, 0)),
  (16, (.aload_n 0, 17, 0, 0, 0, 0)),
  (17, (.getfield 109, 20, 24, 11, 151, 0)),
  (20, (.bipush 24, 22, 0, 0, 0, 0)),
  (22, (.iaload, 23, 0, 0, 0, 0)),
  (23, (.if_icmp .ge 70, 26, 93, 0, 0, 0)),
  (26, (.bipush 25, 28, 0, 0, 0, 0)),
  (28, (.iconst 3, 29, 0, 0, 0, 0)),
  (29, (.iload 4, 31, 0, 0, 0, 0)),
  (31, (.imul, 32, 0, 0, 0, 0)),
  (32, (.iadd, 33, 0, 0, 0, 0)),
  (33, (.istore 5, 35, 0, 0, 0, 0)),
  (35, (.iload_n 3, 36, 0, 0, 0, 0)),
  (36, (.ifCond .eq 49, 39, 85, 0, 0, 0)),
  (39, (.aload_n 0, 40, 0, 0, 0, 0)),
  (40, (.iload_n 2, 41, 0, 0, 0, 0)),
  (41, (.aload_n 0, 42, 0, 0, 0, 0)),
  (42, (.getfield 109, 45, 24, 11, 151, 0)),
  (45, (.iload 5, 47, 0, 0, 0, 0)),
  (47, (.iaload, 48, 0, 0, 0, 0)),
  (48, (.aload_n 0, 49, 0, 0, 0, 0)),
  (49, (.getfield 109, 52, 24, 11, 151, 0)),
  (52, (.iload 5, 54, 0, 0, 0, 0)),
  (54, (.iconst 1, 55, 0, 0, 0, 0)),
  (55, (.iadd, 56, 0, 0, 0, 0)),
  (56, (.iaload, 57, 0, 0, 0, 0)),
  (57, (.invokevirtual 354, 60, 269, 3, 319, 11)),
  (60, (.aload_n 0, 61, 0, 0, 0, 0)),
  (61, (.getfield 109, 64, 24, 11, 151, 0)),
  (64, (.iload 5, 66, 0, 0, 0, 0)),
  (66, (.iconst 2, 67, 0, 0, 0, 0)),
  (67, (.iadd, 68, 0, 0, 0, 0)),
  (68, (.iaload, 69, 0, 0, 0, 0)),
  (69, (.iconst 1, 70, 0, 0, 0, 0)),
  (70, (.if_icmp .ne 7, 73, 77, 0, 0, 0)),
  (73, (.iconst 1, 74, 0, 0, 0, 0)),
  (74, (.goto 4, 77, 78, 0, 0, 0)),
  (77, (.iconst 0, 78, 0, 0, 0, 0)),
  (78, (.if_icmp .ne 7, 81, 85, 0, 0, 0)),
  (81, (.iconst 1, 82, 0, 0, 0, 0)),
  (82, (.goto 4, 85, 86, 0, 0, 0)),
  (85, (.iconst 0, 86, 0, 0, 0, 0)),
  (86, (.istore_n 3, 87, 0, 0, 0, 0)),
  (87, (.iinc 4 1, 90, 0, 0, 0, 0)),
  (90, (.goto (-76), 93, 14, 0, 0, 0)),
  (93, (.iload_n 1, 94, 0, 0, 0, 0)),
  (94, (.iload_n 3, 95, 0, 0, 0, 0)),
  (95, (.ifCond .eq 9, 98, 104, 0, 0, 0)),
  (98, (.iconst 1, 99, 0, 0, 0, 0)),
  (99, (.iload_n 2, 100, 0, 0, 0, 0)),
  (100, (.ishl, 101, 0, 0, 0, 0)),
  (101, (.goto 4, 104, 105, 0, 0, 0)),
  (104, (.iconst 0, 105, 0, 0, 0, 0)),
  (105, (.ior, 106, 0, 0, 0, 0)),
  (106, (.istore_n 1, 107, 0, 0, 0, 0)),
  (107, (.iinc 2 1, 110, 0, 0, 0, 0)),
  (110, (.goto (-106), 113, 4, 0, 0, 0)),
  (113, (.iload_n 1, 114, 0, 0, 0, 0)),
  (114, (.ireturn, 115, 0, 0, 0, 0))]
def am_r269 : List (Nat × am_R) := [(0, (.aload_n 0, 1, 0, 0, 0, 0)),
  (1, (.getfield 109, 4, 24, 11, 151, 0)),
  (4, (.iconst 0, 5, 0, 0, 0, 0)),
  (5, (.iaload, 6, 0, 0, 0, 0)),
  (6, (.iload_n 3, 7, 0, 0, 0, 0)),
  (7, (.iadd, 8, 0, 0, 0, 0)),
  (8, (.istore 4, 10, 0, 0, 0, 0)),
  (10, (.iload 4, 12, 0, 0, 0, 0)),
  (12, (.iload_n 1, 13, 0, 0, 0, 0)),
  (13, (.iconst 2, 14, 0, 0, 0, 0)),
  (14, (.isub, 15, 0, 0, 0, 0)),
  (15, (.aload_n 0, 16, 0, 0, 0, 0)),
  (16, (.iload 4, 18, 0, 0, 0, 0)),
  (18, (.invokevirtual 307, 21, 224, 1, 274, 11)),
  (21, (.invokestatic 291, 24, 225, 3, 275, 0)),
  (24, (.aload_n 0, 25, 0, 0, 0, 0)),
  (25, (.iload_n 2, 26, 0, 0, 0, 0)),
  (26, (.iconst 0, 27, 0, 0, 0, 0)),
  (27, (.invokevirtual 269, 30, 184, 2, 234, 11)),
  (30, (.if_icmp .ne 7, 33, 37, 0, 0, 0)),
  (33, (.iconst 1, 34, 0, 0, 0, 0)),
  (34, (.goto 4, 37, 38, 0, 0, 0)),
  (37, (.iconst 0, 38, 0, 0, 0, 0)),
  (38, (.ireturn, 39, 0, 0, 0, 0))]
def am_r270 : List (Nat × am_R) := [(0, (.aload_n 0, 1, 0, 0, 0, 0)),
  (1, (.iconst 0, 2, 0, 0, 0, 0)),
  (2, (.putfield 1, 5, 0, 11, 127, 0)),
  (5, (.aload_n 0, 6, 0, 0, 0, 0)),
  (6, (.invokevirtual 357, 9, 268, 0, 318, 11)),
  (9, (.istore_n 1, 10, 0, 0, 0, 0)),
  (10, (.iload_n 1, 11, 0, 0, 0, 0)),
  (11, (.invokestatic 297, 14, 235, 1, 285, 0)),
  (14, (.istore_n 2, 15, 0, 0, 0, 0)),
  (15, (.iconst (-1), 16, 0, 0, 0, 0)),
  (16, (.istore_n 3, 17, 0, 0, 0, 0)),
  (17, (.iload_n 2, 18, 0, 0, 0, 0)),
  (18, (.istore 4, 20, 0, 0, 0, 0)),
  (20, (.iconst 1, 21, 0, 0, 0, 0)),
  (21, (.istore 5, 23, 0, 0, 0, 0)),
  (23, (.iload 5, 25, 0, 0, 0, 0)),
  (25, (.bipush 28, 27, 0, 0, 0, 0)),
  (27, (.if_icmp .gt 134, 30, 161, 0, 0, 0)),
  (30, (.iconst 0, 31, 0, 0, 0, 0)),
  (31, (.istore 6, 33, 0, 0, 0, 0)),
  (33, (.iload 6, 35, 0, 0, 0, 0)),
  (35, (.aload_n 0, 36, 0, 0, 0, 0)),
  (36, (.invokevirtual 266, 39, 183, 0, 233, 11)),
  (39, (.if_icmp .ge 116, 42, 155, 0, 0, 0)),
  (42, (.iconst 0, 43, 0, 0, 0, 0)),
  (43, (.istore 7, 45, 0, 0, 0, 0)),
  (45, (.iconst 0, 46, 0, 0, 0, 0)),
  (46, (.istore 8, 48, 0, 0, 0, 0)),
  (48, (.iload 8, 50, 0, 0, 0, 0)),
  (50, (.iconst 5, 51, 0, 0, 0, 0)),
  (51, (.if_icmp .ge 42, 54, 93, 0, 0, 0)),
  (54, (.iload 7, 56, 0, 0, 0, 0)),
  (56, (.iload_n 1, 57, 0, 0, 0, 0)),
  (57, (.iload 8, 59, 0, 0, 0, 0)),
  (59, (.ishr, 60, 0, 0, 0, 0)),
  (60, (.iconst 1, 61, 0, 0, 0, 0)),
  (61, (.iand, 62, 0, 0, 0, 0)),
  (62, (.iconst 1, 63, 0, 0, 0, 0)),
  (63, (.if_icmp .ne 20, 66, 83, 0, 0, 0)),
  (66, (.aload_n 0, 67, 0, 0, 0, 0)),
  (67, (.iload 8, 69, 0, 0, 0, 0)),
  (69, (.iload 6, 71, 0, 0, 0, 0)),
  (71, (.iload 5, 73, 0, 0, 0, 0)),
  (73, (.invokevirtual 354, 76, 269, 3, 319, 11)),
  (76, (.ifCond .eq 7, 79, 83, 0, 0, 0)),
  (79, (.iconst 1, 80, 0, 0, 0, 0)),
  (80, (.goto 4, 83, 84, 0, 0, 0)),
  (83, (.iconst 0, 84, 0, 0, 0, 0)),
  (84, (.iadd, 85, 0, 0, 0, 0)),
  (85, (.istore 7, 87, 0, 0, 0, 0)),
  (87, (.iinc 8 1, 90, 0, 0, 0, 0)),
  (90, (.goto (-42), 93, 48, 0, 0, 0)),
  (93, (.iload 7, 95, 0, 0, 0, 0)),
  (95, (.iload_n 2, 96, 0, 0, 0, 0)),
  (96, (.iload 7, 98, 0, 0, 0, 0)),
  (98, (.isub, 99, 0, 0, 0, 0)),
  (99, (.if_icmp .le 8, 102, 107, 0, 0, 0)),
  (102, (.iload 7, 104, 0, 0, 0, 0)),
  (104, (.goto 7, 107, 111, 0, 0, 0)),
  (107, (.iload_n 2, 108, 0, 0, 0, 0)),
  (108, (.iload 7, 110, 0, 0, 0, 0)),
  (110, (.isub, 111, 0, 0, 0, 0)),
  (111, (.istore 8, 113, 0, 0, 0, 0)),
  (113, (.iload 8, 115, 0, 0, 0, 0)),
  (115, (.iload 4, 117, 0, 0, 0, 0)),
  (117, (.if_icmp .ge 14, 120, 131, 0, 0, 0)),
  (120, (.bipush 8, 122, 0, 0, 0, 0)),
  (122, (.iload 5, 124, 0, 0, 0, 0)),
  (124, (.imul, 125, 0, 0, 0, 0)),
  (125, (.iload 6, 127, 0, 0, 0, 0)),
  (127, (.iadd, 128, 0, 0, 0, 0)),
  (128, (.goto 4, 131, 132, 0, 0, 0)),
  (131, (.iload_n 3, 132, 0, 0, 0, 0)),
  (132, (.istore_n 3, 133, 0, 0, 0, 0)),
  (133, (.iload 8, 135, 0, 0, 0, 0)),
  (135, (.iload 4, 137, 0, 0, 0, 0)),
  (137, (.if_icmp .ge 8, 140, 145, 0, 0, 0)),
  (140, (.iload 8, 142, 0, 0, 0, 0)),
  (142, (.goto 5, 145, 147, 0, 0, 0)),
  (145, (.iload 4, 147, 0, 0, 0, 0)),
  (147, (.istore 4, 149, 0, 0, 0, 0)),
  (149, (.iinc 6 1, 152, 0, 0, 0, 0)),
  (152, (.goto (-119), 155, 33, 0, 0, 0)),
  (155, (.iinc 5 1, 158, 0, 0, 0, 0)),
  (158, (.goto (-135), 161, 23, 0, 0, 0)),
  (161, (.iload_n 3, 162, 0, 0, 0, 0)),
  (162, (.ireturn, 163, 0, 0, 0, 0))]
def am_r271 : List (Nat × am_R) := [(0, (.aload_n 0, 1, 0, 0, 0, 0)),
  (1, (.iconst 0, 2, 0, 0, 0, 0)),
  (2, (.putfield 1, 5, 0, 11, 127, 0)),
  (5, (.aload_n 0, 6, 0, 0, 0, 0)),
  (6, (.invokevirtual 363, 9, 272, 0, 322, 11)),
  (9, (.ireturn, 10, 0, 0, 0, 0))]
def am_r272 : List (Nat × am_R) := [(0, (.iconst (-1), 1, 0, 0, 0, 0)),
  (1, (.istore_n 1, 2, 0, 0, 0, 0)),
  (2, (.iconst 0, 3, 0, 0, 0, 0)),
  (3, (.istore_n 2, 4, 0, 0, 0, 0)),
  (4, (.iconst 0, 5, 0, 0, 0, 0)),
  (5, (.istore_n 3, 6, 0, 0, 0, 0)),
  (6, (.iload_n 3, 7, 0, 0, 0, 0)),
  (7, (.bipush 7, 9, 0, 0, 0, 0)),
  (9, (.if_icmp .ge 43, 12, 52, 0, 0, 0)),
  (12, (.aload_n 0, 13, 0, 0, 0, 0)),
  (13, (.iload_n 3, 14, 0, 0, 0, 0)),
  (14, (.invokevirtual 360, 17, 273, 1, 323, 11)),
  (17, (.iload_n 2, 18, 0, 0, 0, 0)),
  (18, (.if_icmp .le 7, 21, 25, 0, 0, 0)),
  (21, (.iload_n 3, 22, 0, 0, 0, 0)),
  (22, (.goto 4, 25, 26, 0, 0, 0)),
  (25, (.iload_n 1, 26, 0, 0, 0, 0)),
  (26, (.istore_n 1, 27, 0, 0, 0, 0)),
  (27, (.aload_n 0, 28, 0, 0, 0, 0)),
  (28, (.iload_n 3, 29, 0, 0, 0, 0)),
  (29, (.invokevirtual 360, 32, 273, 1, 323, 11)),
  (32, (.iload_n 2, 33, 0, 0, 0, 0)),
  (33, (.if_icmp .le 11, 36, 44, 0, 0, 0)),
  (36, (.aload_n 0, 37, 0, 0, 0, 0)),
  (37, (.iload_n 3, 38, 0, 0, 0, 0)),
  (38, (.invokevirtual 360, 41, 273, 1, 323, 11)),
  (41, (.goto 4, 44, 45, 0, 0, 0)),
  (44, (.iload_n 2, 45, 0, 0, 0, 0)),
  (45, (.istore_n 2, 46, 0, 0, 0, 0)),
  (46, (.iinc 3 1, 49, 0, 0, 0, 0)),
  (49, (.goto (-43), 52, 6, 0, 0, 0)),
  (52, (.iload_n 1, 53, 0, 0, 0, 0)),
  (53, (.ireturn, 54, 0, 0, 0, 0))]
def am_r273 : List (Nat × am_R) := [(0, (.iconst 0, 1, 0, 0, 0, 0)),
  (1, (.istore_n 2, 2, 0, 0, 0, 0)),
  (2, (.iconst 0, 3, 0, 0, 0, 0)),
  (3, (.istore_n 3, 4, 0, 0, 0, 0)),
  (4, (.iload_n 3, 5, 0, 0, 0, 0)),
  (5, (.aload_n 0, 6, 0, 0, 0, 0)),
  (6, (.invokevirtual 259, 9, 186, 0, 236, 11)),
  (9, (.if_icmp .ge 26, 12, 35, 0, 0, 0)),
  (12, (.iload_n 2, 13, 0, 0, 0, 0)),
  (13, (.aload_n 0, 14, 0, 0, 0, 0)),
  (14, (.iload_n 3, 15, 0, 0, 0, 0)),
  (15, (.invokevirtual 316, 18, 222, 1, 272, 11)),
  (18, (.iload_n 1, 19, 0, 0, 0, 0)),
  (19, (.if_icmp .ne 7, 22, 26, 0, 0, 0)),
  (22, (.iconst 1, 23, 0, 0, 0, 0)),
  (23, (.goto 4, 26, 27, 0, 0, 0)),
  (26, (.iconst 0, 27, 0, 0, 0, 0)),
  (27, (.iadd, 28, 0, 0, 0, 0)),
  (28, (.istore_n 2, 29, 0, 0, 0, 0)),
  (29, (.iinc 3 1, 32, 0, 0, 0, 0)),
  (32, (.goto (-28), 35, 4, 0, 0, 0)),
  (35, (.iload_n 2, 36, 0, 0, 0, 0)),
  (36, (.ireturn, 37, 0, 0, 0, 0))]
def am_r274 : List (Nat × am_R) := [(0, (.aload_n 0, 1, 0, 0, 0, 0)),
  (1, (.iconst 0, 2, 0, 0, 0, 0)),
  (2, (.putfield 1, 5, 0, 11, 127, 0)),
  (5, (.aload_n 0, 6, 0, 0, 0, 0)),
  (6, (.invokevirtual 363, 9, 272, 0, 322, 11)),
  (9, (.istore_n 1, 10, 0, 0, 0, 0)),
  (10, (.iload_n 1, 11, 0, 0, 0, 0)),
  (11, (.aload_n 0, 12, 0, 0, 0, 0)),
  (12, (.getfield 109, 15, 24, 11, 151, 0)),
  (15, (.iconst 0, 16, 0, 0, 0, 0)),
  (16, (.iaload, 17, 0, 0, 0, 0)),
  (17, (.bipush 7, 19, 0, 0, 0, 0)),
  (19, (.irem, 20, 0, 0, 0, 0)),
  (20, (.isub, 21, 0, 0, 0, 0)),
  (21, (.bipush 7, 23, 0, 0, 0, 0)),
  (23, (.iadd, 24, 0, 0, 0, 0)),
  (24, (.bipush 7, 26, 0, 0, 0, 0)),
  (26, (.irem, 27, 0, 0, 0, 0)),
  (27, (.istore_n 2, 28, 0, 0, 0, 0)),
  (28, (.iload_n 1, 29, 0, 0, 0, 0)),
  (29, (.ifCond .ge 8, 32, 37, 0, 0, 0)),
  (32, (.bipush (-4), 34, 0, 0, 0, 0)),
  (34, (.goto 16, 37, 50, 0, 0, 0)),
  (37, (.iload_n 2, 38, 0, 0, 0, 0)),
  (38, (.iconst 3, 39, 0, 0, 0, 0)),
  (39, (.if_icmp .le 10, 42, 49, 0, 0, 0)),
  (42, (.iload_n 2, 43, 0, 0, 0, 0)),
  (43, (.bipush 7, 45, 0, 0, 0, 0)),
  (45, (.isub, 46, 0, 0, 0, 0)),
  (46, (.goto 4, 49, 50, 0, 0, 0)),
  (49, (.iload_n 2, 50, 0, 0, 0, 0)),
  (50, (.ireturn, 51, 0, 0, 0, 0))]
def am_r275 : List (Nat × am_R) := [(0, (.aload_n 0, 1, 0, 0, 0, 0)),
  (1, (.iconst 0, 2, 0, 0, 0, 0)),
  (2, (.putfield 1, 5, 0, 11, 127, 0)),
  (5, (.aload_n 0, 6, 0, 0, 0, 0)),
  (6, (.iload_n 1, 7, 0, 0, 0, 0)),
  (7, (.invokevirtual 313, 10, 221, 1, 271, 11)),
  (10, (.ifCond .eq 18, 13, 28, 0, 0, 0)),
  (13, (.aload_n 0, 14, 0, 0, 0, 0)),
  (14, (.aload_n 0, 15, 0, 0, 0, 0)),
  (15, (.iconst 0, 16, 0, 0, 0, 0)),
  (16, (.iload_n 1, 17, 0, 0, 0, 0)),
  (17, (.invokevirtual 288, 20, 223, 2, 273, 11)),
  (20, (.iconst 1, 21, 0, 0, 0, 0)),
  (21, (.iadd, 22, 0, 0, 0, 0)),
  (22, (.invokevirtual 345, 25, 262, 1, 312, 11)),
  (25, (.goto 4, 28, 29, 0, 0, 0)),
  (28, (.iconst (-1), 29, 0, 0, 0, 0)),
  (29, (.ireturn, 30, 0, 0, 0, 0))]
def am_r276 : List (Nat × am_R) := [(0, (.aload_n 0, 1, 0, 0, 0, 0)),
  (1, (.iconst 0, 2, 0, 0, 0, 0)),
  (2, (.putfield 1, 5, 0, 11, 127, 0)),
  (5, (.iconst 0, 6, 0, 0, 0, 0)),
  (6, (.istore_n 1, 7, 0, 0, 0, 0)),
  (7, (.iconst 0, 8, 0, 0, 0, 0)),
  (8, (.istore_n 2, 9, 0, 0, 0, 0)),
  (9, (.iload_n 2, 10, 0, 0, 0, 0)),
  (10, (.bipush 7, 12, 0, 0, 0, 0)),
  (12, (.if_icmp .ge 25, 15, 37, 0, 0, 0)),
  (15, (.iload_n 1, 16, 0, 0, 0, 0)),
  (16, (.aload_n 0, 17, 0, 0, 0, 0)),
  (17, (.iload_n 2, 18, 0, 0, 0, 0)),
  (18, (.invokevirtual 360, 21, 273, 1, 323, 11)),
  (21, (.ifCond .le 7, 24, 28, 0, 0, 0)),
  (24, (.iconst 1, 25, 0, 0, 0, 0)),
  (25, (.goto 4, 28, 29, 0, 0, 0)),
  (28, (.iconst 0, 29, 0, 0, 0, 0)),
  (29, (.iadd, 30, 0, 0, 0, 0)),
  (30, (.istore_n 1, 31, 0, 0, 0, 0)),
  (31, (.iinc 2 1, 34, 0, 0, 0, 0)),
  (34, (.goto (-25), 37, 9, 0, 0, 0)),
  (37, (.iload_n 1, 38, 0, 0, 0, 0)),
  (38, (.ireturn, 39, 0, 0, 0, 0))]
def am_r277 : List (Nat × am_R) := [(0, (.aload_n 0, 1, 0, 0, 0, 0)),
  (1, (.iconst 0, 2, 0, 0, 0, 0)),
  (2, (.putfield 1, 5, 0, 11, 127, 0)),
  (5, (.iconst 0, 6, 0, 0, 0, 0)),
  (6, (.istore_n 1, 7, 0, 0, 0, 0)),
  (7, (.iconst 0, 8, 0, 0, 0, 0)),
  (8, (.istore_n 2, 9, 0, 0, 0, 0)),
  (9, (.iload_n 2, 10, 0, 0, 0, 0)),
  (10, (.bipush 7, 12, 0, 0, 0, 0)),
  (12, (.if_icmp .ge 27, 15, 39, 0, 0, 0)),
  (15, (.iload_n 1, 16, 0, 0, 0, 0)),
  (16, (.aload_n 0, 17, 0, 0, 0, 0)),
  (17, (.iload_n 2, 18, 0, 0, 0, 0)),
  (18, (.invokevirtual 360, 21, 273, 1, 323, 11)),
  (21, (.aload_n 0, 22, 0, 0, 0, 0)),
  (22, (.iload_n 2, 23, 0, 0, 0, 0)),
  (23, (.invokevirtual 360, 26, 273, 1, 323, 11)),
  (26, (.iconst 1, 27, 0, 0, 0, 0)),
  (27, (.isub, 28, 0, 0, 0, 0)),
  (28, (.imul, 29, 0, 0, 0, 0)),
  (29, (.iconst 2, 30, 0, 0, 0, 0)),
  (30, (.idiv, 31, 0, 0, 0, 0)),
  (31, (.iadd, 32, 0, 0, 0, 0)),
  (32, (.istore_n 1, 33, 0, 0, 0, 0)),
  (33, (.iinc 2 1, 36, 0, 0, 0, 0)),
  (36, (.goto (-27), 39, 9, 0, 0, 0)),
  (39, (.iload_n 1, 40, 0, 0, 0, 0)),
  (40, (.ireturn, 41, 0, 0, 0, 0))]
def am_r278 : List (Nat × am_R) := [(0, (.aload_n 0, 1, 0, 0, 0, 0)),
  (1, (.iconst 0, 2, 0, 0, 0, 0)),
  (2, (.putfield 1, 5, 0, 11, 127, 0)),
  (5, (.iconst 0, 6, 0, 0, 0, 0)),
  (6, (.istore_n 1, 7, 0, 0, 0, 0)),
  (7, (.iconst 0, 8, 0, 0, 0, 0)),
  (8, (.istore_n 2, 9, 0, 0, 0, 0)),
  (9, (.iload_n 2, 10, 0, 0, 0, 0)),
  (10, (.aload_n 0, 11, 0, 0, 0, 0)),
  (11, (.invokevirtual 259, 14, 186, 0, 236, 11)),
  (14, (.if_icmp .ge 36, 17, 50, 0, 0, 0)),
  (17, (.iload_n 1, 18, 0, 0, 0, 0)),
  (18, (.aload_n 0, 19, 0, 0, 0, 0)),
  (19, (.iload_n 2, 20, 0, 0, 0, 0)),
  (20, (.invokevirtual 316, 23, 222, 1, 272, 11)),
  (23, (.aload_n 0, 24, 0, 0, 0, 0)),
  (24, (.getfield 109, 27, 24, 11, 151, 0)),
  (27, (.iconst 0, 28, 0, 0, 0, 0)),
  (28, (.iaload, 29, 0, 0, 0, 0)),
  (29, (.bipush 7, 31, 0, 0, 0, 0)),
  (31, (.irem, 32, 0, 0, 0, 0)),
  (32, (.if_icmp .ne 9, 35, 41, 0, 0, 0)),
  (35, (.iconst 1, 36, 0, 0, 0, 0)),
  (36, (.iload_n 2, 37, 0, 0, 0, 0)),
  (37, (.ishl, 38, 0, 0, 0, 0)),
  (38, (.goto 4, 41, 42, 0, 0, 0)),
  (41, (.iconst 0, 42, 0, 0, 0, 0)),
  (42, (.ior, 43, 0, 0, 0, 0)),
  (43, (.istore_n 1, 44, 0, 0, 0, 0)),
  (44, (.iinc 2 1, 47, 0, 0, 0, 0)),
  (47, (.goto (-38), 50, 9, 0, 0, 0)),
  (50, (.iload_n 1, 51, 0, 0, 0, 0)),
  (51, (.ireturn, 52, 0, 0, 0, 0))]
def am_r279 : List (Nat × am_R) := [(0, (.aload_n 0, 1, 0, 0, 0, 0)),
  (1, (.iconst 0, 2, 0, 0, 0, 0)),
  (2, (.putfield 1, 5, 0, 11, 127, 0)),
  (5, (.iconst 0, 6, 0, 0, 0, 0)),
  (6, (.istore_n 3, 7, 0, 0, 0, 0)),
  (7, (.iload_n 3, 8, 0, 0, 0, 0)),
  (8, (.bipush 6, 10, 0, 0, 0, 0)),
  (10, (.if_icmp .ge 41, 13, 51, 0, 0, 0)),
  (13, (.aload_n 0, 14, 0, 0, 0, 0)),
  (14, (.iload_n 1, 15, 0, 0, 0, 0)),
  (15, (.invokevirtual 313, 18, 221, 1, 271, 11)),
  (18, (.ifCond .eq 33, 21, 51, 0, 0, 0)),
  (21, (.aload_n 0, 22, 0, 0, 0, 0)),
  (22, (.iload_n 2, 23, 0, 0, 0, 0)),
  (23, (.invokevirtual 313, 26, 221, 1, 271, 11)),
  (26, (.ifCond .eq 25, 29, 51, 0, 0, 0)),
  (29, (.aload_n 0, 30, 0, 0, 0, 0)),
  (30, (.iload_n 1, 31, 0, 0, 0, 0)),
  (31, (.iload_n 3, 32, 0, 0, 0, 0)),
  (32, (.invokevirtual 366, 35, 280, 2, 330, 11)),
  (35, (.iload_n 2, 36, 0, 0, 0, 0)),
  (36, (.ishr, 37, 0, 0, 0, 0)),
  (37, (.iconst 1, 38, 0, 0, 0, 0)),
  (38, (.iand, 39, 0, 0, 0, 0)),
  (39, (.iconst 1, 40, 0, 0, 0, 0)),
  (40, (.if_icmp .ne 5, 43, 45, 0, 0, 0)),
  (43, (.iload_n 3, 44, 0, 0, 0, 0)),
  (44, (.ireturn, 45, 0, 0, 0, 0)),
  (45, (.iinc 3 1, 48, 0, 0, 0, 0)),
  (48, (.goto (-41), 51, 7, 0, 0, 0)),
  (51, (.iconst (-1), 52, 0, 0, 0, 0)),
  (52, (.ireturn, 53, 0, 0, 0, 0))]
def am_inf_6 : List (List (Nat × am_R) × Nat × Option FieldType) := [(am_r240, 2, (Option.some Jvm.ClassFile.FieldType.int)), (am_r241, 3, (Option.none : Option Jvm.ClassFile.FieldType)), (am_r242, 1, (Option.some Jvm.ClassFile.FieldType.boolean)), (am_r243, 9, (Option.some Jvm.ClassFile.FieldType.int)), (am_r244, 4, (Option.some Jvm.ClassFile.FieldType.int)), (am_r245, 5, (Option.some Jvm.ClassFile.FieldType.int)), (am_r246, 4, (Option.some Jvm.ClassFile.FieldType.int)), (am_r247, 1, (Option.none : Option Jvm.ClassFile.FieldType)), (am_r248, 4, (Option.some Jvm.ClassFile.FieldType.int)), (am_r249, 3, (Option.some Jvm.ClassFile.FieldType.int)), (am_r250, 4, (Option.some Jvm.ClassFile.FieldType.int)), (am_r251, 4, (Option.some Jvm.ClassFile.FieldType.int)), (am_r252, 4, (Option.some Jvm.ClassFile.FieldType.int)), (am_r253, 4, (Option.some Jvm.ClassFile.FieldType.int)), (am_r254, 5, (Option.some Jvm.ClassFile.FieldType.int)), (am_r255, 4, (Option.some Jvm.ClassFile.FieldType.int)), (am_r256, 3, (Option.some Jvm.ClassFile.FieldType.int)), (am_r257, 6, (Option.some Jvm.ClassFile.FieldType.int)), (am_r258, 4, (Option.some Jvm.ClassFile.FieldType.int)), (am_r259, 4, (Option.some Jvm.ClassFile.FieldType.int)), (am_r260, 7, (Option.some Jvm.ClassFile.FieldType.int)), (am_r261, 5, (Option.some Jvm.ClassFile.FieldType.int)), (am_r262, 4, (Option.some Jvm.ClassFile.FieldType.int)), (am_r263, 8, (Option.some Jvm.ClassFile.FieldType.int)), (am_r264, 9, (Option.some Jvm.ClassFile.FieldType.int)), (am_r265, 2, (Option.some Jvm.ClassFile.FieldType.int)), (am_r266, 5, (Option.some Jvm.ClassFile.FieldType.boolean)), (am_r267, 1, (Option.some Jvm.ClassFile.FieldType.int)), (am_r268, 6, (Option.some Jvm.ClassFile.FieldType.int)), (am_r269, 5, (Option.some Jvm.ClassFile.FieldType.boolean)), (am_r270, 9, (Option.some Jvm.ClassFile.FieldType.int)), (am_r271, 1, (Option.some Jvm.ClassFile.FieldType.int)), (am_r272, 4, (Option.some Jvm.ClassFile.FieldType.int)), (am_r273, 4, (Option.some Jvm.ClassFile.FieldType.int)), (am_r274, 3, (Option.some Jvm.ClassFile.FieldType.int)), (am_r275, 2, (Option.some Jvm.ClassFile.FieldType.int)), (am_r276, 3, (Option.some Jvm.ClassFile.FieldType.int)), (am_r277, 3, (Option.some Jvm.ClassFile.FieldType.int)), (am_r278, 3, (Option.some Jvm.ClassFile.FieldType.int)), (am_r279, 4, (Option.some Jvm.ClassFile.FieldType.int))]
theorem am_ck_6_0 : ((am_mi_6.zip am_inf_6).take 10).all am_chk = true := by decide +kernel
theorem am_ck_6_1 : (((am_mi_6.zip am_inf_6).drop 10).take 10).all am_chk = true := by decide +kernel
theorem am_ck_6_2 : (((am_mi_6.zip am_inf_6).drop 20).take 10).all am_chk = true := by decide +kernel
theorem am_ck_6_3 : (((am_mi_6.zip am_inf_6).drop 30)).all am_chk = true := by decide +kernel
theorem am_ck_6 : (am_mi_6.zip am_inf_6).all am_chk = true := am_all_cut _ 10 _ am_ck_6_0 (am_all_cut _ 10 _ am_ck_6_1 (by
  rw [List.drop_drop]
  exact am_all_cut _ 10 _ am_ck_6_2 (by
    rw [List.drop_drop]
    exact am_ck_6_3)))
def am_r280 : List (Nat × am_R) := [(0, (.iconst 1, 1, 0, 0, 0, 0)),
  (1, (.iload_n 1, 2, 0, 0, 0, 0)),
  (2, (.ishl, 3, 0, 0, 0, 0)),
  (3, (.istore_n 3, 4, 0, 0, 0, 0)),
  (4, (.iconst 0, 5, 0, 0, 0, 0)),
  (5, (.istore 4, 7, 0, 0, 0, 0)),
  (7, (.iload 4, 9, 0, 0, 0, 0)),
  (9, (.iload_n 2, 10, 0, 0, 0, 0)),
  (10, (.if_icmp .ge 58, 13, 68, 0, 0, 0)),
  (13, (.iload_n 3, 14, 0, 0, 0, 0)),
  (14, (.istore 5, 16, 0, 0, 0, 0)),
  (16, (.iconst 0, 17, 0, 0, 0, 0)),
  (17, (.istore 6, 19, 0, 0, 0, 0)),
  (19, (.iload 6, 21, 0, 0, 0, 0)),
  (21, (.aload_n 0, 22, 0, 0, 0, 0)),
  (22, (.invokevirtual 259, 25, 186, 0, 236, 11)),
  (25, (.if_icmp .ge 37, 28, 62, 0, 0, 0)),
  (28, (.iload_n 3, 29, 0, 0, 0, 0)),
  (29, (.iload 5, 31, 0, 0, 0, 0)),
  (31, (.iload 6, 33, 0, 0, 0, 0)),
  (33, (.ishr, 34, 0, 0, 0, 0)),
  (34, (.iconst 1, 35, 0, 0, 0, 0)),
  (35, (.iand, 36, 0, 0, 0, 0)),
  (36, (.iconst 1, 37, 0, 0, 0, 0)),
  (37, (.if_icmp .ne 16, 40, 53, 0, 0, 0)),
  (40, (.aload_n 0, 41, 0, 0, 0, 0)),
  (41, (.getfield 109, 44, 24, 11, 151, 0)),
  (44, (.bipush 8, 46, 0, 0, 0, 0)),
  (46, (.iload 6, 48, 0, 0, 0, 0)),
  (48, (.iadd, 49, 0, 0, 0, 0)),
  (49, (.iaload, 50, 0, 0, 0, 0)),
  (50, (.goto 4, 53, 54, 0, 0, 0)),
  (53, (.iconst 0, 54, 0, 0, 0, 0)),
  (54, (.ior, 55, 0, 0, 0, 0)),
  (55, (.istore_n 3, 56, 0, 0, 0, 0)),
  (56, (.iinc 6 1, 59, 0, 0, 0, 0)),
  (59, (.goto (-40), 62, 19, 0, 0, 0)),
  (62, (.iinc 4 1, 65, 0, 0, 0, 0)),
  (65, (.goto (-58), 68, 7, 0, 0, 0)),
  (68, (.iload_n 3, 69, 0, 0, 0, 0)),
  (69, (.ireturn, 70, 0, 0, 0, 0))]
def am_r281 : List (Nat × am_R) := [(0, (.aload_n 0, 1, 0, 0, 0, 0)),
  (1, (.iconst 0, 2, 0, 0, 0, 0)),
  (2, (.putfield 1, 5, 0, 11, 127, 0)),
  (5, (.iconst 0, 6, 0, 0, 0, 0)),
  (6, (.istore_n 1, 7, 0, 0, 0, 0)),
  (7, (.iconst 0, 8, 0, 0, 0, 0)),
  (8, (.istore_n 2, 9, 0, 0, 0, 0)),
  (9, (.iload_n 2, 10, 0, 0, 0, 0)),
  (10, (.aload_n 0, 11, 0, 0, 0, 0)),
  (11, (.invokevirtual 259, 14, 186, 0, 236, 11)),
  (14, (.if_icmp .ge 35, 17, 49, 0, 0, 0)),
  (17, (.iload_n 1, 18, 0, 0, 0, 0)),
  (18, (.aload_n 0, 19, 0, 0, 0, 0)),
  (19, (.getfield 109, 22, 24, 11, 151, 0)),
  (22, (.bipush 8, 24, 0, 0, 0, 0)),
  (24, (.iload_n 2, 25, 0, 0, 0, 0)),
  (25, (.iadd, 26, 0, 0, 0, 0)),
  (26, (.iaload, 27, 0, 0, 0, 0)),
  (27, (.invokestatic 297, 30, 235, 1, 285, 0)),
  (30, (.iconst 1, 31, 0, 0, 0, 0)),
  (31, (.if_icmp .ne 9, 34, 40, 0, 0, 0)),
  (34, (.iconst 1, 35, 0, 0, 0, 0)),
  (35, (.iload_n 2, 36, 0, 0, 0, 0)),
  (36, (.ishl, 37, 0, 0, 0, 0)),
  (37, (.goto 4, 40, 41, 0, 0, 0)),
  (40, (.iconst 0, 41, 0, 0, 0, 0)),
  (41, (.ior, 42, 0, 0, 0, 0)),
  (42, (.istore_n 1, 43, 0, 0, 0, 0)),
  (43, (.iinc 2 1, 46, 0, 0, 0, 0)),
  (46, (.goto (-37), 49, 9, 0, 0, 0)),
  (49, (.iload_n 1, 50, 0, 0, 0, 0)),
  (50, (.ireturn, 51, 0, 0, 0, 0))]
def am_r282 : List (Nat × am_R) := [(0, (.aload_n 0, 1, 0, 0, 0, 0)),
  (1, (.iconst 0, 2, 0, 0, 0, 0)),
  (2, (.putfield 1, 5, 0, 11, 127, 0)),
  (5, (.iconst 0, 6, 0, 0, 0, 0)),
  (6, (.istore_n 1, 7, 0, 0, 0, 0)),
  (7, (.iconst 0, 8, 0, 0, 0, 0)),
  (8, (.istore_n 2, 9, 0, 0, 0, 0)),
  (9, (.iload_n 2, 10, 0, 0, 0, 0)),
  (10, (.aload_n 0, 11, 0, 0, 0, 0)),
  (11, (.invokevirtual 259, 14, 186, 0, 236, 11)),
  (14, (.if_icmp .ge 33, 17, 47, 0, 0, 0)),
  (17, (.iload_n 1, 18, 0, 0, 0, 0)),
  (18, (.aload_n 0, 19, 0, 0, 0, 0)),
  (19, (.iload_n 2, 20, 0, 0, 0, 0)),
  (20, (.bipush 6, 22, 0, 0, 0, 0)),
  (22, (.invokevirtual 366, 25, 280, 2, 330, 11)),
  (25, (.iconst 1, 26, 0, 0, 0, 0)),
  (26, (.iload_n 2, 27, 0, 0, 0, 0)),
  (27, (.ishl, 28, 0, 0, 0, 0)),
  (28, (.iconst 1, 29, 0, 0, 0, 0)),
  (29, (.isub, 30, 0, 0, 0, 0)),
  (30, (.iand, 31, 0, 0, 0, 0)),
  (31, (.ifCond .ne 7, 34, 38, 0, 0, 0)),
  (34, (.iconst 1, 35, 0, 0, 0, 0)),
  (35, (.goto 4, 38, 39, 0, 0, 0)),
  (38, (.iconst 0, 39, 0, 0, 0, 0)),
  (39, (.iadd, 40, 0, 0, 0, 0)),
  (40, (.istore_n 1, 41, 0, 0, 0, 0)),
  (41, (.iinc 2 1, 44, 0, 0, 0, 0)),
  (44, (.goto (-35), 47, 9, 0, 0, 0)),
  (47, (.iload_n 1, 48, 0, 0, 0, 0)),
  (48, (.ireturn, 49, 0, 0, 0, 0))]
def am_r283 : List (Nat × am_R) := [(0, (.aload_n 0, 1, 0, 0, 0, 0)),
  (1, (.iconst 0, 2, 0, 0, 0, 0)),
  (2, (.putfield 1, 5, 0, 11, 127, 0)),
  (5, (.iconst (-1), 6, 0, 0, 0, 0)),
  (6, (.istore_n 1, 7, 0, 0, 0, 0)),
  (7, (.iconst 0, 8, 0, 0, 0, 0)),
  (8, (.istore_n 2, 9, 0, 0, 0, 0)),
  (9, (.iload_n 2, 10, 0, 0, 0, 0)),
  (10, (.iconst 1, 11, 0, 0, 0, 0)),
  (11, (.aload_n 0, 12, 0, 0, 0, 0)),
  (12, (.invokevirtual 266, 15, 183, 0, 233, 11)),
  (15, (.ishl, 16, 0, 0, 0, 0)),
  (16, (.if_icmp .ge 86, 19, 102, 0, 0, 0)),
  (19, (.iconst 1, 20, 0, 0, 0, 0)),
  (20, (.istore_n 3, 21, 0, 0, 0, 0)),
  (21, (.iconst 0, 22, 0, 0, 0, 0)),
  (22, (.istore 4, 24, 0, 0, 0, 0)),
  (24, (.iload 4, 26, 0, 0, 0, 0)),
  (26, (.aload_n 0, 27, 0, 0, 0, 0)),
  (27, (.invokevirtual 259, 30, 186, 0, 236, 11)),
  (30, (.if_icmp .ge 41, 33, 71, 0, 0, 0)),
  (33, (.iload_n 3, 34, 0, 0, 0, 0)),
  (34, (.ifCond .eq 29, 37, 63, 0, 0, 0)),
  (37, (.aload_n 0, 38, 0, 0, 0, 0)),
  (38, (.iload 4, 40, 0, 0, 0, 0)),
  (40, (.iconst 2, 41, 0, 0, 0, 0)),
  (41, (.invokevirtual 263, 44, 187, 2, 237, 11)),
  (44, (.ifCond .eq 15, 47, 59, 0, 0, 0)),
  (47, (.aload_n 0, 48, 0, 0, 0, 0)),
  (48, (.iload 4, 50, 0, 0, 0, 0)),
  (50, (.iconst 2, 51, 0, 0, 0, 0)),
  (51, (.invokevirtual 263, 54, 187, 2, 237, 11)),
  (54, (.iload_n 2, 55, 0, 0, 0, 0)),
  (55, (.iand, 56, 0, 0, 0, 0)),
  (56, (.ifCond .eq 7, 59, 63, 0, 0, 0)),
  (59, (.iconst 1, 60, 0, 0, 0, 0)),
  (60, (.goto 4, 63, 64, 0, 0, 0)),
  (63, (.iconst 0, 64, 0, 0, 0, 0)),
  (64, (.istore_n 3, 65, 0, 0, 0, 0)),
  (65, (.iinc 4 1, 68, 0, 0, 0, 0)),
  (68, (.goto (-44), 71, 24, 0, 0, 0)),
  (71, (.iload_n 3, 72, 0, 0, 0, 0)),
  (72, (.ifCond .eq 22, 75, 94, 0, 0, 0)),
  (75, (.iload_n 1, 76, 0, 0, 0, 0)),
  (76, (.ifCond .lt 14, 79, 90, 0, 0, 0)),
  (79, (.iload_n 2, 80, 0, 0, 0, 0)),
  (80, (.invokestatic 297, 83, 235, 1, 285, 0)),
  (83, (.iload_n 1, 84, 0, 0, 0, 0)),
  (84, (.invokestatic 297, 87, 235, 1, 285, 0)),
  (87, (.if_icmp .ge 7, 90, 94, 0, 0, 0)),
  (90, (.iload_n 2, 91, 0, 0, 0, 0)),
  (91, (.goto 4, 94, 95, 0, 0, 0)),
  (94, (.iload_n 1, 95, 0, 0, 0, 0)),
  (95, (.istore_n 1, 96, 0, 0, 0, 0)),
  (96, (.iinc 2 1, 99, 0, 0, 0, 0)),
  (99, (.goto (-90), 102, 9, 0, 0, 0)),
  (102, (.iload_n 1, 103, 0, 0, 0, 0)),
  (103, (.ireturn, 104, 0, 0, 0, 0))]
def am_r284 : List (Nat × am_R) := [(0, (.aload_n 0, 1, 0, 0, 0, 0)),
  (1, (.iconst 0, 2, 0, 0, 0, 0)),
  (2, (.putfield 1, 5, 0, 11, 127, 0)),
  (5, (.aload_n 0, 6, 0, 0, 0, 0)),
  (6, (.iload_n 1, 7, 0, 0, 0, 0)),
  (7, (.invokevirtual 313, 10, 221, 1, 271, 11)),
  (10, (.ifCond .eq 27, 13, 37, 0, 0, 0)),
  (13, (.aload_n 0, 14, 0, 0, 0, 0)),
  (14, (.iload_n 2, 15, 0, 0, 0, 0)),
  (15, (.invokevirtual 313, 18, 221, 1, 271, 11)),
  (18, (.ifCond .eq 19, 21, 37, 0, 0, 0)),
  (21, (.aload_n 0, 22, 0, 0, 0, 0)),
  (22, (.iload_n 1, 23, 0, 0, 0, 0)),
  (23, (.iconst 2, 24, 0, 0, 0, 0)),
  (24, (.invokevirtual 263, 27, 187, 2, 237, 11)),
  (27, (.aload_n 0, 28, 0, 0, 0, 0)),
  (28, (.iload_n 2, 29, 0, 0, 0, 0)),
  (29, (.iconst 2, 30, 0, 0, 0, 0)),
  (30, (.invokevirtual 263, 33, 187, 2, 237, 11)),
  (33, (.iand, 34, 0, 0, 0, 0)),
  (34, (.goto 4, 37, 38, 0, 0, 0)),
  (37, (.iconst (-1), 38, 0, 0, 0, 0)),
  (38, (.ireturn, 39, 0, 0, 0, 0))]
def am_r285 : List (Nat × am_R) := [(0, (.aload_n 0, 1, 0, 0, 0, 0)),
  (1, (.iconst 0, 2, 0, 0, 0, 0)),
  (2, (.putfield 1, 5, 0, 11, 127, 0)),
  (5, (.aload_n 0, 6, 0, 0, 0, 0)),
  (6, (.iload_n 1, 7, 0, 0, 0, 0)),
  (7, (.invokevirtual 319, 10, 227, 1, 277, 11)),
  (10, (.ifCond .eq 23, 13, 33, 0, 0, 0)),
  (13, (.iload_n 2, 14, 0, 0, 0, 0)),
  (14, (.iconst 1, 15, 0, 0, 0, 0)),
  (15, (.bipush 6, 17, 0, 0, 0, 0)),
  (17, (.invokestatic 194, 20, 207, 3, 257, 0)),
  (20, (.ifCond .eq 13, 23, 33, 0, 0, 0)),
  (23, (.iload_n 3, 24, 0, 0, 0, 0)),
  (24, (.iconst 0, 25, 0, 0, 0, 0)),
  (25, (.bipush 10, 27, 0, 0, 0, 0)),
  (27, (.invokestatic 194, 30, 207, 3, 257, 0)),
  (30, (.ifCond .ne 5, 33, 35, 0, 0, 0)),
  (33, (.iconst (-1), 34, 0, 0, 0, 0)),
  (34, (.ireturn, 35, 0, 0, 0, 0)),
  (35, (.lconst 1, 36, 0, 0, 0, 0)),
  (36, (.lstore 4, 38, 0, 0, 0, 0)),
  (38, (.lconst 0, 39, 0, 0, 0, 0)),
  (39, (.lstore 6, 41, 0, 0, 0, 0)),
  (41, (.iconst 0, 42, 0, 0, 0, 0)),
  (42, (.istore 8, 44, 0, 0, 0, 0)),
  (44, (.iload 8, 46, 0, 0, 0, 0)),
  (46, (.iload_n 2, 47, 0, 0, 0, 0)),
  (47, (.if_icmp .ge 17, 50, 64, 0, 0, 0)),
  (50, (.lload 4, 52, 0, 0, 0, 0)),
  (52, (.ldc2_w 145, 55, 0, 0, 27, 0)),
  (55, (.lmul, 56, 0, 0, 0, 0)),
  (56, (.lstore 4, 58, 0, 0, 0, 0)),
  (58, (.iinc 8 1, 61, 0, 0, 0, 0)),
  (61, (.goto (-17), 64, 44, 0, 0, 0)),
  (64, (.iconst 0, 65, 0, 0, 0, 0)),
  (65, (.istore 8, 67, 0, 0, 0, 0)),
  (67, (.iload 8, 69, 0, 0, 0, 0)),
  (69, (.iconst 1, 70, 0, 0, 0, 0)),
  (70, (.iload_n 2, 71, 0, 0, 0, 0)),
  (71, (.ishl, 72, 0, 0, 0, 0)),
  (72, (.if_icmp .ge 99, 75, 171, 0, 0, 0)),
  (75, (.aload_n 0, 76, 0, 0, 0, 0)),
  (76, (.invokevirtual 339, 79, 247, 0, 297, 11)),
  (79, (.lconst 1, 80, 0, 0, 0, 0)),
  (80, (.lstore 9, 82, 0, 0, 0, 0)),
  (82, (.iconst 0, 83, 0, 0, 0, 0)),
  (83, (.istore 11, 85, 0, 0, 0, 0)),
  (85, (.iconst 0, 86, 0, 0, 0, 0)),
  (86, (.istore 12, 88, 0, 0, 0, 0)),
  (88, (.iload 12, 90, 0, 0, 0, 0)),
  (90, (.iload_n 2, 91, 0, 0, 0, 0)),
  (91, (.if_icmp .ge 53, 94, 144, 0, 0, 0)),
  (94, (.iload 8, 96, 0, 0, 0, 0)),
  (96, (.iload 12, 98, 0, 0, 0, 0)),
  (98, (.ishr, 99, 0, 0, 0, 0)),
  (99, (.iconst 1, 100, 0, 0, 0, 0)),
  (100, (.iand, 101, 0, 0, 0, 0)),
  (101, (.istore 13, 103, 0, 0, 0, 0)),
  (103, (.lload 9, 105, 0, 0, 0, 0)),
  (105, (.iload 13, 107, 0, 0, 0, 0)),
  (107, (.iconst 1, 108, 0, 0, 0, 0)),
  (108, (.if_icmp .ne 8, 111, 116, 0, 0, 0)),
  (111, (.iload_n 3, 112, 0, 0, 0, 0)),
  (112, (.i2l, 113, 0, 0, 0, 0)),
  (113, (.goto 8, 116, 121, 0, 0, 0)),
  (116, (.bipush 10, 118, 0, 0, 0, 0)),
  (118, (.iload_n 3, 119, 0, 0, 0, 0)),
  (119, (.isub, 120, 0, 0, 0, 0)),
  (120, (.i2l, 121, 0, 0, 0, 0)),
  (121, (.lmul, 122, 0, 0, 0, 0)),
  (122, (.lstore 9, 124, 0, 0, 0, 0)),
  (124, (.iload 11, 126, 0, 0, 0, 0)),
  (126, (.aload_n 0, 127, 0, 0, 0, 0)),
  (127, (.sipush 1029, 130, 0, 0, 0, 0)),
  (130, (.iload 13, 132, 0, 0, 0, 0)),
  (132, (.invokevirtual 310, 135, 234, 2, 284, 11)),
  (135, (.ior, 136, 0, 0, 0, 0)),
  (136, (.istore 11, 138, 0, 0, 0, 0)),
  (138, (.iinc 12 1, 141, 0, 0, 0, 0)),
  (141, (.goto (-53), 144, 88, 0, 0, 0)),
  (144, (.lload 6, 146, 0, 0, 0, 0)),
  (146, (.iload 11, 148, 0, 0, 0, 0)),
  (148, (.iload_n 1, 149, 0, 0, 0, 0)),
  (149, (.ishr, 150, 0, 0, 0, 0)),
  (150, (.iconst 1, 151, 0, 0, 0, 0)),
  (151, (.iand, 152, 0, 0, 0, 0)),
  (152, (.iconst 1, 153, 0, 0, 0, 0)),
  (153, (.if_icmp .ne 8, 156, 161, 0, 0, 0)),
  (156, (.lload 9, 158, 0, 0, 0, 0)),
  (158, (.goto 4, 161, 162, 0, 0, 0)),
  (161, (.lconst 0, 162, 0, 0, 0, 0)),
  (162, (.ladd, 163, 0, 0, 0, 0)),
  (163, (.lstore 6, 165, 0, 0, 0, 0)),
  (165, (.iinc 8 1, 168, 0, 0, 0, 0)),
  (168, (.goto (-101), 171, 67, 0, 0, 0)),
  (171, (.lload 6, 173, 0, 0, 0, 0)),
  (173, (.ldc2_w 369, 176, 0, 0, 29, 0)),
  (176, (.lmul, 177, 0, 0, 0, 0)),
  (177, (.lload 4, 179, 0, 0, 0, 0)),
  (179, (.ldiv, 180, 0, 0, 0, 0)),
  (180, (.l2i, 181, 0, 0, 0, 0)),
  (181, (.ireturn, 182, 0, 0, 0, 0))]
def am_r286 : List (Nat × am_R) := [(0, (.iload_n 1, 1, 0, 0, 0, 0)),
  (1, (.iconst 0, 2, 0, 0, 0, 0)),
  (2, (.bipush 9, 4, 0, 0, 0, 0)),
  (4, (.invokestatic 194, 7, 207, 3, 257, 0)),
  (7, (.ifCond .eq 33, 10, 40, 0, 0, 0)),
  (10, (.iload_n 2, 11, 0, 0, 0, 0)),
  (11, (.iconst 0, 12, 0, 0, 0, 0)),
  (12, (.bipush 9, 14, 0, 0, 0, 0)),
  (14, (.invokestatic 194, 17, 207, 3, 257, 0)),
  (17, (.ifCond .eq 23, 20, 40, 0, 0, 0)),
  (20, (.iload_n 3, 21, 0, 0, 0, 0)),
  (21, (.iconst 0, 22, 0, 0, 0, 0)),
  (22, (.bipush 9, 24, 0, 0, 0, 0)),
  (24, (.invokestatic 194, 27, 207, 3, 257, 0)),
  (27, (.ifCond .eq 13, 30, 40, 0, 0, 0)),
  (30, (.iload 4, 32, 0, 0, 0, 0)),
  (32, (.iconst (-1), 33, 0, 0, 0, 0)),
  (33, (.if_icmp .lt 7, 36, 40, 0, 0, 0)),
  (36, (.iconst 1, 37, 0, 0, 0, 0)),
  (37, (.goto 4, 40, 41, 0, 0, 0)),
  (40, (.iconst 0, 41, 0, 0, 0, 0)),
  (41, (.istore 5, 43, 0, 0, 0, 0)),
  (43, (.iconst 0, 44, 0, 0, 0, 0)),
  (44, (.istore 6, 46, 0, 0, 0, 0)),
  (46, (.iconst (-1), 47, 0, 0, 0, 0)),
  (47, (.istore 7, 49, 0, 0, 0, 0)),
  (49, (.iconst 0, 50, 0, 0, 0, 0)),
  (50, (.istore 8, 52, 0, 0, 0, 0)),
  (52, (.iload 8, 54, 0, 0, 0, 0)),
  (54, (.iconst 4, 55, 0, 0, 0, 0)),
  (55, (.if_icmp .ge 119, 58, 174, 0, 0, 0)),
  (58, (.iload 5, 60, 0, 0, 0, 0)),
  (60, (.ifCond .eq 114, 63, 174, 0, 0, 0)),
  (63, (.iload 8, 65, 0, 0, 0, 0)),
  (65, (.iconst 2, 66, 0, 0, 0, 0)),
  (66, (.idiv, 67, 0, 0, 0, 0)),
  (67, (.istore 9, 69, 0, 0, 0, 0)),
  (69, (.iload 8, 71, 0, 0, 0, 0)),
  (71, (.iconst 2, 72, 0, 0, 0, 0)),
  (72, (.irem, 73, 0, 0, 0, 0)),
  (73, (.istore 10, 75, 0, 0, 0, 0)),
  (75, (.iconst 1, 76, 0, 0, 0, 0)),
  (76, (.iload 9, 78, 0, 0, 0, 0)),
  (78, (.isub, 79, 0, 0, 0, 0)),
  (79, (.iload 10, 81, 0, 0, 0, 0)),
  (81, (.iload_n 1, 82, 0, 0, 0, 0)),
  (82, (.iload_n 2, 83, 0, 0, 0, 0)),
  (83, (.iload_n 3, 84, 0, 0, 0, 0)),
  (84, (.invokestatic 371, 87, 287, 5, 337, 0)),
  (87, (.iload 9, 89, 0, 0, 0, 0)),
  (89, (.iload 10, 91, 0, 0, 0, 0)),
  (91, (.iload_n 1, 92, 0, 0, 0, 0)),
  (92, (.iload_n 2, 93, 0, 0, 0, 0)),
  (93, (.iload_n 3, 94, 0, 0, 0, 0)),
  (94, (.invokestatic 371, 97, 287, 5, 337, 0)),
  (97, (.if_icmp .gt 32, 100, 129, 0, 0, 0)),
  (100, (.iconst 1, 101, 0, 0, 0, 0)),
  (101, (.iload 10, 103, 0, 0, 0, 0)),
  (103, (.isub, 104, 0, 0, 0, 0)),
  (104, (.iload 9, 106, 0, 0, 0, 0)),
  (106, (.iload_n 1, 107, 0, 0, 0, 0)),
  (107, (.iload_n 2, 108, 0, 0, 0, 0)),
  (108, (.iload_n 3, 109, 0, 0, 0, 0)),
  (109, (.invokestatic 371, 112, 287, 5, 337, 0)),
  (112, (.iload 10, 114, 0, 0, 0, 0)),
  (114, (.iload 9, 116, 0, 0, 0, 0)),
  (116, (.iload_n 1, 117, 0, 0, 0, 0)),
  (117, (.iload_n 2, 118, 0, 0, 0, 0)),
  (118, (.iload_n 3, 119, 0, 0, 0, 0)),
  (119, (.invokestatic 371, 122, 287, 5, 337, 0)),
  (122, (.if_icmp .gt 7, 125, 129, 0, 0, 0)),
  (125, (.iconst 1, 126, 0, 0, 0, 0)),
  (126, (.goto 4, 129, 130, 0, 0, 0)),
  (129, (.iconst 0, 130, 0, 0, 0, 0)),
  (130, (.istore 11, 132, 0, 0, 0, 0)),
  (132, (.iload 11, 134, 0, 0, 0, 0)),
  (134, (.ifCond .eq 15, 137, 149, 0, 0, 0)),
  (137, (.iload 6, 139, 0, 0, 0, 0)),
  (139, (.iload 4, 141, 0, 0, 0, 0)),
  (141, (.if_icmp .ne 8, 144, 149, 0, 0, 0)),
  (144, (.iload 8, 146, 0, 0, 0, 0)),
  (146, (.goto 5, 149, 151, 0, 0, 0)),
  (149, (.iload 7, 151, 0, 0, 0, 0)),
  (151, (.istore 7, 153, 0, 0, 0, 0)),
  (153, (.iload 6, 155, 0, 0, 0, 0)),
  (155, (.iload 11, 157, 0, 0, 0, 0)),
  (157, (.ifCond .eq 7, 160, 164, 0, 0, 0)),
  (160, (.iconst 1, 161, 0, 0, 0, 0)),
  (161, (.goto 4, 164, 165, 0, 0, 0)),
  (164, (.iconst 0, 165, 0, 0, 0, 0)),
  (165, (.iadd, 166, 0, 0, 0, 0)),
  (166, (.istore 6, 168, 0, 0, 0, 0)),
  (168, (.iinc 8 1, 171, 0, 0, 0, 0)),
  (171, (.goto (-119), 174, 52, 0, 0, 0)),
  (174, (.aload_n 0, 175, 0, 0, 0, 0)),
  (175, (.iload 5, 177, 0, 0, 0, 0)),
  (177, (.ifCond .eq 17, 180, 194, 0, 0, 0)),
  (180, (.iload 4, 182, 0, 0, 0, 0)),
  (182, (.ifCond .lt 8, 185, 190, 0, 0, 0)),
  (185, (.iload 7, 187, 0, 0, 0, 0)),
  (187, (.ifCond .lt 7, 190, 194, 0, 0, 0)),
  (190, (.iconst 0, 191, 0, 0, 0, 0)),
  (191, (.goto 4, 194, 195, 0, 0, 0)),
  (194, (.iconst 1, 195, 0, 0, 0, 0)),
  (195, (.putfield 1, 198, 0, 11, 127, 0)),
  (198, (.aload_n 0, 199, 0, 0, 0, 0)),
  (199, (.getfield 1, 202, 0, 11, 127, 0)),
  (202, (.ifCond .le 7, 205, 209, 0, 0, 0)),
  (205, (.iconst 0, 206, 0, 0, 0, 0)),
  (206, (.goto 15, 209, 221, 0, 0, 0)),
  (209, (.iload 4, 211, 0, 0, 0, 0)),
  (211, (.ifCond .ge 8, 214, 219, 0, 0, 0)),
  (214, (.iload 6, 216, 0, 0, 0, 0)),
  (216, (.goto 5, 219, 221, 0, 0, 0)),
  (219, (.iload 7, 221, 0, 0, 0, 0)),
  (221, (.ireturn, 222, 0, 0, 0, 0))]
def am_r287 : List (Nat × am_R) := [(0, (.iload_n 0, 1, 0, 0, 0, 0)),
  (1, (.iconst 1, 2, 0, 0, 0, 0)),
  (2, (.if_icmp .ne 17, 5, 19, 0, 0, 0)),
  (5, (.iload_n 1, 6, 0, 0, 0, 0)),
  (6, (.iconst 1, 7, 0, 0, 0, 0)),
  (7, (.if_icmp .ne 8, 10, 15, 0, 0, 0)),
  (10, (.iload_n 2, 11, 0, 0, 0, 0)),
  (11, (.ineg, 12, 0, 0, 0, 0)),
  (12, (.goto 18, 15, 30, 0, 0, 0)),
  (15, (.iload_n 3, 16, 0, 0, 0, 0)),
  (16, (.goto 14, 19, 30, 0, 0, 0)),
  (19, (.iload_n 1, 20, 0, 0, 0, 0)),
  (20, (.iconst 1, 21, 0, 0, 0, 0)),
  (21, (.if_icmp .ne 8, 24, 29, 0, 0, 0)),
  (24, (.iload 4, 26, 0, 0, 0, 0)),
  (26, (.goto 4, 29, 30, 0, 0, 0)),
  (29, (.iconst 0, 30, 0, 0, 0, 0)),
  (30, (.ireturn, 31, 0, 0, 0, 0))]
def am_r288 : List (Nat × am_R) := [(0, (.aload_n 0, 1, 0, 0, 0, 0)),
  (1, (.iconst 0, 2, 0, 0, 0, 0)),
  (2, (.putfield 1, 5, 0, 11, 127, 0)),
  (5, (.iload_n 1, 6, 0, 0, 0, 0)),
  (6, (.iconst 0, 7, 0, 0, 0, 0)),
  (7, (.sipush 9999, 10, 0, 0, 0, 0)),
  (10, (.invokestatic 194, 13, 207, 3, 257, 0)),
  (13, (.ifCond .eq 22, 16, 35, 0, 0, 0)),
  (16, (.iload_n 2, 17, 0, 0, 0, 0)),
  (17, (.iconst 1, 18, 0, 0, 0, 0)),
  (18, (.bipush 99, 20, 0, 0, 0, 0)),
  (20, (.invokestatic 194, 23, 207, 3, 257, 0)),
  (23, (.ifCond .eq 12, 26, 35, 0, 0, 0)),
  (26, (.iload_n 3, 27, 0, 0, 0, 0)),
  (27, (.iconst 0, 28, 0, 0, 0, 0)),
  (28, (.iconst 2, 29, 0, 0, 0, 0)),
  (29, (.invokestatic 194, 32, 207, 3, 257, 0)),
  (32, (.ifCond .ne 5, 35, 37, 0, 0, 0)),
  (35, (.iconst (-1), 36, 0, 0, 0, 0)),
  (36, (.ireturn, 37, 0, 0, 0, 0)),
  (37, (.aload_n 0, 38, 0, 0, 0, 0)),
  (38, (.iconst 0, 39, 0, 0, 0, 0)),
  (39, (.sipush 1078, 42, 0, 0, 0, 0)),
  (42, (.bipush 24, 44, 0, 0, 0, 0)),
  (44, (.invokevirtual 281, 47, 232, 3, 282, 11)),
  (47, (.aload_n 0, 48, 0, 0, 0, 0)),
  (48, (.iload_n 1, 49, 0, 0, 0, 0)),
  (49, (.i2l, 50, 0, 0, 0, 0)),
  (50, (.putfield 375, 53, 30, 11, 157, 0)),
  (53, (.iconst 0, 54, 0, 0, 0, 0)),
  (54, (.istore 4, 56, 0, 0, 0, 0)),
  (56, (.iload 4, 58, 0, 0, 0, 0)),
  (58, (.iload_n 2, 59, 0, 0, 0, 0)),
  (59, (.if_icmp .ge 28, 62, 87, 0, 0, 0)),
  (62, (.aload_n 0, 63, 0, 0, 0, 0)),
  (63, (.invokevirtual 259, 66, 186, 0, 236, 11)),
  (66, (.ifCond .le 7, 69, 73, 0, 0, 0)),
  (69, (.aload_n 0, 70, 0, 0, 0, 0)),
  (70, (.invokevirtual 390, 73, 289, 0, 339, 11)),
  (73, (.aload_n 0, 74, 0, 0, 0, 0)),
  (74, (.sipush 1078, 77, 0, 0, 0, 0)),
  (77, (.invokevirtual 328, 80, 233, 1, 283, 11)),
  (80, (.pop, 81, 0, 0, 0, 0)),
  (81, (.iinc 4 1, 84, 0, 0, 0, 0)),
  (84, (.goto (-28), 87, 56, 0, 0, 0)),
  (87, (.iload_n 3, 88, 0, 0, 0, 0)),
  (88, (.ifCond .ne 28, 91, 116, 0, 0, 0)),
  (91, (.aload_n 0, 92, 0, 0, 0, 0)),
  (92, (.sipush 1092, 95, 0, 0, 0, 0)),
  (95, (.aload_n 0, 96, 0, 0, 0, 0)),
  (96, (.invokevirtual 266, 99, 183, 0, 233, 11)),
  (99, (.invokevirtual 336, 102, 245, 2, 295, 11)),
  (102, (.aload_n 0, 103, 0, 0, 0, 0)),
  (103, (.bipush 14, 105, 0, 0, 0, 0)),
  (105, (.aload_n 0, 106, 0, 0, 0, 0)),
  (106, (.invokevirtual 266, 109, 183, 0, 233, 11)),
  (109, (.invokevirtual 336, 112, 245, 2, 295, 11)),
  (112, (.isub, 113, 0, 0, 0, 0)),
  (113, (.goto 26, 116, 139, 0, 0, 0)),
  (116, (.iload_n 3, 117, 0, 0, 0, 0)),
  (117, (.iconst 1, 118, 0, 0, 0, 0)),
  (118, (.if_icmp .ne 13, 121, 131, 0, 0, 0)),
  (121, (.aload_n 0, 122, 0, 0, 0, 0)),
  (122, (.sipush 1078, 125, 0, 0, 0, 0)),
  (125, (.invokevirtual 333, 128, 244, 1, 294, 11)),
  (128, (.goto 11, 131, 139, 0, 0, 0)),
  (131, (.aload_n 0, 132, 0, 0, 0, 0)),
  (132, (.getfield 109, 135, 24, 11, 151, 0)),
  (135, (.sipush 1079, 138, 0, 0, 0, 0)),
  (138, (.iaload, 139, 0, 0, 0, 0)),
  (139, (.ireturn, 140, 0, 0, 0, 0))]
def am_r289 : List (Nat × am_R) := [(0, (.aload_n 0, 1, 0, 0, 0, 0)),
  (1, (.bipush 6, 3, 0, 0, 0, 0)),
  (3, (.invokevirtual 387, 6, 290, 1, 340, 11)),
  (6, (.istore_n 1, 7, 0, 0, 0, 0)),
  (7, (.iload_n 1, 8, 0, 0, 0, 0)),
  (8, (.ifCond .ne 30, 11, 38, 0, 0, 0)),
  (11, (.aload_n 0, 12, 0, 0, 0, 0)),
  (12, (.aload_n 0, 13, 0, 0, 0, 0)),
  (13, (.invokevirtual 259, 16, 186, 0, 236, 11)),
  (16, (.invokevirtual 387, 19, 290, 1, 340, 11)),
  (19, (.istore_n 2, 20, 0, 0, 0, 0)),
  (20, (.aload_n 0, 21, 0, 0, 0, 0)),
  (21, (.getfield 109, 24, 24, 11, 151, 0)),
  (24, (.sipush 1080, 27, 0, 0, 0, 0)),
  (27, (.iload_n 2, 28, 0, 0, 0, 0)),
  (28, (.iadd, 29, 0, 0, 0, 0)),
  (29, (.aload_n 0, 30, 0, 0, 0, 0)),
  (30, (.iconst 5, 31, 0, 0, 0, 0)),
  (31, (.invokevirtual 387, 34, 290, 1, 340, 11)),
  (34, (.iastore, 35, 0, 0, 0, 0)),
  (35, (.goto 23, 38, 58, 0, 0, 0)),
  (38, (.iload_n 1, 39, 0, 0, 0, 0)),
  (39, (.iconst 1, 40, 0, 0, 0, 0)),
  (40, (.if_icmp .ne 18, 43, 58, 0, 0, 0)),
  (43, (.aload_n 0, 44, 0, 0, 0, 0)),
  (44, (.sipush 1078, 47, 0, 0, 0, 0)),
  (47, (.aload_n 0, 48, 0, 0, 0, 0)),
  (48, (.aload_n 0, 49, 0, 0, 0, 0)),
  (49, (.invokevirtual 259, 52, 186, 0, 236, 11)),
  (52, (.invokevirtual 387, 55, 290, 1, 340, 11)),
  (55, (.invokevirtual 330, 58, 241, 2, 291, 11)),
  (58, (.return_, 59, 0, 0, 0, 0))]
def am_r290 : List (Nat × am_R) := [(0, (.aload_n 0, 1, 0, 0, 0, 0)),
  (1, (.aload_n 0, 2, 0, 0, 0, 0)),
  (2, (.getfield 375, 5, 30, 11, 157, 0)),
  (5, (.ldc2_w 379, 8, 0, 0, 30, 0)),
  (8, (.lmul, 9, 0, 0, 0, 0)),
  (9, (.ldc2_w 381, 12, 0, 0, 31, 0)),
  (12, (.ladd, 13, 0, 0, 0, 0)),
  (13, (.ldc2_w 383, 16, 0, 0, 32, 0)),
  (16, (.lrem, 17, 0, 0, 0, 0)),
  (17, (.putfield 375, 20, 30, 11, 157, 0)),
  (20, (.aload_n 0, 21, 0, 0, 0, 0)),
  (21, (.getfield 375, 24, 30, 11, 157, 0)),
  (24, (.ldc2_w 385, 27, 0, 0, 33, 0)),
  (27, (.ldiv, 28, 0, 0, 0, 0)),
  (28, (.iload_n 1, 29, 0, 0, 0, 0)),
  (29, (.i2l, 30, 0, 0, 0, 0)),
  (30, (.lrem, 31, 0, 0, 0, 0)),
  (31, (.l2i, 32, 0, 0, 0, 0)),
  (32, (.ireturn, 33, 0, 0, 0, 0))]
def am_r291 : List (Nat × am_R) := [(0, (.aload_n 0, 1, 0, 0, 0, 0)),
  (1, (.iconst 0, 2, 0, 0, 0, 0)),
  (2, (.putfield 1, 5, 0, 11, 127, 0)),
  (5, (.iload_n 1, 6, 0, 0, 0, 0)),
  (6, (.iconst 0, 7, 0, 0, 0, 0)),
  (7, (.iconst 3, 8, 0, 0, 0, 0)),
  (8, (.invokestatic 194, 11, 207, 3, 257, 0)),
  (11, (.ifCond .eq 16, 14, 27, 0, 0, 0)),
  (14, (.iload_n 2, 15, 0, 0, 0, 0)),
  (15, (.ifCond .eq 14, 18, 29, 0, 0, 0)),
  (18, (.aload_n 0, 19, 0, 0, 0, 0)),
  (19, (.getfield 112, 22, 26, 11, 153, 0)),
  (22, (.iload_n 1, 23, 0, 0, 0, 0)),
  (23, (.baload, 24, 0, 0, 0, 0)),
  (24, (.ifCond .ne 5, 27, 29, 0, 0, 0)),
  (27, (.iconst 0, 28, 0, 0, 0, 0)),
  (28, (.ireturn, 29, 0, 0, 0, 0)),
  (29, (.aload_n 0, 30, 0, 0, 0, 0)),
  (30, (.getfield 112, 33, 26, 11, 153, 0)),
  (33, (.iload_n 1, 34, 0, 0, 0, 0)),
  (34, (.iconst 1, 35, 0, 0, 0, 0)),
  (35, (.bastore, 36, 0, 0, 0, 0)),
  (36, (.aload_n 0, 37, 0, 0, 0, 0)),
  (37, (.iload_n 2, 38, 0, 0, 0, 0)),
  (38, (.ifCond .eq 12, 41, 50, 0, 0, 0)),
  (41, (.bipush 49, 43, 0, 0, 0, 0)),
  (43, (.iconst 1, 44, 0, 0, 0, 0)),
  (44, (.iload_n 1, 45, 0, 0, 0, 0)),
  (45, (.iadd, 46, 0, 0, 0, 0)),
  (46, (.imul, 47, 0, 0, 0, 0)),
  (47, (.goto 4, 50, 51, 0, 0, 0)),
  (50, (.iconst 0, 51, 0, 0, 0, 0)),
  (51, (.iload_n 2, 52, 0, 0, 0, 0)),
  (52, (.ifCond .eq 7, 55, 59, 0, 0, 0)),
  (55, (.iconst 0, 56, 0, 0, 0, 0)),
  (56, (.goto 9, 59, 65, 0, 0, 0)),
  (59, (.bipush 49, 61, 0, 0, 0, 0)),
  (61, (.iconst 1, 62, 0, 0, 0, 0)),
  (62, (.iload_n 1, 63, 0, 0, 0, 0)),
  (63, (.iadd, 64, 0, 0, 0, 0)),
  (64, (.imul, 65, 0, 0, 0, 0)),
  (65, (.bipush 49, 67, 0, 0, 0, 0)),
  (67, (.invokevirtual 281, 70, 232, 3, 282, 11)),
  (70, (.aload_n 0, 71, 0, 0, 0, 0)),
  (71, (.iload_n 2, 72, 0, 0, 0, 0)),
  (72, (.ifCond .eq 7, 75, 79, 0, 0, 0)),
  (75, (.iconst 0, 76, 0, 0, 0, 0)),
  (76, (.goto 7, 79, 83, 0, 0, 0)),
  (79, (.aload_n 0, 80, 0, 0, 0, 0)),
  (80, (.getfield 278, 83, 25, 11, 152, 0)),
  (83, (.putfield 278, 86, 25, 11, 152, 0)),
  (86, (.iconst 1, 87, 0, 0, 0, 0)),
  (87, (.ireturn, 88, 0, 0, 0, 0))]
def am_r292 : List (Nat × am_R) := [(0, (.aload_n 0, 1, 0, 0, 0, 0)),
  (1, (.iconst 0, 2, 0, 0, 0, 0)),
  (2, (.putfield 1, 5, 0, 11, 127, 0)),
  (5, (.iload_n 1, 6, 0, 0, 0, 0)),
  (6, (.tableswitch 146 0 11 #[62, 62, 69, 76, 86, 97, 108, 114, 121, 128, 136, 141], 68, 0, 0, 0, 0)),
  (68, (.aload_n 0, 69, 0, 0, 0, 0)),
  (69, (.getfield 79, 72, 10, 11, 137, 0)),
  (72, (.iload_n 1, 73, 0, 0, 0, 0)),
  (73, (.iaload, 74, 0, 0, 0, 0)),
  (74, (.ireturn, 75, 0, 0, 0, 0)),
  (75, (.aload_n 0, 76, 0, 0, 0, 0)),
  (76, (.getfield 109, 79, 24, 11, 151, 0)),
  (79, (.iconst 0, 80, 0, 0, 0, 0)),
  (80, (.iaload, 81, 0, 0, 0, 0)),
  (81, (.ireturn, 82, 0, 0, 0, 0)),
  (82, (.aload_n 0, 83, 0, 0, 0, 0)),
  (83, (.getfield 109, 86, 24, 11, 151, 0)),
  (86, (.iconst 0, 87, 0, 0, 0, 0)),
  (87, (.iaload, 88, 0, 0, 0, 0)),
  (88, (.bipush 7, 90, 0, 0, 0, 0)),
  (90, (.irem, 91, 0, 0, 0, 0)),
  (91, (.ireturn, 92, 0, 0, 0, 0)),
  (92, (.aload_n 0, 93, 0, 0, 0, 0)),
  (93, (.aload_n 0, 94, 0, 0, 0, 0)),
  (94, (.getfield 109, 97, 24, 11, 151, 0)),
  (97, (.iconst 0, 98, 0, 0, 0, 0)),
  (98, (.iaload, 99, 0, 0, 0, 0)),
  (99, (.invokevirtual 307, 102, 224, 1, 274, 11)),
  (102, (.ireturn, 103, 0, 0, 0, 0)),
  (103, (.aload_n 0, 104, 0, 0, 0, 0)),
  (104, (.bipush 14, 106, 0, 0, 0, 0)),
  (106, (.aload_n 0, 107, 0, 0, 0, 0)),
  (107, (.invokevirtual 266, 110, 183, 0, 233, 11)),
  (110, (.invokevirtual 336, 113, 245, 2, 295, 11)),
  (113, (.ireturn, 114, 0, 0, 0, 0)),
  (114, (.aload_n 0, 115, 0, 0, 0, 0)),
  (115, (.iconst 0, 116, 0, 0, 0, 0)),
  (116, (.invokevirtual 333, 119, 244, 1, 294, 11)),
  (119, (.ireturn, 120, 0, 0, 0, 0)),
  (120, (.aload_n 0, 121, 0, 0, 0, 0)),
  (121, (.getfield 109, 124, 24, 11, 151, 0)),
  (124, (.iconst 1, 125, 0, 0, 0, 0)),
  (125, (.iaload, 126, 0, 0, 0, 0)),
  (126, (.ireturn, 127, 0, 0, 0, 0)),
  (127, (.aload_n 0, 128, 0, 0, 0, 0)),
  (128, (.getfield 100, 131, 21, 11, 148, 0)),
  (131, (.iconst 0, 132, 0, 0, 0, 0)),
  (132, (.iaload, 133, 0, 0, 0, 0)),
  (133, (.ireturn, 134, 0, 0, 0, 0)),
  (134, (.aload_n 0, 135, 0, 0, 0, 0)),
  (135, (.getfield 109, 138, 24, 11, 151, 0)),
  (138, (.bipush 24, 140, 0, 0, 0, 0)),
  (140, (.iaload, 141, 0, 0, 0, 0)),
  (141, (.ireturn, 142, 0, 0, 0, 0)),
  (142, (.aload_n 0, 143, 0, 0, 0, 0)),
  (143, (.getfield 278, 146, 25, 11, 152, 0)),
  (146, (.ireturn, 147, 0, 0, 0, 0)),
  (147, (.aload_n 0, 148, 0, 0, 0, 0)),
  (148, (.getfield 11, 151, 2, 11, 129, 0)),
  (151, (.ireturn, 152, 0, 0, 0, 0)),
  (152, (.iconst (-1), 153, 0, 0, 0, 0)),
  (153, (.ireturn, 154, 0, 0, 0, 0))]
def am_inf_7 : List (List (Nat × am_R) × Nat × Option FieldType) := [(am_r280, 7, (Option.some Jvm.ClassFile.FieldType.int)), (am_r281, 3, (Option.some Jvm.ClassFile.FieldType.int)), (am_r282, 3, (Option.some Jvm.ClassFile.FieldType.int)), (am_r283, 5, (Option.some Jvm.ClassFile.FieldType.int)), (am_r284, 3, (Option.some Jvm.ClassFile.FieldType.int)), (am_r285, 14, (Option.some Jvm.ClassFile.FieldType.int)), (am_r286, 12, (Option.some Jvm.ClassFile.FieldType.int)), (am_r287, 5, (Option.some Jvm.ClassFile.FieldType.int)), (am_r288, 5, (Option.some Jvm.ClassFile.FieldType.int)), (am_r289, 3, (Option.none : Option Jvm.ClassFile.FieldType)), (am_r290, 2, (Option.some Jvm.ClassFile.FieldType.int)), (am_r291, 3, (Option.some Jvm.ClassFile.FieldType.boolean)), (am_r292, 2, (Option.some Jvm.ClassFile.FieldType.int))]
theorem am_ck_7_0 : ((am_mi_7.zip am_inf_7).take 10).all am_chk = true := by decide +kernel
theorem am_ck_7_1 : (((am_mi_7.zip am_inf_7).drop 10).take 10).all am_chk = true := by decide +kernel
theorem am_ck_7_2 : (((am_mi_7.zip am_inf_7).drop 20).take 10).all am_chk = true := by decide +kernel
theorem am_ck_7_3 : (((am_mi_7.zip am_inf_7).drop 30)).all am_chk = true := by decide +kernel
theorem am_ck_7 : (am_mi_7.zip am_inf_7).all am_chk = true := am_all_cut _ 10 _ am_ck_7_0 (am_all_cut _ 10 _ am_ck_7_1 (by
  rw [List.drop_drop]
  exact am_all_cut _ 10 _ am_ck_7_2 (by
    rw [List.drop_drop]
    exact am_ck_7_3)))
def am_inf : List (List (Nat × am_R) × Nat × Option FieldType) := am_inf_0 ++ (am_inf_1 ++ (am_inf_2 ++ (am_inf_3 ++ (am_inf_4 ++ (am_inf_5 ++ (am_inf_6 ++ (am_inf_7)))))))
def am_cod (n pc : Nat) : Option am_R := match am_inf[n]? with
  | some q => am_find q.1 pc
  | none => none
end
section
/-! the law's own rows -/
def am_rL_0 : List (Nat × am_R) := [(0, (.new 8, 3, 0, 10, 0, 0)),
  (3, (.dup, 4, 0, 0, 0, 0)),
  (4, (.invokespecial 15, 7, 0, 0, 0, 0)),
  (7, (.astore_n 1, 8, 0, 0, 0, 0)),
  (8, (.new 16, 11, 0, 11, 15, 0)),
  (11, (.dup, 12, 0, 0, 0, 0)),
  (12, (.invokespecial 18, 15, 179, 0, 228, 0)),
  (15, (.astore_n 2, 16, 0, 0, 0, 0)),
  (16, (.iconst 1, 17, 0, 0, 0, 0)),
  (17, (.newarray .long, 19, 0, 14, 0, 0)),
  (19, (.astore_n 3, 20, 0, 0, 0, 0)),
  (20, (.iconst 0, 21, 0, 0, 0, 0)),
  (21, (.istore 4, 23, 0, 0, 0, 0)),
  (23, (.iload 4, 25, 0, 0, 0, 0)),
  (25, (.aload_n 0, 26, 0, 0, 0, 0)),
  (26, (.arraylength, 27, 0, 0, 0, 0)),
  (27, (.bipush 7, 29, 0, 0, 0, 0)),
  (29, (.isub, 30, 0, 0, 0, 0)),
  (30, (.if_icmp .gt 1517, 33, 1547, 0, 0, 0)),
  (33, (.aload_n 0, 34, 0, 0, 0, 0)),
  (34, (.iload 4, 36, 0, 0, 0, 0)),
  (36, (.iaload, 37, 0, 0, 0, 0)),
  (37, (.bipush 63, 39, 0, 0, 0, 0)),
  (39, (.iand, 40, 0, 0, 0, 0)),
  (40, (.tableswitch 1501 0 43 #[192, 339, 352, 365, 402, 439, 452, 489, 514, 527, 552, 589, 626, 651, 688, 725, 750, 763, 788, 825, 890, 903, 916, 929, 942, 967, 980, 993, 1018, 1055, 1068, 1081, 1094, 1131, 1144, 1157, 1182, 1195, 1220, 1233, 1282, 1374, 1423, 1476], 232, 0, 0, 0, 0)),
  (232, (.aload_n 1, 233, 0, 0, 0, 0)),
  (233, (.aload_n 0, 234, 0, 0, 0, 0)),
  (234, (.iload 4, 236, 0, 0, 0, 0)),
  (236, (.iconst 1, 237, 0, 0, 0, 0)),
  (237, (.iadd, 238, 0, 0, 0, 0)),
  (238, (.iaload, 239, 0, 0, 0, 0)),
  (239, (.i2l, 240, 0, 0, 0, 0)),
  (240, (.bipush 32, 242, 0, 0, 0, 0)),
  (242, (.lshl, 243, 0, 0, 0, 0)),
  (243, (.aload_n 0, 244, 0, 0, 0, 0)),
  (244, (.iload 4, 246, 0, 0, 0, 0)),
  (246, (.iconst 2, 247, 0, 0, 0, 0)),
  (247, (.iadd, 248, 0, 0, 0, 0)),
  (248, (.iaload, 249, 0, 0, 0, 0)),
  (249, (.i2l, 250, 0, 0, 0, 0)),
  (250, (.ldc2_w 19, 253, 0, 0, 34, 0)),
  (253, (.land, 254, 0, 0, 0, 0)),
  (254, (.lor, 255, 0, 0, 0, 0)),
  (255, (.aload_n 0, 256, 0, 0, 0, 0)),
  (256, (.iload 4, 258, 0, 0, 0, 0)),
  (258, (.iconst 3, 259, 0, 0, 0, 0)),
  (259, (.iadd, 260, 0, 0, 0, 0)),
  (260, (.iaload, 261, 0, 0, 0, 0)),
  (261, (.i2l, 262, 0, 0, 0, 0)),
  (262, (.bipush 32, 264, 0, 0, 0, 0)),
  (264, (.lshl, 265, 0, 0, 0, 0)),
  (265, (.aload_n 0, 266, 0, 0, 0, 0)),
  (266, (.iload 4, 268, 0, 0, 0, 0)),
  (268, (.iconst 4, 269, 0, 0, 0, 0)),
  (269, (.iadd, 270, 0, 0, 0, 0)),
  (270, (.iaload, 271, 0, 0, 0, 0)),
  (271, (.i2l, 272, 0, 0, 0, 0)),
  (272, (.ldc2_w 19, 275, 0, 0, 34, 0)),
  (275, (.land, 276, 0, 0, 0, 0)),
  (276, (.lor, 277, 0, 0, 0, 0))]
theorem am_rL_0_ok : am_rL_0.all (fun q => am_okB false "MistCantonLaw" code q.1 q.2) = true := by decide +kernel
def am_rL_1 : List (Nat × am_R) := [(277, (.aload_n 0, 278, 0, 0, 0, 0)),
  (278, (.iload 4, 280, 0, 0, 0, 0)),
  (280, (.iconst 5, 281, 0, 0, 0, 0)),
  (281, (.iadd, 282, 0, 0, 0, 0)),
  (282, (.iaload, 283, 0, 0, 0, 0)),
  (283, (.i2l, 284, 0, 0, 0, 0)),
  (284, (.bipush 32, 286, 0, 0, 0, 0)),
  (286, (.lshl, 287, 0, 0, 0, 0)),
  (287, (.aload_n 0, 288, 0, 0, 0, 0)),
  (288, (.iload 4, 290, 0, 0, 0, 0)),
  (290, (.bipush 6, 292, 0, 0, 0, 0)),
  (292, (.iadd, 293, 0, 0, 0, 0)),
  (293, (.iaload, 294, 0, 0, 0, 0)),
  (294, (.i2l, 295, 0, 0, 0, 0)),
  (295, (.ldc2_w 19, 298, 0, 0, 34, 0)),
  (298, (.land, 299, 0, 0, 0, 0)),
  (299, (.lor, 300, 0, 0, 0, 0)),
  (300, (.invokevirtual 21, 303, 12, 3, 24, 10)),
  (303, (.pop, 304, 0, 0, 0, 0)),
  (304, (.aload_n 2, 305, 0, 0, 0, 0)),
  (305, (.aload_n 0, 306, 0, 0, 0, 0)),
  (306, (.iload 4, 308, 0, 0, 0, 0)),
  (308, (.iconst 1, 309, 0, 0, 0, 0)),
  (309, (.iadd, 310, 0, 0, 0, 0)),
  (310, (.iaload, 311, 0, 0, 0, 0)),
  (311, (.i2l, 312, 0, 0, 0, 0)),
  (312, (.bipush 32, 314, 0, 0, 0, 0)),
  (314, (.lshl, 315, 0, 0, 0, 0)),
  (315, (.aload_n 0, 316, 0, 0, 0, 0)),
  (316, (.iload 4, 318, 0, 0, 0, 0)),
  (318, (.iconst 2, 319, 0, 0, 0, 0)),
  (319, (.iadd, 320, 0, 0, 0, 0)),
  (320, (.iaload, 321, 0, 0, 0, 0)),
  (321, (.i2l, 322, 0, 0, 0, 0)),
  (322, (.ldc2_w 19, 325, 0, 0, 34, 0)),
  (325, (.land, 326, 0, 0, 0, 0)),
  (326, (.lor, 327, 0, 0, 0, 0)),
  (327, (.aload_n 0, 328, 0, 0, 0, 0)),
  (328, (.iload 4, 330, 0, 0, 0, 0)),
  (330, (.iconst 3, 331, 0, 0, 0, 0)),
  (331, (.iadd, 332, 0, 0, 0, 0)),
  (332, (.iaload, 333, 0, 0, 0, 0)),
  (333, (.i2l, 334, 0, 0, 0, 0)),
  (334, (.bipush 32, 336, 0, 0, 0, 0)),
  (336, (.lshl, 337, 0, 0, 0, 0)),
  (337, (.aload_n 0, 338, 0, 0, 0, 0)),
  (338, (.iload 4, 340, 0, 0, 0, 0)),
  (340, (.iconst 4, 341, 0, 0, 0, 0)),
  (341, (.iadd, 342, 0, 0, 0, 0)),
  (342, (.iaload, 343, 0, 0, 0, 0)),
  (343, (.i2l, 344, 0, 0, 0, 0)),
  (344, (.ldc2_w 19, 347, 0, 0, 34, 0)),
  (347, (.land, 348, 0, 0, 0, 0)),
  (348, (.lor, 349, 0, 0, 0, 0)),
  (349, (.aload_n 0, 350, 0, 0, 0, 0)),
  (350, (.iload 4, 352, 0, 0, 0, 0)),
  (352, (.iconst 5, 353, 0, 0, 0, 0)),
  (353, (.iadd, 354, 0, 0, 0, 0)),
  (354, (.iaload, 355, 0, 0, 0, 0)),
  (355, (.i2l, 356, 0, 0, 0, 0))]
theorem am_rL_1_ok : am_rL_1.all (fun q => am_okB false "MistCantonLaw" code q.1 q.2) = true := by decide +kernel
def am_rL_2 : List (Nat × am_R) := [(356, (.bipush 32, 358, 0, 0, 0, 0)),
  (358, (.lshl, 359, 0, 0, 0, 0)),
  (359, (.aload_n 0, 360, 0, 0, 0, 0)),
  (360, (.iload 4, 362, 0, 0, 0, 0)),
  (362, (.bipush 6, 364, 0, 0, 0, 0)),
  (364, (.iadd, 365, 0, 0, 0, 0)),
  (365, (.iaload, 366, 0, 0, 0, 0)),
  (366, (.i2l, 367, 0, 0, 0, 0)),
  (367, (.ldc2_w 19, 370, 0, 0, 34, 0)),
  (370, (.land, 371, 0, 0, 0, 0)),
  (371, (.lor, 372, 0, 0, 0, 0)),
  (372, (.invokevirtual 25, 375, 177, 3, 226, 11)),
  (375, (.pop, 376, 0, 0, 0, 0)),
  (376, (.goto 1165, 379, 1541, 0, 0, 0)),
  (379, (.aload_n 1, 380, 0, 0, 0, 0)),
  (380, (.invokevirtual 26, 383, 14, 0, 26, 10)),
  (383, (.pop, 384, 0, 0, 0, 0)),
  (384, (.aload_n 2, 385, 0, 0, 0, 0)),
  (385, (.invokevirtual 30, 388, 188, 0, 238, 11)),
  (388, (.pop, 389, 0, 0, 0, 0)),
  (389, (.goto 1152, 392, 1541, 0, 0, 0)),
  (392, (.aload_n 1, 393, 0, 0, 0, 0)),
  (393, (.invokevirtual 31, 396, 80, 0, 102, 10)),
  (396, (.pop, 397, 0, 0, 0, 0)),
  (397, (.aload_n 2, 398, 0, 0, 0, 0)),
  (398, (.invokevirtual 34, 401, 219, 0, 269, 11)),
  (401, (.pop, 402, 0, 0, 0, 0)),
  (402, (.goto 1139, 405, 1541, 0, 0, 0)),
  (405, (.aload_n 1, 406, 0, 0, 0, 0)),
  (406, (.aload_n 0, 407, 0, 0, 0, 0)),
  (407, (.iload 4, 409, 0, 0, 0, 0)),
  (409, (.iconst 1, 410, 0, 0, 0, 0)),
  (410, (.iadd, 411, 0, 0, 0, 0)),
  (411, (.iaload, 412, 0, 0, 0, 0)),
  (412, (.aload_n 0, 413, 0, 0, 0, 0)),
  (413, (.iload 4, 415, 0, 0, 0, 0)),
  (415, (.iconst 2, 416, 0, 0, 0, 0)),
  (416, (.iadd, 417, 0, 0, 0, 0)),
  (417, (.iaload, 418, 0, 0, 0, 0)),
  (418, (.invokevirtual 35, 421, 86, 2, 116, 10)),
  (421, (.pop, 422, 0, 0, 0, 0)),
  (422, (.aload_n 2, 423, 0, 0, 0, 0)),
  (423, (.aload_n 0, 424, 0, 0, 0, 0)),
  (424, (.iload 4, 426, 0, 0, 0, 0)),
  (426, (.iconst 1, 427, 0, 0, 0, 0)),
  (427, (.iadd, 428, 0, 0, 0, 0)),
  (428, (.iaload, 429, 0, 0, 0, 0)),
  (429, (.aload_n 0, 430, 0, 0, 0, 0)),
  (430, (.iload 4, 432, 0, 0, 0, 0)),
  (432, (.iconst 2, 433, 0, 0, 0, 0)),
  (433, (.iadd, 434, 0, 0, 0, 0)),
  (434, (.iaload, 435, 0, 0, 0, 0)),
  (435, (.invokevirtual 39, 438, 220, 2, 270, 11)),
  (438, (.pop, 439, 0, 0, 0, 0)),
  (439, (.goto 1102, 442, 1541, 0, 0, 0)),
  (442, (.aload_n 1, 443, 0, 0, 0, 0)),
  (443, (.aload_n 0, 444, 0, 0, 0, 0)),
  (444, (.iload 4, 446, 0, 0, 0, 0)),
  (446, (.iconst 1, 447, 0, 0, 0, 0)),
  (447, (.iadd, 448, 0, 0, 0, 0))]
theorem am_rL_2_ok : am_rL_2.all (fun q => am_okB false "MistCantonLaw" code q.1 q.2) = true := by decide +kernel
def am_rL_3 : List (Nat × am_R) := [(448, (.iaload, 449, 0, 0, 0, 0)),
  (449, (.aload_n 0, 450, 0, 0, 0, 0)),
  (450, (.iload 4, 452, 0, 0, 0, 0)),
  (452, (.iconst 2, 453, 0, 0, 0, 0)),
  (453, (.iadd, 454, 0, 0, 0, 0)),
  (454, (.iaload, 455, 0, 0, 0, 0)),
  (455, (.invokevirtual 40, 458, 92, 2, 123, 10)),
  (458, (.pop, 459, 0, 0, 0, 0)),
  (459, (.aload_n 2, 460, 0, 0, 0, 0)),
  (460, (.aload_n 0, 461, 0, 0, 0, 0)),
  (461, (.iload 4, 463, 0, 0, 0, 0)),
  (463, (.iconst 1, 464, 0, 0, 0, 0)),
  (464, (.iadd, 465, 0, 0, 0, 0)),
  (465, (.iaload, 466, 0, 0, 0, 0)),
  (466, (.aload_n 0, 467, 0, 0, 0, 0)),
  (467, (.iload 4, 469, 0, 0, 0, 0)),
  (469, (.iconst 2, 470, 0, 0, 0, 0)),
  (470, (.iadd, 471, 0, 0, 0, 0)),
  (471, (.iaload, 472, 0, 0, 0, 0)),
  (472, (.invokevirtual 43, 475, 226, 2, 276, 11)),
  (475, (.pop, 476, 0, 0, 0, 0)),
  (476, (.goto 1065, 479, 1541, 0, 0, 0)),
  (479, (.aload_n 1, 480, 0, 0, 0, 0)),
  (480, (.invokevirtual 44, 483, 97, 0, 129, 10)),
  (483, (.pop, 484, 0, 0, 0, 0)),
  (484, (.aload_n 2, 485, 0, 0, 0, 0)),
  (485, (.invokevirtual 47, 488, 230, 0, 280, 11)),
  (488, (.pop, 489, 0, 0, 0, 0)),
  (489, (.goto 1052, 492, 1541, 0, 0, 0)),
  (492, (.aload_n 1, 493, 0, 0, 0, 0)),
  (493, (.aload_n 0, 494, 0, 0, 0, 0)),
  (494, (.iload 4, 496, 0, 0, 0, 0)),
  (496, (.iconst 1, 497, 0, 0, 0, 0)),
  (497, (.iadd, 498, 0, 0, 0, 0)),
  (498, (.iaload, 499, 0, 0, 0, 0)),
  (499, (.aload_n 0, 500, 0, 0, 0, 0)),
  (500, (.iload 4, 502, 0, 0, 0, 0)),
  (502, (.iconst 2, 503, 0, 0, 0, 0)),
  (503, (.iadd, 504, 0, 0, 0, 0)),
  (504, (.iaload, 505, 0, 0, 0, 0)),
  (505, (.invokevirtual 48, 508, 109, 2, 144, 10)),
  (508, (.pop, 509, 0, 0, 0, 0)),
  (509, (.aload_n 2, 510, 0, 0, 0, 0)),
  (510, (.aload_n 0, 511, 0, 0, 0, 0)),
  (511, (.iload 4, 513, 0, 0, 0, 0)),
  (513, (.iconst 1, 514, 0, 0, 0, 0)),
  (514, (.iadd, 515, 0, 0, 0, 0)),
  (515, (.iaload, 516, 0, 0, 0, 0)),
  (516, (.aload_n 0, 517, 0, 0, 0, 0)),
  (517, (.iload 4, 519, 0, 0, 0, 0)),
  (519, (.iconst 2, 520, 0, 0, 0, 0)),
  (520, (.iadd, 521, 0, 0, 0, 0)),
  (521, (.iaload, 522, 0, 0, 0, 0)),
  (522, (.invokevirtual 51, 525, 239, 2, 289, 11)),
  (525, (.pop, 526, 0, 0, 0, 0)),
  (526, (.goto 1015, 529, 1541, 0, 0, 0)),
  (529, (.aload_n 1, 530, 0, 0, 0, 0)),
  (530, (.aload_n 0, 531, 0, 0, 0, 0)),
  (531, (.iload 4, 533, 0, 0, 0, 0)),
  (533, (.iconst 1, 534, 0, 0, 0, 0))]
theorem am_rL_3_ok : am_rL_3.all (fun q => am_okB false "MistCantonLaw" code q.1 q.2) = true := by decide +kernel
def am_rL_4 : List (Nat × am_R) := [(534, (.iadd, 535, 0, 0, 0, 0)),
  (535, (.iaload, 536, 0, 0, 0, 0)),
  (536, (.invokevirtual 52, 539, 110, 1, 146, 10)),
  (539, (.pop, 540, 0, 0, 0, 0)),
  (540, (.aload_n 2, 541, 0, 0, 0, 0)),
  (541, (.aload_n 0, 542, 0, 0, 0, 0)),
  (542, (.iload 4, 544, 0, 0, 0, 0)),
  (544, (.iconst 1, 545, 0, 0, 0, 0)),
  (545, (.iadd, 546, 0, 0, 0, 0)),
  (546, (.iaload, 547, 0, 0, 0, 0)),
  (547, (.invokevirtual 56, 550, 240, 1, 290, 11)),
  (550, (.pop, 551, 0, 0, 0, 0)),
  (551, (.goto 990, 554, 1541, 0, 0, 0)),
  (554, (.aload_n 1, 555, 0, 0, 0, 0)),
  (555, (.invokevirtual 57, 558, 112, 0, 148, 10)),
  (558, (.pop, 559, 0, 0, 0, 0)),
  (559, (.aload_n 2, 560, 0, 0, 0, 0)),
  (560, (.invokevirtual 61, 563, 242, 0, 292, 11)),
  (563, (.pop, 564, 0, 0, 0, 0)),
  (564, (.goto 977, 567, 1541, 0, 0, 0)),
  (567, (.aload_n 1, 568, 0, 0, 0, 0)),
  (568, (.aload_n 0, 569, 0, 0, 0, 0)),
  (569, (.iload 4, 571, 0, 0, 0, 0)),
  (571, (.iconst 1, 572, 0, 0, 0, 0)),
  (572, (.iadd, 573, 0, 0, 0, 0)),
  (573, (.iaload, 574, 0, 0, 0, 0)),
  (574, (.invokevirtual 62, 577, 116, 1, 154, 10)),
  (577, (.pop, 578, 0, 0, 0, 0)),
  (578, (.aload_n 2, 579, 0, 0, 0, 0)),
  (579, (.aload_n 0, 580, 0, 0, 0, 0)),
  (580, (.iload 4, 582, 0, 0, 0, 0)),
  (582, (.iconst 1, 583, 0, 0, 0, 0)),
  (583, (.iadd, 584, 0, 0, 0, 0)),
  (584, (.iaload, 585, 0, 0, 0, 0)),
  (585, (.invokevirtual 65, 588, 243, 1, 293, 11)),
  (588, (.pop, 589, 0, 0, 0, 0)),
  (589, (.goto 952, 592, 1541, 0, 0, 0)),
  (592, (.aload_n 1, 593, 0, 0, 0, 0)),
  (593, (.aload_n 0, 594, 0, 0, 0, 0)),
  (594, (.iload 4, 596, 0, 0, 0, 0)),
  (596, (.iconst 1, 597, 0, 0, 0, 0)),
  (597, (.iadd, 598, 0, 0, 0, 0)),
  (598, (.iaload, 599, 0, 0, 0, 0)),
  (599, (.aload_n 0, 600, 0, 0, 0, 0)),
  (600, (.iload 4, 602, 0, 0, 0, 0)),
  (602, (.iconst 2, 603, 0, 0, 0, 0)),
  (603, (.iadd, 604, 0, 0, 0, 0)),
  (604, (.iaload, 605, 0, 0, 0, 0)),
  (605, (.invokevirtual 66, 608, 119, 2, 157, 10)),
  (608, (.pop, 609, 0, 0, 0, 0)),
  (609, (.aload_n 2, 610, 0, 0, 0, 0)),
  (610, (.aload_n 0, 611, 0, 0, 0, 0)),
  (611, (.iload 4, 613, 0, 0, 0, 0)),
  (613, (.iconst 1, 614, 0, 0, 0, 0)),
  (614, (.iadd, 615, 0, 0, 0, 0)),
  (615, (.iaload, 616, 0, 0, 0, 0)),
  (616, (.aload_n 0, 617, 0, 0, 0, 0)),
  (617, (.iload 4, 619, 0, 0, 0, 0)),
  (619, (.iconst 2, 620, 0, 0, 0, 0)),
  (620, (.iadd, 621, 0, 0, 0, 0))]
theorem am_rL_4_ok : am_rL_4.all (fun q => am_okB false "MistCantonLaw" code q.1 q.2) = true := by decide +kernel
def am_rL_5 : List (Nat × am_R) := [(621, (.iaload, 622, 0, 0, 0, 0)),
  (622, (.invokevirtual 69, 625, 246, 2, 296, 11)),
  (625, (.pop, 626, 0, 0, 0, 0)),
  (626, (.goto 915, 629, 1541, 0, 0, 0)),
  (629, (.aload_n 1, 630, 0, 0, 0, 0)),
  (630, (.aload_n 0, 631, 0, 0, 0, 0)),
  (631, (.iload 4, 633, 0, 0, 0, 0)),
  (633, (.iconst 1, 634, 0, 0, 0, 0)),
  (634, (.iadd, 635, 0, 0, 0, 0)),
  (635, (.iaload, 636, 0, 0, 0, 0)),
  (636, (.aload_n 0, 637, 0, 0, 0, 0)),
  (637, (.iload 4, 639, 0, 0, 0, 0)),
  (639, (.iconst 2, 640, 0, 0, 0, 0)),
  (640, (.iadd, 641, 0, 0, 0, 0)),
  (641, (.iaload, 642, 0, 0, 0, 0)),
  (642, (.invokevirtual 70, 645, 120, 2, 158, 10)),
  (645, (.pop, 646, 0, 0, 0, 0)),
  (646, (.aload_n 2, 647, 0, 0, 0, 0)),
  (647, (.aload_n 0, 648, 0, 0, 0, 0)),
  (648, (.iload 4, 650, 0, 0, 0, 0)),
  (650, (.iconst 1, 651, 0, 0, 0, 0)),
  (651, (.iadd, 652, 0, 0, 0, 0)),
  (652, (.iaload, 653, 0, 0, 0, 0)),
  (653, (.aload_n 0, 654, 0, 0, 0, 0)),
  (654, (.iload 4, 656, 0, 0, 0, 0)),
  (656, (.iconst 2, 657, 0, 0, 0, 0)),
  (657, (.iadd, 658, 0, 0, 0, 0)),
  (658, (.iaload, 659, 0, 0, 0, 0)),
  (659, (.invokevirtual 73, 662, 248, 2, 298, 11)),
  (662, (.pop, 663, 0, 0, 0, 0)),
  (663, (.goto 878, 666, 1541, 0, 0, 0)),
  (666, (.aload_n 1, 667, 0, 0, 0, 0)),
  (667, (.aload_n 0, 668, 0, 0, 0, 0)),
  (668, (.iload 4, 670, 0, 0, 0, 0)),
  (670, (.iconst 1, 671, 0, 0, 0, 0)),
  (671, (.iadd, 672, 0, 0, 0, 0)),
  (672, (.iaload, 673, 0, 0, 0, 0)),
  (673, (.invokevirtual 74, 676, 121, 1, 160, 10)),
  (676, (.pop, 677, 0, 0, 0, 0)),
  (677, (.aload_n 2, 678, 0, 0, 0, 0)),
  (678, (.aload_n 0, 679, 0, 0, 0, 0)),
  (679, (.iload 4, 681, 0, 0, 0, 0)),
  (681, (.iconst 1, 682, 0, 0, 0, 0)),
  (682, (.iadd, 683, 0, 0, 0, 0)),
  (683, (.iaload, 684, 0, 0, 0, 0)),
  (684, (.invokevirtual 77, 687, 249, 1, 299, 11)),
  (687, (.pop, 688, 0, 0, 0, 0)),
  (688, (.goto 853, 691, 1541, 0, 0, 0)),
  (691, (.aload_n 1, 692, 0, 0, 0, 0)),
  (692, (.aload_n 0, 693, 0, 0, 0, 0)),
  (693, (.iload 4, 695, 0, 0, 0, 0)),
  (695, (.iconst 1, 696, 0, 0, 0, 0)),
  (696, (.iadd, 697, 0, 0, 0, 0)),
  (697, (.iaload, 698, 0, 0, 0, 0)),
  (698, (.aload_n 0, 699, 0, 0, 0, 0)),
  (699, (.iload 4, 701, 0, 0, 0, 0)),
  (701, (.iconst 2, 702, 0, 0, 0, 0)),
  (702, (.iadd, 703, 0, 0, 0, 0)),
  (703, (.iaload, 704, 0, 0, 0, 0)),
  (704, (.invokevirtual 78, 707, 122, 2, 161, 10))]
theorem am_rL_5_ok : am_rL_5.all (fun q => am_okB false "MistCantonLaw" code q.1 q.2) = true := by decide +kernel
def am_rL_6 : List (Nat × am_R) := [(707, (.pop, 708, 0, 0, 0, 0)),
  (708, (.aload_n 2, 709, 0, 0, 0, 0)),
  (709, (.aload_n 0, 710, 0, 0, 0, 0)),
  (710, (.iload 4, 712, 0, 0, 0, 0)),
  (712, (.iconst 1, 713, 0, 0, 0, 0)),
  (713, (.iadd, 714, 0, 0, 0, 0)),
  (714, (.iaload, 715, 0, 0, 0, 0)),
  (715, (.aload_n 0, 716, 0, 0, 0, 0)),
  (716, (.iload 4, 718, 0, 0, 0, 0)),
  (718, (.iconst 2, 719, 0, 0, 0, 0)),
  (719, (.iadd, 720, 0, 0, 0, 0)),
  (720, (.iaload, 721, 0, 0, 0, 0)),
  (721, (.invokevirtual 81, 724, 250, 2, 300, 11)),
  (724, (.pop, 725, 0, 0, 0, 0)),
  (725, (.goto 816, 728, 1541, 0, 0, 0)),
  (728, (.aload_n 1, 729, 0, 0, 0, 0)),
  (729, (.aload_n 0, 730, 0, 0, 0, 0)),
  (730, (.iload 4, 732, 0, 0, 0, 0)),
  (732, (.iconst 1, 733, 0, 0, 0, 0)),
  (733, (.iadd, 734, 0, 0, 0, 0)),
  (734, (.iaload, 735, 0, 0, 0, 0)),
  (735, (.aload_n 0, 736, 0, 0, 0, 0)),
  (736, (.iload 4, 738, 0, 0, 0, 0)),
  (738, (.iconst 2, 739, 0, 0, 0, 0)),
  (739, (.iadd, 740, 0, 0, 0, 0)),
  (740, (.iaload, 741, 0, 0, 0, 0)),
  (741, (.invokevirtual 82, 744, 125, 2, 164, 10)),
  (744, (.pop, 745, 0, 0, 0, 0)),
  (745, (.aload_n 2, 746, 0, 0, 0, 0)),
  (746, (.aload_n 0, 747, 0, 0, 0, 0)),
  (747, (.iload 4, 749, 0, 0, 0, 0)),
  (749, (.iconst 1, 750, 0, 0, 0, 0)),
  (750, (.iadd, 751, 0, 0, 0, 0)),
  (751, (.iaload, 752, 0, 0, 0, 0)),
  (752, (.aload_n 0, 753, 0, 0, 0, 0)),
  (753, (.iload 4, 755, 0, 0, 0, 0)),
  (755, (.iconst 2, 756, 0, 0, 0, 0)),
  (756, (.iadd, 757, 0, 0, 0, 0)),
  (757, (.iaload, 758, 0, 0, 0, 0)),
  (758, (.invokevirtual 85, 761, 251, 2, 301, 11)),
  (761, (.pop, 762, 0, 0, 0, 0)),
  (762, (.goto 779, 765, 1541, 0, 0, 0)),
  (765, (.aload_n 1, 766, 0, 0, 0, 0)),
  (766, (.aload_n 0, 767, 0, 0, 0, 0)),
  (767, (.iload 4, 769, 0, 0, 0, 0)),
  (769, (.iconst 1, 770, 0, 0, 0, 0)),
  (770, (.iadd, 771, 0, 0, 0, 0)),
  (771, (.iaload, 772, 0, 0, 0, 0)),
  (772, (.invokevirtual 86, 775, 126, 1, 165, 10)),
  (775, (.pop, 776, 0, 0, 0, 0)),
  (776, (.aload_n 2, 777, 0, 0, 0, 0)),
  (777, (.aload_n 0, 778, 0, 0, 0, 0)),
  (778, (.iload 4, 780, 0, 0, 0, 0)),
  (780, (.iconst 1, 781, 0, 0, 0, 0)),
  (781, (.iadd, 782, 0, 0, 0, 0)),
  (782, (.iaload, 783, 0, 0, 0, 0)),
  (783, (.invokevirtual 89, 786, 252, 1, 302, 11)),
  (786, (.pop, 787, 0, 0, 0, 0)),
  (787, (.goto 754, 790, 1541, 0, 0, 0)),
  (790, (.aload_n 1, 791, 0, 0, 0, 0))]
theorem am_rL_6_ok : am_rL_6.all (fun q => am_okB false "MistCantonLaw" code q.1 q.2) = true := by decide +kernel
def am_rL_7 : List (Nat × am_R) := [(791, (.invokevirtual 90, 794, 128, 0, 167, 10)),
  (794, (.pop, 795, 0, 0, 0, 0)),
  (795, (.aload_n 2, 796, 0, 0, 0, 0)),
  (796, (.invokevirtual 93, 799, 254, 0, 304, 11)),
  (799, (.pop, 800, 0, 0, 0, 0)),
  (800, (.goto 741, 803, 1541, 0, 0, 0)),
  (803, (.aload_n 1, 804, 0, 0, 0, 0)),
  (804, (.aload_n 0, 805, 0, 0, 0, 0)),
  (805, (.iload 4, 807, 0, 0, 0, 0)),
  (807, (.iconst 1, 808, 0, 0, 0, 0)),
  (808, (.iadd, 809, 0, 0, 0, 0)),
  (809, (.iaload, 810, 0, 0, 0, 0)),
  (810, (.invokevirtual 94, 813, 141, 1, 181, 10)),
  (813, (.pop, 814, 0, 0, 0, 0)),
  (814, (.aload_n 2, 815, 0, 0, 0, 0)),
  (815, (.aload_n 0, 816, 0, 0, 0, 0)),
  (816, (.iload 4, 818, 0, 0, 0, 0)),
  (818, (.iconst 1, 819, 0, 0, 0, 0)),
  (819, (.iadd, 820, 0, 0, 0, 0)),
  (820, (.iaload, 821, 0, 0, 0, 0)),
  (821, (.invokevirtual 97, 824, 261, 1, 311, 11)),
  (824, (.pop, 825, 0, 0, 0, 0)),
  (825, (.goto 716, 828, 1541, 0, 0, 0)),
  (828, (.aload_n 1, 829, 0, 0, 0, 0)),
  (829, (.aload_n 0, 830, 0, 0, 0, 0)),
  (830, (.iload 4, 832, 0, 0, 0, 0)),
  (832, (.iconst 1, 833, 0, 0, 0, 0)),
  (833, (.iadd, 834, 0, 0, 0, 0)),
  (834, (.iaload, 835, 0, 0, 0, 0)),
  (835, (.aload_n 0, 836, 0, 0, 0, 0)),
  (836, (.iload 4, 838, 0, 0, 0, 0)),
  (838, (.iconst 2, 839, 0, 0, 0, 0)),
  (839, (.iadd, 840, 0, 0, 0, 0)),
  (840, (.iaload, 841, 0, 0, 0, 0)),
  (841, (.invokevirtual 98, 844, 143, 2, 184, 10)),
  (844, (.pop, 845, 0, 0, 0, 0)),
  (845, (.aload_n 2, 846, 0, 0, 0, 0)),
  (846, (.aload_n 0, 847, 0, 0, 0, 0)),
  (847, (.iload 4, 849, 0, 0, 0, 0)),
  (849, (.iconst 1, 850, 0, 0, 0, 0)),
  (850, (.iadd, 851, 0, 0, 0, 0)),
  (851, (.iaload, 852, 0, 0, 0, 0)),
  (852, (.aload_n 0, 853, 0, 0, 0, 0)),
  (853, (.iload 4, 855, 0, 0, 0, 0)),
  (855, (.iconst 2, 856, 0, 0, 0, 0)),
  (856, (.iadd, 857, 0, 0, 0, 0)),
  (857, (.iaload, 858, 0, 0, 0, 0)),
  (858, (.invokevirtual 101, 861, 263, 2, 313, 11)),
  (861, (.pop, 862, 0, 0, 0, 0)),
  (862, (.goto 679, 865, 1541, 0, 0, 0)),
  (865, (.aload_n 1, 866, 0, 0, 0, 0)),
  (866, (.aload_n 0, 867, 0, 0, 0, 0)),
  (867, (.iload 4, 869, 0, 0, 0, 0)),
  (869, (.iconst 1, 870, 0, 0, 0, 0)),
  (870, (.iadd, 871, 0, 0, 0, 0)),
  (871, (.iaload, 872, 0, 0, 0, 0)),
  (872, (.aload_n 0, 873, 0, 0, 0, 0)),
  (873, (.iload 4, 875, 0, 0, 0, 0)),
  (875, (.iconst 2, 876, 0, 0, 0, 0)),
  (876, (.iadd, 877, 0, 0, 0, 0))]
theorem am_rL_7_ok : am_rL_7.all (fun q => am_okB false "MistCantonLaw" code q.1 q.2) = true := by decide +kernel
def am_rL_8 : List (Nat × am_R) := [(877, (.iaload, 878, 0, 0, 0, 0)),
  (878, (.aload_n 0, 879, 0, 0, 0, 0)),
  (879, (.iload 4, 881, 0, 0, 0, 0)),
  (881, (.iconst 3, 882, 0, 0, 0, 0)),
  (882, (.iadd, 883, 0, 0, 0, 0)),
  (883, (.iaload, 884, 0, 0, 0, 0)),
  (884, (.ifCond .eq 7, 887, 891, 0, 0, 0)),
  (887, (.iconst 1, 888, 0, 0, 0, 0)),
  (888, (.goto 4, 891, 892, 0, 0, 0)),
  (891, (.iconst 0, 892, 0, 0, 0, 0)),
  (892, (.invokevirtual 102, 895, 148, 3, 190, 10)),
  (895, (.pop, 896, 0, 0, 0, 0)),
  (896, (.aload_n 2, 897, 0, 0, 0, 0)),
  (897, (.aload_n 0, 898, 0, 0, 0, 0)),
  (898, (.iload 4, 900, 0, 0, 0, 0)),
  (900, (.iconst 1, 901, 0, 0, 0, 0)),
  (901, (.iadd, 902, 0, 0, 0, 0)),
  (902, (.iaload, 903, 0, 0, 0, 0)),
  (903, (.aload_n 0, 904, 0, 0, 0, 0)),
  (904, (.iload 4, 906, 0, 0, 0, 0)),
  (906, (.iconst 2, 907, 0, 0, 0, 0)),
  (907, (.iadd, 908, 0, 0, 0, 0)),
  (908, (.iaload, 909, 0, 0, 0, 0)),
  (909, (.aload_n 0, 910, 0, 0, 0, 0)),
  (910, (.iload 4, 912, 0, 0, 0, 0)),
  (912, (.iconst 3, 913, 0, 0, 0, 0)),
  (913, (.iadd, 914, 0, 0, 0, 0)),
  (914, (.iaload, 915, 0, 0, 0, 0)),
  (915, (.ifCond .eq 7, 918, 922, 0, 0, 0)),
  (918, (.iconst 1, 919, 0, 0, 0, 0)),
  (919, (.goto 4, 922, 923, 0, 0, 0)),
  (922, (.iconst 0, 923, 0, 0, 0, 0)),
  (923, (.invokevirtual 106, 926, 266, 3, 316, 11)),
  (926, (.pop, 927, 0, 0, 0, 0)),
  (927, (.goto 614, 930, 1541, 0, 0, 0)),
  (930, (.aload_n 1, 931, 0, 0, 0, 0)),
  (931, (.invokevirtual 107, 934, 150, 0, 193, 10)),
  (934, (.pop, 935, 0, 0, 0, 0)),
  (935, (.aload_n 2, 936, 0, 0, 0, 0)),
  (936, (.invokevirtual 110, 939, 267, 0, 317, 11)),
  (939, (.pop, 940, 0, 0, 0, 0)),
  (940, (.goto 601, 943, 1541, 0, 0, 0)),
  (943, (.aload_n 1, 944, 0, 0, 0, 0)),
  (944, (.invokevirtual 111, 947, 151, 0, 194, 10)),
  (947, (.pop, 948, 0, 0, 0, 0)),
  (948, (.aload_n 2, 949, 0, 0, 0, 0)),
  (949, (.invokevirtual 114, 952, 270, 0, 320, 11)),
  (952, (.pop, 953, 0, 0, 0, 0)),
  (953, (.goto 588, 956, 1541, 0, 0, 0)),
  (956, (.aload_n 1, 957, 0, 0, 0, 0)),
  (957, (.invokevirtual 115, 960, 152, 0, 196, 10)),
  (960, (.pop, 961, 0, 0, 0, 0)),
  (961, (.aload_n 2, 962, 0, 0, 0, 0)),
  (962, (.invokevirtual 118, 965, 271, 0, 321, 11)),
  (965, (.pop, 966, 0, 0, 0, 0)),
  (966, (.goto 575, 969, 1541, 0, 0, 0)),
  (969, (.aload_n 1, 970, 0, 0, 0, 0)),
  (970, (.invokevirtual 119, 973, 154, 0, 198, 10)),
  (973, (.pop, 974, 0, 0, 0, 0)),
  (974, (.aload_n 2, 975, 0, 0, 0, 0))]
theorem am_rL_8_ok : am_rL_8.all (fun q => am_okB false "MistCantonLaw" code q.1 q.2) = true := by decide +kernel
def am_rL_9 : List (Nat × am_R) := [(975, (.invokevirtual 122, 978, 274, 0, 324, 11)),
  (978, (.pop, 979, 0, 0, 0, 0)),
  (979, (.goto 562, 982, 1541, 0, 0, 0)),
  (982, (.aload_n 1, 983, 0, 0, 0, 0)),
  (983, (.aload_n 0, 984, 0, 0, 0, 0)),
  (984, (.iload 4, 986, 0, 0, 0, 0)),
  (986, (.iconst 1, 987, 0, 0, 0, 0)),
  (987, (.iadd, 988, 0, 0, 0, 0)),
  (988, (.iaload, 989, 0, 0, 0, 0)),
  (989, (.invokevirtual 123, 992, 147, 1, 189, 10)),
  (992, (.pop, 993, 0, 0, 0, 0)),
  (993, (.aload_n 2, 994, 0, 0, 0, 0)),
  (994, (.aload_n 0, 995, 0, 0, 0, 0)),
  (995, (.iload 4, 997, 0, 0, 0, 0)),
  (997, (.iconst 1, 998, 0, 0, 0, 0)),
  (998, (.iadd, 999, 0, 0, 0, 0)),
  (999, (.iaload, 1000, 0, 0, 0, 0)),
  (1000, (.invokevirtual 126, 1003, 275, 1, 325, 11)),
  (1003, (.pop, 1004, 0, 0, 0, 0)),
  (1004, (.goto 537, 1007, 1541, 0, 0, 0)),
  (1007, (.aload_n 1, 1008, 0, 0, 0, 0)),
  (1008, (.invokevirtual 127, 1011, 155, 0, 201, 10)),
  (1011, (.pop, 1012, 0, 0, 0, 0)),
  (1012, (.aload_n 2, 1013, 0, 0, 0, 0)),
  (1013, (.invokevirtual 130, 1016, 276, 0, 326, 11)),
  (1016, (.pop, 1017, 0, 0, 0, 0)),
  (1017, (.goto 524, 1020, 1541, 0, 0, 0)),
  (1020, (.aload_n 1, 1021, 0, 0, 0, 0)),
  (1021, (.invokevirtual 131, 1024, 156, 0, 202, 10)),
  (1024, (.pop, 1025, 0, 0, 0, 0)),
  (1025, (.aload_n 2, 1026, 0, 0, 0, 0)),
  (1026, (.invokevirtual 134, 1029, 277, 0, 327, 11)),
  (1029, (.pop, 1030, 0, 0, 0, 0)),
  (1030, (.goto 511, 1033, 1541, 0, 0, 0)),
  (1033, (.aload_n 1, 1034, 0, 0, 0, 0)),
  (1034, (.aload_n 0, 1035, 0, 0, 0, 0)),
  (1035, (.iload 4, 1037, 0, 0, 0, 0)),
  (1037, (.iconst 1, 1038, 0, 0, 0, 0)),
  (1038, (.iadd, 1039, 0, 0, 0, 0)),
  (1039, (.iaload, 1040, 0, 0, 0, 0)),
  (1040, (.invokevirtual 135, 1043, 129, 1, 168, 10)),
  (1043, (.pop, 1044, 0, 0, 0, 0)),
  (1044, (.aload_n 2, 1045, 0, 0, 0, 0)),
  (1045, (.aload_n 0, 1046, 0, 0, 0, 0)),
  (1046, (.iload 4, 1048, 0, 0, 0, 0)),
  (1048, (.iconst 1, 1049, 0, 0, 0, 0)),
  (1049, (.iadd, 1050, 0, 0, 0, 0)),
  (1050, (.iaload, 1051, 0, 0, 0, 0)),
  (1051, (.invokevirtual 138, 1054, 255, 1, 305, 11)),
  (1054, (.pop, 1055, 0, 0, 0, 0)),
  (1055, (.goto 486, 1058, 1541, 0, 0, 0)),
  (1058, (.aload_n 1, 1059, 0, 0, 0, 0)),
  (1059, (.aload_n 0, 1060, 0, 0, 0, 0)),
  (1060, (.iload 4, 1062, 0, 0, 0, 0)),
  (1062, (.iconst 1, 1063, 0, 0, 0, 0)),
  (1063, (.iadd, 1064, 0, 0, 0, 0)),
  (1064, (.iaload, 1065, 0, 0, 0, 0)),
  (1065, (.aload_n 0, 1066, 0, 0, 0, 0)),
  (1066, (.iload 4, 1068, 0, 0, 0, 0)),
  (1068, (.iconst 2, 1069, 0, 0, 0, 0))]
theorem am_rL_9_ok : am_rL_9.all (fun q => am_okB false "MistCantonLaw" code q.1 q.2) = true := by decide +kernel
def am_rL_10 : List (Nat × am_R) := [(1069, (.iadd, 1070, 0, 0, 0, 0)),
  (1070, (.iaload, 1071, 0, 0, 0, 0)),
  (1071, (.invokevirtual 139, 1074, 160, 2, 206, 10)),
  (1074, (.pop, 1075, 0, 0, 0, 0)),
  (1075, (.aload_n 2, 1076, 0, 0, 0, 0)),
  (1076, (.aload_n 0, 1077, 0, 0, 0, 0)),
  (1077, (.iload 4, 1079, 0, 0, 0, 0)),
  (1079, (.iconst 1, 1080, 0, 0, 0, 0)),
  (1080, (.iadd, 1081, 0, 0, 0, 0)),
  (1081, (.iaload, 1082, 0, 0, 0, 0)),
  (1082, (.aload_n 0, 1083, 0, 0, 0, 0)),
  (1083, (.iload 4, 1085, 0, 0, 0, 0)),
  (1085, (.iconst 2, 1086, 0, 0, 0, 0)),
  (1086, (.iadd, 1087, 0, 0, 0, 0)),
  (1087, (.iaload, 1088, 0, 0, 0, 0)),
  (1088, (.invokevirtual 142, 1091, 279, 2, 329, 11)),
  (1091, (.pop, 1092, 0, 0, 0, 0)),
  (1092, (.goto 449, 1095, 1541, 0, 0, 0)),
  (1095, (.aload_n 1, 1096, 0, 0, 0, 0)),
  (1096, (.invokevirtual 143, 1099, 162, 0, 208, 10)),
  (1099, (.pop, 1100, 0, 0, 0, 0)),
  (1100, (.aload_n 2, 1101, 0, 0, 0, 0)),
  (1101, (.invokevirtual 146, 1104, 281, 0, 331, 11)),
  (1104, (.pop, 1105, 0, 0, 0, 0)),
  (1105, (.goto 436, 1108, 1541, 0, 0, 0)),
  (1108, (.aload_n 1, 1109, 0, 0, 0, 0)),
  (1109, (.invokevirtual 147, 1112, 163, 0, 209, 10)),
  (1112, (.pop, 1113, 0, 0, 0, 0)),
  (1113, (.aload_n 2, 1114, 0, 0, 0, 0)),
  (1114, (.invokevirtual 150, 1117, 282, 0, 332, 11)),
  (1117, (.pop, 1118, 0, 0, 0, 0)),
  (1118, (.goto 423, 1121, 1541, 0, 0, 0)),
  (1121, (.aload_n 1, 1122, 0, 0, 0, 0)),
  (1122, (.invokevirtual 151, 1125, 166, 0, 212, 10)),
  (1125, (.pop, 1126, 0, 0, 0, 0)),
  (1126, (.aload_n 2, 1127, 0, 0, 0, 0)),
  (1127, (.invokevirtual 154, 1130, 283, 0, 333, 11)),
  (1130, (.pop, 1131, 0, 0, 0, 0)),
  (1131, (.goto 410, 1134, 1541, 0, 0, 0)),
  (1134, (.aload_n 1, 1135, 0, 0, 0, 0)),
  (1135, (.aload_n 0, 1136, 0, 0, 0, 0)),
  (1136, (.iload 4, 1138, 0, 0, 0, 0)),
  (1138, (.iconst 1, 1139, 0, 0, 0, 0)),
  (1139, (.iadd, 1140, 0, 0, 0, 0)),
  (1140, (.iaload, 1141, 0, 0, 0, 0)),
  (1141, (.aload_n 0, 1142, 0, 0, 0, 0)),
  (1142, (.iload 4, 1144, 0, 0, 0, 0)),
  (1144, (.iconst 2, 1145, 0, 0, 0, 0)),
  (1145, (.iadd, 1146, 0, 0, 0, 0)),
  (1146, (.iaload, 1147, 0, 0, 0, 0)),
  (1147, (.invokevirtual 155, 1150, 165, 2, 211, 10)),
  (1150, (.pop, 1151, 0, 0, 0, 0)),
  (1151, (.aload_n 2, 1152, 0, 0, 0, 0)),
  (1152, (.aload_n 0, 1153, 0, 0, 0, 0)),
  (1153, (.iload 4, 1155, 0, 0, 0, 0)),
  (1155, (.iconst 1, 1156, 0, 0, 0, 0)),
  (1156, (.iadd, 1157, 0, 0, 0, 0)),
  (1157, (.iaload, 1158, 0, 0, 0, 0)),
  (1158, (.aload_n 0, 1159, 0, 0, 0, 0)),
  (1159, (.iload 4, 1161, 0, 0, 0, 0))]
theorem am_rL_10_ok : am_rL_10.all (fun q => am_okB false "MistCantonLaw" code q.1 q.2) = true := by decide +kernel
def am_rL_11 : List (Nat × am_R) := [(1161, (.iconst 2, 1162, 0, 0, 0, 0)),
  (1162, (.iadd, 1163, 0, 0, 0, 0)),
  (1163, (.iaload, 1164, 0, 0, 0, 0)),
  (1164, (.invokevirtual 158, 1167, 284, 2, 334, 11)),
  (1167, (.pop, 1168, 0, 0, 0, 0)),
  (1168, (.goto 373, 1171, 1541, 0, 0, 0)),
  (1171, (.aload_n 1, 1172, 0, 0, 0, 0)),
  (1172, (.invokevirtual 159, 1175, 130, 0, 169, 10)),
  (1175, (.pop, 1176, 0, 0, 0, 0)),
  (1176, (.aload_n 2, 1177, 0, 0, 0, 0)),
  (1177, (.invokevirtual 162, 1180, 256, 0, 306, 11)),
  (1180, (.pop, 1181, 0, 0, 0, 0)),
  (1181, (.goto 360, 1184, 1541, 0, 0, 0)),
  (1184, (.aload_n 1, 1185, 0, 0, 0, 0)),
  (1185, (.invokevirtual 163, 1188, 157, 0, 203, 10)),
  (1188, (.pop, 1189, 0, 0, 0, 0)),
  (1189, (.aload_n 2, 1190, 0, 0, 0, 0)),
  (1190, (.invokevirtual 166, 1193, 278, 0, 328, 11)),
  (1193, (.pop, 1194, 0, 0, 0, 0)),
  (1194, (.goto 347, 1197, 1541, 0, 0, 0)),
  (1197, (.aload_n 1, 1198, 0, 0, 0, 0)),
  (1198, (.aload_n 0, 1199, 0, 0, 0, 0)),
  (1199, (.iload 4, 1201, 0, 0, 0, 0)),
  (1201, (.iconst 1, 1202, 0, 0, 0, 0)),
  (1202, (.iadd, 1203, 0, 0, 0, 0)),
  (1203, (.iaload, 1204, 0, 0, 0, 0)),
  (1204, (.invokevirtual 167, 1207, 131, 1, 170, 10)),
  (1207, (.pop, 1208, 0, 0, 0, 0)),
  (1208, (.aload_n 2, 1209, 0, 0, 0, 0)),
  (1209, (.aload_n 0, 1210, 0, 0, 0, 0)),
  (1210, (.iload 4, 1212, 0, 0, 0, 0)),
  (1212, (.iconst 1, 1213, 0, 0, 0, 0)),
  (1213, (.iadd, 1214, 0, 0, 0, 0)),
  (1214, (.iaload, 1215, 0, 0, 0, 0)),
  (1215, (.invokevirtual 170, 1218, 257, 1, 307, 11)),
  (1218, (.pop, 1219, 0, 0, 0, 0)),
  (1219, (.goto 322, 1222, 1541, 0, 0, 0)),
  (1222, (.aload_n 1, 1223, 0, 0, 0, 0)),
  (1223, (.invokevirtual 171, 1226, 132, 0, 171, 10)),
  (1226, (.pop, 1227, 0, 0, 0, 0)),
  (1227, (.aload_n 2, 1228, 0, 0, 0, 0)),
  (1228, (.invokevirtual 174, 1231, 259, 0, 309, 11)),
  (1231, (.pop, 1232, 0, 0, 0, 0)),
  (1232, (.goto 309, 1235, 1541, 0, 0, 0)),
  (1235, (.aload_n 1, 1236, 0, 0, 0, 0)),
  (1236, (.aload_n 0, 1237, 0, 0, 0, 0)),
  (1237, (.iload 4, 1239, 0, 0, 0, 0)),
  (1239, (.iconst 1, 1240, 0, 0, 0, 0)),
  (1240, (.iadd, 1241, 0, 0, 0, 0)),
  (1241, (.iaload, 1242, 0, 0, 0, 0)),
  (1242, (.invokevirtual 175, 1245, 124, 1, 163, 10)),
  (1245, (.pop, 1246, 0, 0, 0, 0)),
  (1246, (.aload_n 2, 1247, 0, 0, 0, 0)),
  (1247, (.aload_n 0, 1248, 0, 0, 0, 0)),
  (1248, (.iload 4, 1250, 0, 0, 0, 0)),
  (1250, (.iconst 1, 1251, 0, 0, 0, 0)),
  (1251, (.iadd, 1252, 0, 0, 0, 0)),
  (1252, (.iaload, 1253, 0, 0, 0, 0)),
  (1253, (.invokevirtual 178, 1256, 258, 1, 308, 11)),
  (1256, (.pop, 1257, 0, 0, 0, 0))]
theorem am_rL_11_ok : am_rL_11.all (fun q => am_okB false "MistCantonLaw" code q.1 q.2) = true := by decide +kernel
def am_rL_12 : List (Nat × am_R) := [(1257, (.goto 284, 1260, 1541, 0, 0, 0)),
  (1260, (.aload_n 1, 1261, 0, 0, 0, 0)),
  (1261, (.invokevirtual 179, 1264, 158, 0, 204, 10)),
  (1264, (.pop, 1265, 0, 0, 0, 0)),
  (1265, (.aload_n 2, 1266, 0, 0, 0, 0)),
  (1266, (.invokevirtual 182, 1269, 260, 0, 310, 11)),
  (1269, (.pop, 1270, 0, 0, 0, 0)),
  (1270, (.goto 271, 1273, 1541, 0, 0, 0)),
  (1273, (.aload_n 1, 1274, 0, 0, 0, 0)),
  (1274, (.aload_n 0, 1275, 0, 0, 0, 0)),
  (1275, (.iload 4, 1277, 0, 0, 0, 0)),
  (1277, (.iconst 1, 1278, 0, 0, 0, 0)),
  (1278, (.iadd, 1279, 0, 0, 0, 0)),
  (1279, (.iaload, 1280, 0, 0, 0, 0)),
  (1280, (.aload_n 0, 1281, 0, 0, 0, 0)),
  (1281, (.iload 4, 1283, 0, 0, 0, 0)),
  (1283, (.iconst 2, 1284, 0, 0, 0, 0)),
  (1284, (.iadd, 1285, 0, 0, 0, 0)),
  (1285, (.iaload, 1286, 0, 0, 0, 0)),
  (1286, (.aload_n 0, 1287, 0, 0, 0, 0)),
  (1287, (.iload 4, 1289, 0, 0, 0, 0)),
  (1289, (.iconst 3, 1290, 0, 0, 0, 0)),
  (1290, (.iadd, 1291, 0, 0, 0, 0)),
  (1291, (.iaload, 1292, 0, 0, 0, 0)),
  (1292, (.invokevirtual 183, 1295, 134, 3, 174, 10)),
  (1295, (.pop, 1296, 0, 0, 0, 0)),
  (1296, (.aload_n 2, 1297, 0, 0, 0, 0)),
  (1297, (.aload_n 0, 1298, 0, 0, 0, 0)),
  (1298, (.iload 4, 1300, 0, 0, 0, 0)),
  (1300, (.iconst 1, 1301, 0, 0, 0, 0)),
  (1301, (.iadd, 1302, 0, 0, 0, 0)),
  (1302, (.iaload, 1303, 0, 0, 0, 0)),
  (1303, (.aload_n 0, 1304, 0, 0, 0, 0)),
  (1304, (.iload 4, 1306, 0, 0, 0, 0)),
  (1306, (.iconst 2, 1307, 0, 0, 0, 0)),
  (1307, (.iadd, 1308, 0, 0, 0, 0)),
  (1308, (.iaload, 1309, 0, 0, 0, 0)),
  (1309, (.aload_n 0, 1310, 0, 0, 0, 0)),
  (1310, (.iload 4, 1312, 0, 0, 0, 0)),
  (1312, (.iconst 3, 1313, 0, 0, 0, 0)),
  (1313, (.iadd, 1314, 0, 0, 0, 0)),
  (1314, (.iaload, 1315, 0, 0, 0, 0)),
  (1315, (.invokevirtual 187, 1318, 285, 3, 335, 11)),
  (1318, (.pop, 1319, 0, 0, 0, 0)),
  (1319, (.goto 222, 1322, 1541, 0, 0, 0)),
  (1322, (.aload_n 1, 1323, 0, 0, 0, 0)),
  (1323, (.aload_n 0, 1324, 0, 0, 0, 0)),
  (1324, (.iload 4, 1326, 0, 0, 0, 0)),
  (1326, (.iconst 1, 1327, 0, 0, 0, 0)),
  (1327, (.iadd, 1328, 0, 0, 0, 0)),
  (1328, (.iaload, 1329, 0, 0, 0, 0)),
  (1329, (.aload_n 0, 1330, 0, 0, 0, 0)),
  (1330, (.iload 4, 1332, 0, 0, 0, 0)),
  (1332, (.iconst 2, 1333, 0, 0, 0, 0)),
  (1333, (.iadd, 1334, 0, 0, 0, 0)),
  (1334, (.iaload, 1335, 0, 0, 0, 0)),
  (1335, (.aload_n 0, 1336, 0, 0, 0, 0)),
  (1336, (.iload 4, 1338, 0, 0, 0, 0)),
  (1338, (.iconst 3, 1339, 0, 0, 0, 0)),
  (1339, (.iadd, 1340, 0, 0, 0, 0))]
theorem am_rL_12_ok : am_rL_12.all (fun q => am_okB false "MistCantonLaw" code q.1 q.2) = true := by decide +kernel
def am_rL_13 : List (Nat × am_R) := [(1340, (.iaload, 1341, 0, 0, 0, 0)),
  (1341, (.aload_n 0, 1342, 0, 0, 0, 0)),
  (1342, (.iload 4, 1344, 0, 0, 0, 0)),
  (1344, (.iconst 4, 1345, 0, 0, 0, 0)),
  (1345, (.iadd, 1346, 0, 0, 0, 0)),
  (1346, (.iaload, 1347, 0, 0, 0, 0)),
  (1347, (.aload_n 3, 1348, 0, 0, 0, 0)),
  (1351, (.istore 5, 1353, 0, 0, 0, 0)),
  (1353, (.aload_n 2, 1354, 0, 0, 0, 0)),
  (1354, (.aload_n 0, 1355, 0, 0, 0, 0)),
  (1355, (.iload 4, 1357, 0, 0, 0, 0)),
  (1357, (.iconst 1, 1358, 0, 0, 0, 0)),
  (1358, (.iadd, 1359, 0, 0, 0, 0)),
  (1359, (.iaload, 1360, 0, 0, 0, 0)),
  (1360, (.aload_n 0, 1361, 0, 0, 0, 0)),
  (1361, (.iload 4, 1363, 0, 0, 0, 0)),
  (1363, (.iconst 2, 1364, 0, 0, 0, 0)),
  (1364, (.iadd, 1365, 0, 0, 0, 0)),
  (1365, (.iaload, 1366, 0, 0, 0, 0)),
  (1366, (.aload_n 0, 1367, 0, 0, 0, 0)),
  (1367, (.iload 4, 1369, 0, 0, 0, 0)),
  (1369, (.iconst 3, 1370, 0, 0, 0, 0)),
  (1370, (.iadd, 1371, 0, 0, 0, 0)),
  (1371, (.iaload, 1372, 0, 0, 0, 0)),
  (1372, (.aload_n 0, 1373, 0, 0, 0, 0)),
  (1373, (.iload 4, 1375, 0, 0, 0, 0)),
  (1375, (.iconst 4, 1376, 0, 0, 0, 0)),
  (1376, (.iadd, 1377, 0, 0, 0, 0)),
  (1377, (.iaload, 1378, 0, 0, 0, 0)),
  (1378, (.invokevirtual 193, 1381, 286, 4, 336, 11)),
  (1381, (.istore 6, 1383, 0, 0, 0, 0)),
  (1383, (.aload_n 2, 1384, 0, 0, 0, 0)),
  (1384, (.invokevirtual 194, 1387, 176, 0, 225, 11)),
  (1387, (.iload 5, 1389, 0, 0, 0, 0)),
  (1389, (.if_icmp .eq 5, 1392, 1394, 0, 0, 0)),
  (1392, (.iconst 0, 1393, 0, 0, 0, 0)),
  (1393, (.ireturn, 1394, 0, 0, 0, 0)),
  (1394, (.iload 5, 1396, 0, 0, 0, 0)),
  (1396, (.ifCond .ne 15, 1399, 1411, 0, 0, 0)),
  (1399, (.aload_n 3, 1400, 0, 0, 0, 0)),
  (1400, (.iconst 0, 1401, 0, 0, 0, 0)),
  (1401, (.laload, 1402, 0, 0, 0, 0)),
  (1402, (.iload 6, 1404, 0, 0, 0, 0)),
  (1404, (.i2l, 1405, 0, 0, 0, 0)),
  (1405, (.lcmp, 1406, 0, 0, 0, 0)),
  (1406, (.ifCond .eq 5, 1409, 1411, 0, 0, 0)),
  (1409, (.iconst 0, 1410, 0, 0, 0, 0)),
  (1410, (.ireturn, 1411, 0, 0, 0, 0)),
  (1411, (.goto 130, 1414, 1541, 0, 0, 0)),
  (1414, (.aload_n 1, 1415, 0, 0, 0, 0)),
  (1415, (.aload_n 0, 1416, 0, 0, 0, 0)),
  (1416, (.iload 4, 1418, 0, 0, 0, 0)),
  (1418, (.iconst 1, 1419, 0, 0, 0, 0)),
  (1419, (.iadd, 1420, 0, 0, 0, 0)),
  (1420, (.iaload, 1421, 0, 0, 0, 0)),
  (1421, (.aload_n 0, 1422, 0, 0, 0, 0)),
  (1422, (.iload 4, 1424, 0, 0, 0, 0)),
  (1424, (.iconst 2, 1425, 0, 0, 0, 0)),
  (1425, (.iadd, 1426, 0, 0, 0, 0)),
  (1426, (.iaload, 1427, 0, 0, 0, 0))]
theorem am_rL_13_ok : am_rL_13.all (fun q => am_okB false "MistCantonLaw" code q.1 q.2) = true := by decide +kernel
def am_rL_14 : List (Nat × am_R) := [(1427, (.aload_n 0, 1428, 0, 0, 0, 0)),
  (1428, (.iload 4, 1430, 0, 0, 0, 0)),
  (1430, (.iconst 3, 1431, 0, 0, 0, 0)),
  (1431, (.iadd, 1432, 0, 0, 0, 0)),
  (1432, (.iaload, 1433, 0, 0, 0, 0)),
  (1433, (.invokevirtual 197, 1436, 137, 3, 177, 10)),
  (1436, (.pop, 1437, 0, 0, 0, 0)),
  (1437, (.aload_n 2, 1438, 0, 0, 0, 0)),
  (1438, (.aload_n 0, 1439, 0, 0, 0, 0)),
  (1439, (.iload 4, 1441, 0, 0, 0, 0)),
  (1441, (.iconst 1, 1442, 0, 0, 0, 0)),
  (1442, (.iadd, 1443, 0, 0, 0, 0)),
  (1443, (.iaload, 1444, 0, 0, 0, 0)),
  (1444, (.aload_n 0, 1445, 0, 0, 0, 0)),
  (1445, (.iload 4, 1447, 0, 0, 0, 0)),
  (1447, (.iconst 2, 1448, 0, 0, 0, 0)),
  (1448, (.iadd, 1449, 0, 0, 0, 0)),
  (1449, (.iaload, 1450, 0, 0, 0, 0)),
  (1450, (.aload_n 0, 1451, 0, 0, 0, 0)),
  (1451, (.iload 4, 1453, 0, 0, 0, 0)),
  (1453, (.iconst 3, 1454, 0, 0, 0, 0)),
  (1454, (.iadd, 1455, 0, 0, 0, 0)),
  (1455, (.iaload, 1456, 0, 0, 0, 0)),
  (1456, (.invokevirtual 200, 1459, 288, 3, 338, 11)),
  (1459, (.pop, 1460, 0, 0, 0, 0)),
  (1460, (.goto 81, 1463, 1541, 0, 0, 0)),
  (1463, (.aload_n 1, 1464, 0, 0, 0, 0)),
  (1464, (.aload_n 0, 1465, 0, 0, 0, 0)),
  (1465, (.iload 4, 1467, 0, 0, 0, 0)),
  (1467, (.iconst 1, 1468, 0, 0, 0, 0)),
  (1468, (.iadd, 1469, 0, 0, 0, 0)),
  (1469, (.iaload, 1470, 0, 0, 0, 0)),
  (1470, (.aload_n 0, 1471, 0, 0, 0, 0)),
  (1471, (.iload 4, 1473, 0, 0, 0, 0)),
  (1473, (.iconst 2, 1474, 0, 0, 0, 0)),
  (1474, (.iadd, 1475, 0, 0, 0, 0)),
  (1475, (.iaload, 1476, 0, 0, 0, 0)),
  (1476, (.ifCond .eq 7, 1479, 1483, 0, 0, 0)),
  (1479, (.iconst 1, 1480, 0, 0, 0, 0)),
  (1480, (.goto 4, 1483, 1484, 0, 0, 0)),
  (1483, (.iconst 0, 1484, 0, 0, 0, 0)),
  (1484, (.invokevirtual 201, 1487, 114, 2, 150, 10)),
  (1487, (.pop, 1488, 0, 0, 0, 0)),
  (1488, (.aload_n 2, 1489, 0, 0, 0, 0)),
  (1489, (.aload_n 0, 1490, 0, 0, 0, 0)),
  (1490, (.iload 4, 1492, 0, 0, 0, 0)),
  (1492, (.iconst 1, 1493, 0, 0, 0, 0)),
  (1493, (.iadd, 1494, 0, 0, 0, 0)),
  (1494, (.iaload, 1495, 0, 0, 0, 0)),
  (1495, (.aload_n 0, 1496, 0, 0, 0, 0)),
  (1496, (.iload 4, 1498, 0, 0, 0, 0)),
  (1498, (.iconst 2, 1499, 0, 0, 0, 0)),
  (1499, (.iadd, 1500, 0, 0, 0, 0)),
  (1500, (.iaload, 1501, 0, 0, 0, 0)),
  (1501, (.ifCond .eq 7, 1504, 1508, 0, 0, 0)),
  (1504, (.iconst 1, 1505, 0, 0, 0, 0)),
  (1505, (.goto 4, 1508, 1509, 0, 0, 0)),
  (1508, (.iconst 0, 1509, 0, 0, 0, 0)),
  (1509, (.invokevirtual 205, 1512, 291, 2, 341, 11)),
  (1512, (.pop, 1513, 0, 0, 0, 0))]
theorem am_rL_14_ok : am_rL_14.all (fun q => am_okB false "MistCantonLaw" code q.1 q.2) = true := by decide +kernel
def am_rL_15 : List (Nat × am_R) := [(1513, (.goto 28, 1516, 1541, 0, 0, 0)),
  (1516, (.aload_n 1, 1517, 0, 0, 0, 0)),
  (1517, (.aload_n 0, 1518, 0, 0, 0, 0)),
  (1518, (.iload 4, 1520, 0, 0, 0, 0)),
  (1520, (.iconst 1, 1521, 0, 0, 0, 0)),
  (1521, (.iadd, 1522, 0, 0, 0, 0)),
  (1522, (.iaload, 1523, 0, 0, 0, 0)),
  (1523, (.invokevirtual 206, 1526, 94, 1, 125, 10)),
  (1526, (.pop, 1527, 0, 0, 0, 0)),
  (1527, (.aload_n 2, 1528, 0, 0, 0, 0)),
  (1528, (.aload_n 0, 1529, 0, 0, 0, 0)),
  (1529, (.iload 4, 1531, 0, 0, 0, 0)),
  (1531, (.iconst 1, 1532, 0, 0, 0, 0)),
  (1532, (.iadd, 1533, 0, 0, 0, 0)),
  (1533, (.iaload, 1534, 0, 0, 0, 0)),
  (1534, (.invokevirtual 209, 1537, 292, 1, 342, 11)),
  (1537, (.pop, 1538, 0, 0, 0, 0)),
  (1538, (.goto 3, 1541, 1541, 0, 0, 0)),
  (1541, (.iinc 4 7, 1544, 0, 0, 0, 0)),
  (1544, (.goto (-1521), 1547, 23, 0, 0, 0)),
  (1547, (.iconst 1, 1548, 0, 0, 0, 0)),
  (1548, (.ireturn, 1549, 0, 0, 0, 0))]
theorem am_rL_15_ok : am_rL_15.all (fun q => am_okB false "MistCantonLaw" code q.1 q.2) = true := by decide +kernel
def am_rL : List (Nat × am_R) := am_rL_0 ++ am_rL_1 ++ am_rL_2 ++ am_rL_3 ++ am_rL_4 ++ am_rL_5 ++ am_rL_6 ++ am_rL_7 ++ am_rL_8 ++ am_rL_9 ++ am_rL_10 ++ am_rL_11 ++ am_rL_12 ++ am_rL_13 ++ am_rL_14 ++ am_rL_15
theorem am_rL_ok : am_rL.all (fun q => am_okB false "MistCantonLaw" code q.1 q.2) = true := by
  unfold am_rL
  simp only [List.all_append, Bool.and_eq_true]
  exact ⟨⟨⟨⟨⟨⟨⟨⟨⟨⟨⟨⟨⟨⟨⟨am_rL_0_ok, am_rL_1_ok⟩, am_rL_2_ok⟩, am_rL_3_ok⟩, am_rL_4_ok⟩, am_rL_5_ok⟩, am_rL_6_ok⟩, am_rL_7_ok⟩, am_rL_8_ok⟩, am_rL_9_ok⟩, am_rL_10_ok⟩, am_rL_11_ok⟩, am_rL_12_ok⟩, am_rL_13_ok⟩, am_rL_14_ok⟩, am_rL_15_ok⟩
end
section
/-! THE ROWS ARE RIGHT -/
theorem am_find_mem : ∀ {l : List (Nat × am_R)} {pc : Nat} {r : am_R}, am_find l pc = some r → (pc, r) ∈ l
  | q :: l, pc, r, h => by
    unfold am_find at h
    cases hq : Nat.beq q.1 pc with
    | true =>
      rw [hq] at h
      have e1 : q.1 = pc := Nat.eq_of_beq_eq_true hq
      have e2 : q.2 = r := Option.some.inj h
      rw [← e1, ← e2]
      exact List.mem_cons_self
    | false =>
      rw [hq] at h
      exact List.mem_cons_of_mem _ (am_find_mem h)
theorem am_inf_len : am_inf.length = am_mi.length := by decide +kernel
theorem am_zip_app {α β : Type} {p : α × β → Bool} {a1 a2 : List α} {b1 b2 : List β} (hl : a1.length = b1.length) (h1 : (a1.zip b1).all p = true) (h2 : (a2.zip b2).all p = true) : ((a1 ++ a2).zip (b1 ++ b2)).all p = true := by
  rw [List.zip_append hl, List.all_append, h1, h2]
  rfl
theorem am_inf_ok : (am_mi.zip am_inf).all am_chk = true :=
  am_zip_app rfl am_ck_0 (am_zip_app rfl am_ck_1 (am_zip_app rfl am_ck_2 (am_zip_app rfl am_ck_3 (am_zip_app rfl am_ck_4 (am_zip_app rfl am_ck_5 (am_zip_app rfl am_ck_6 am_ck_7))))))
theorem am_inf_at {n : Nat} {q : List (Nat × am_R) × Nat × Option FieldType} (h : am_inf[n]? = some q) : q.2.1 = am_nL n ∧ q.2.2 = am_rt n ∧ (∀ pc r, am_find q.1 pc = some r → plainFor (am_y n) = true ∧ ((am_y n = am_47 ∧ pc = 2) ∨ am_okB (decide ((am_y n).name = "<init>")) (am_y n).cls (am_by n) pc r = true)) := by
  have hn : n < am_mi.length := by rw [← am_inf_len]; exact (List.getElem?_eq_some_iff.mp h).1
  have h1 : am_mi[n]? = some am_mi[n] := List.getElem?_eq_getElem hn
  have hz : (am_mi.zip am_inf)[n]? = some (am_mi[n], q) := by
    rw [List.getElem?_zip_eq_some]
    exact ⟨h1, h⟩
  have h2 := List.all_eq_true.mp am_inf_ok _ (List.mem_of_getElem? hz)
  unfold am_chk at h2
  rw [Bool.and_eq_true, Bool.and_eq_true, Bool.and_eq_true, Bool.or_eq_true, decide_eq_true_eq, decide_eq_true_eq] at h2
  obtain ⟨e1, e2, e3, e4⟩ := h2
  unfold am_nL am_rt am_y am_by
  rw [h1]
  refine ⟨e1.symm, e2.symm, fun pc r hr => ?_⟩
  have hm := am_find_mem hr
  refine ⟨e3.resolve_left (fun q' => ?_), ?_⟩
  rotate_left
  · have e5 := List.all_eq_true.mp e4 _ hm
    rw [Bool.or_eq_true, Bool.and_eq_true, decide_eq_true_eq] at e5
    exact e5.imp (fun z => ⟨z.1, Nat.eq_of_beq_eq_true z.2⟩) (fun z => z)
  rw [List.isEmpty_iff] at q'
  rw [q'] at hm
  cases hm
theorem am_cod_ok : am_Rok am_cod := by
  intro n pc r h
  unfold am_cod at h
  split at h
  · rename_i q hq
    exact (am_inf_at hq).2.2 pc r h
  · cases h
theorem am_law_ok : ∀ pc r, am_find am_rL pc = some r → am_okB false "MistCantonLaw" code pc r = true := fun _ _ h => List.all_eq_true.mp am_rL_ok _ (am_find_mem h)
end
section
/-! THE CHECKER: runs the abstract machine on known ints, on symbols with intervals, and on references; every branch that is open is gone through -/
abbrev ae_v : Type := Int ⊕ (Nat ⊕ (Nat ⊕ (Int ⊕ Nat)))
abbrev ae_e : Type := List (Int × Int)
/-- what is known of the heap: ints, references (all others 0 and null); how many objects; the first that is known -/
abbrev ae_H : Type := List (Nat × Nat × (Int ⊕ Nat)) × List (Nat × Nat × Option Nat) × Nat × Nat
abbrev ae_l : Type := List (Nat × ae_v)
abbrev ae_F : Type := List (Nat × am_R) × Nat × Option FieldType × Nat × Nat × ae_l × List ae_v
def ae_ci (ρ : Nat → Int32) : Int ⊕ Nat → Int32
  | .inl n => Int32.ofInt n
  | .inr i => ρ i
/-- longs made of symbols: one widened, one moved up by 32, one without its sign, two in one -/
def ae_sh (ρ : Nat → Int32) (i : Nat) : Int64 := (ρ i).toInt64 <<< ((Int32.ofInt 32).toInt64 &&& 63)
def ae_mk (ρ : Nat → Int32) (i : Nat) : Int64 := (ρ i).toInt64 &&& Int64.ofInt 4294967295
def ae_lc (ρ : Nat → Int32) (c : Nat) : Int64 := bif Nat.blt c 100 then (ρ c).toInt64 else bif Nat.blt c 200 then ae_sh ρ (c - 100) else bif Nat.blt c 300 then ae_mk ρ (c - 200) else ae_sh ρ ((c - 1000) / 10) ||| ae_mk ρ ((c - 1000) % 10)
def ae_c (ρ : Nat → Int32) : ae_v → Value
  | .inl n => .int (Int32.ofInt n)
  | .inr (.inl i) => .int (ρ i)
  | .inr (.inr (.inl o)) => .ref o
  | .inr (.inr (.inr (.inl n))) => .long (Int64.ofInt n)
  | .inr (.inr (.inr (.inr i))) => .long (ae_lc ρ i)
def ae_iv : Int ⊕ Nat → ae_v
  | .inl n => .inl n
  | .inr i => .inr (.inl i)
def ae_cat : ae_v → Nat
  | .inl _ => 1
  | .inr (.inl _) => 1
  | .inr (.inr (.inl _)) => 1
  | .inr (.inr (.inr _)) => 2
def ae_lk {α : Type} : List (Nat × Nat × α) → Nat → Nat → α → α
  | [], _, _, d => d
  | q :: r, o, k, d => bif Nat.beq q.2.1 k && Nat.beq q.1 o then q.2.2 else ae_lk r o k d
def ae_up {α : Type} : List (Nat × Nat × α) → Nat → Nat → α → List (Nat × Nat × α)
  | [], o, k, v => [(o, k, v)]
  | q :: r, o, k, v => bif Nat.beq q.2.1 k && Nat.beq q.1 o then (o, k, v) :: r else q :: ae_up r o k v
def ae_n (env : ae_e) (a : ae_v) : ae_v := match a with
  | .inr (.inl i) => (match env[i]? with
    | some q => bif decide (q.1 = q.2) then .inl q.1 else a
    | none => a)
  | a => a
def ae_lv : ae_l → Nat → Option ae_v
  | [], _ => none
  | q :: r, i => bif Nat.beq q.1 i then some q.2 else ae_lv r i
def ae_s1 (lv : ae_l) (i : Nat) (v : ae_v) : ae_l := (i, v) :: lv.filter (fun q => !(Nat.beq q.1 i) && !(Nat.beq (q.1 + 1) i && Nat.beq (ae_cat q.2) 2))
def ae_s2 (lv : ae_l) (i : Nat) (v : ae_v) : ae_l := (i, v) :: lv.filter (fun q => !(Nat.beq q.1 i) && (!(Nat.beq q.1 (i + 1)) && !(Nat.beq (q.1 + 1) i && Nat.beq (ae_cat q.2) 2)))
/-- the stack: a known int, a reference, a long, an int (known or not), anything -/
def ae_pI (env : ae_e) (st : List ae_v) (k : Int → List ae_v → Bool) : Bool := match st with
  | a :: r => (match ae_n env a with
    | .inl n => k n r
    | _ => false)
  | [] => false
def ae_pR (st : List ae_v) (k : Nat → List ae_v → Bool) : Bool := match st with
  | .inr (.inr (.inl o)) :: r => k o r
  | _ => false
def ae_pL (st : List ae_v) (k : ae_v → List ae_v → Bool) : Bool := match st with
  | .inr (.inr (.inr x)) :: r => k (.inr (.inr (.inr x))) r
  | _ => false
def ae_pS (env : ae_e) (st : List ae_v) (k : Int ⊕ Nat → List ae_v → Bool) : Bool := match st with
  | a :: r => (match ae_n env a with
    | .inl n => k (.inl n) r
    | .inr (.inl i) => k (.inr i) r
    | _ => false)
  | [] => false
def ae_pV (st : List ae_v) (k : ae_v → List ae_v → Bool) : Bool := match st with
  | a :: r => k a r
  | [] => false
def ae_li (lv : ae_l) (i : Nat) (k : ae_v → Bool) : Bool := match ae_lv lv i with
  | some (.inl n) => k (.inl n)
  | some (.inr (.inl s)) => k (.inr (.inl s))
  | _ => false
def ae_ll (lv : ae_l) (i : Nat) (k : ae_v → Bool) : Bool := match ae_lv lv i with
  | some (.inr (.inr (.inr x))) => k (.inr (.inr (.inr x)))
  | _ => false
def ae_la (lv : ae_l) (i : Nat) (k : ae_v → Bool) : Bool := match ae_lv lv i with
  | some (.inr (.inr (.inl o))) => k (.inr (.inr (.inl o)))
  | _ => false
def ae_pop : Nat → List ae_v → List ae_v → Option (List ae_v × List ae_v)
  | 0, acc, st => some (acc, st)
  | n + 1, acc, v :: st => ae_pop n (v :: acc) st
  | _ + 1, _, [] => none
def ae_i2 (f : Int32 → Int32 → Int32) (n m : Int) : ae_v := .inl (f (Int32.ofInt n) (Int32.ofInt m)).toInt
/-- a comparison of known ints -/
def ae_cc (q : Jvm.ClassFile.Cond) (n m : Int) : Bool := match q with
  | .eq => decide (Int32.ofInt n = Int32.ofInt m)
  | .ne => !decide (Int32.ofInt n = Int32.ofInt m)
  | .lt => decide (Int32.ofInt n < Int32.ofInt m)
  | .ge => decide (Int32.ofInt m ≤ Int32.ofInt n)
  | .gt => decide (Int32.ofInt m < Int32.ofInt n)
  | .le => decide (Int32.ofInt n ≤ Int32.ofInt m)
def ae_flip : Jvm.ClassFile.Cond → Jvm.ClassFile.Cond
  | .eq => .eq
  | .ne => .ne
  | .lt => .gt
  | .ge => .le
  | .gt => .lt
  | .le => .ge
/-- an interval cut by a comparison with m -/
def ae_cut (q : Jvm.ClassFile.Cond) (lo hi m : Int) : List (Int × Int × Bool) := match q with
  | .lt => [(lo, min hi (m - 1), true), (max lo m, hi, false)]
  | .ge => [(lo, min hi (m - 1), false), (max lo m, hi, true)]
  | .le => [(lo, min hi m, true), (max lo (m + 1), hi, false)]
  | .gt => [(lo, min hi m, false), (max lo (m + 1), hi, true)]
  | .eq => [(max lo m, min hi m, true), (lo, min hi (m - 1), false), (max lo (m + 1), hi, false)]
  | .ne => [(max lo m, min hi m, false), (lo, min hi (m - 1), true), (max lo (m + 1), hi, true)]
/-- a branch -/
def ae_br (env : ae_e) (q : Jvm.ClassFile.Cond) (x y : Int ⊕ Nat) (k : ae_e → Bool → Bool) : Bool := match x, y with
  | .inl n, .inl m => k env (ae_cc q n m)
  | .inr i, .inl m => (match env[i]? with
    | some w => (ae_cut q w.1 w.2 (Int32.ofInt m).toInt).all (fun c => bif decide (c.1 ≤ c.2.1) then k (env.set i (c.1, c.2.1)) c.2.2 else true)
    | none => false)
  | .inl m, .inr i => (match env[i]? with
    | some w => (ae_cut (ae_flip q) w.1 w.2 (Int32.ofInt m).toInt).all (fun c => bif decide (c.1 ≤ c.2.1) then k (env.set i (c.1, c.2.1)) c.2.2 else true)
    | none => false)
  | .inr i, .inr j => Nat.beq i j && k env (match q with
    | .eq | .le | .ge => true
    | _ => false)
/-- a symbol gone through value by value -/
def ae_all (env : ae_e) (i : Nat) (k : ae_e → Bool) : Bool := match env[i]? with
  | some w => decide (w.2 - w.1 ≤ 130) && (List.range (w.2 - w.1 + 1).toNat).all (fun j => k (env.set i (w.1 + j, w.1 + j)))
  | none => false
def ae_shl : List (Nat × Nat) := [(10, 0), (7, 0), (12, 1000), (1, 0), (4, 0), (9, 0), (0, 0), (14, 6), (13, 6), (13, 6), (14, 5), (13, 5), (13, 5), (13, 5), (3, 0), (13, 1000), (13, 32), (0, 0), (14, 6), (13, 6), (13, 6), (14, 5), (13, 5), (13, 5), (13, 5), (3, 0), (13, 1000), (13, 32), (8, 0), (13, 40), (13, 40), (13, 40), (8, 0), (13, 40), (13, 40), (13, 40), (6, 0), (13, 6), (13, 6), (13, 5), (13, 5), (6, 0), (13, 6), (13, 6), (13, 5), (13, 5), (13, 6), (2, 0), (17, 16), (6, 0), (13, 6), (13, 6), (13, 5), (13, 5), (6, 0), (13, 6), (13, 6), (13, 5), (13, 5), (6, 0), (13, 6), (13, 6), (13, 5), (13, 5), (6, 0), (13, 6), (13, 6), (13, 5), (13, 5), (6, 0), (13, 6), (13, 6), (13, 5), (13, 5), (6, 0), (13, 6), (13, 6), (13, 5), (13, 5), (6, 0), (13, 6), (13, 6), (13, 5), (13, 5), (6, 0), (13, 6), (13, 6), (13, 5), (13, 5), (6, 0), (13, 6), (13, 6), (13, 5), (13, 5), (6, 0), (13, 6), (13, 6), (13, 5), (13, 5), (6, 0), (13, 6), (13, 6), (13, 5), (13, 5), (6, 0), (13, 6), (13, 6), (13, 5), (13, 5), (6, 0), (13, 6), (13, 6), (13, 5), (13, 5), (6, 0), (13, 6), (13, 6), (13, 5), (13, 5), (6, 0), (13, 6), (13, 6), (13, 5), (13, 5), (6, 0), (13, 6), (13, 6), (13, 5), (13, 5), (16, 4), (5, 0), (6, 0), (13, 6), (13, 6), (13, 5), (13, 5), (5, 0), (6, 0), (13, 6), (13, 6), (13, 5), (13, 5), (5, 0), (6, 0), (13, 6), (13, 6), (13, 5), (13, 5), (5, 0), (6, 0), (13, 6), (13, 6), (13, 5), (13, 5), (11, 0), (13, 1000), (13, 1002), (13, 1002), (14, 1002), (14, 21), (13, 80), (13, 2200), (13, 2200), (14, 11), (14, 11), (13, 11), (13, 11), (13, 250), (13, 4), (13, 1100), (13, 1127), (15, 4), (13, 5), (13, 6), (14, 1)]
def ae_so (H : ae_H) (o : Nat) : Option (Nat × Nat) := bif Nat.blt o H.2.2.1 && Nat.ble H.2.2.2 o then ae_shl[o]? else none
def ae_ob (e : Option (Nat × Nat)) (b : Nat) : Bool := match e with
  | some (t, n) => Nat.beq t b && Nat.beq n 0
  | none => false
def ae_ar (e : Option (Nat × Nat)) (b : Nat) (j : Int) (k : Nat → Bool) : Bool := match e with
  | some (t, n) => Nat.beq t b && (match j with
    | .ofNat j => Nat.blt j n && k j
    | _ => false)
  | none => false
def ae_wI (H : ae_H) (o k : Nat) (v : Int ⊕ Nat) : ae_H := (ae_up H.1 o k v, H.2.1, H.2.2)
def ae_wR (H : ae_H) (o k : Nat) (v : Option Nat) : ae_H := (H.1, ae_up H.2.1 o k v, H.2.2)
def ae_nx (H : ae_H) : ae_H := (H.1, H.2.1, H.2.2.1 + 1, H.2.2.2)
def ae_new (H : ae_H) (lim b : Nat) (n : Int) : Bool := match ae_shl[H.2.2.1]? with
  | some (t, m) => Nat.beq t b && (decide (n = m) && Nat.ble (H.2.2.1 + 1) lim)
  | none => false
/-- may a field, an answer of this type hold it -/
def ae_fit (ty : FieldType) (x : Int ⊕ Nat) : Bool := match x with
  | .inl n => decide (narrow ty (.int (Int32.ofInt n)) = .int (Int32.ofInt n)) && fits ty (.int (Int32.ofInt n))
  | .inr _ => decide (ty = .int)
def ae_tgt (pc : Nat) (o : Int) : Nat := ((pc : Int) + o).toNat
def ae_ts (pc : Nat) (df lo hi : Int) (os : Array Int) (z : Int) : Nat := bif decide (z < lo) || decide (hi < z) then ae_tgt pc df else ae_tgt pc ((os[(z - lo).toNat]?).getD 0)
/-- a step: first the instruction, then all else -/
def ae_stp (i : Instr) : Nat → Nat → Nat → Nat → Nat → Nat → ae_e → ae_H → Nat → Nat → Option FieldType → Nat → ae_l → List ae_v → (ae_e → Nat → ae_l → List ae_v → ae_H → Bool) → (Nat → List ae_v → Nat → List ae_v → Bool) → (Option ae_v → Bool) → Bool := match i with
  | .iconst n => fun nx a b c d LL env H nL lim rt pc lv st K C Rt => K env nx lv (.inl n :: st) H
  | .bipush n => fun nx a b c d LL env H nL lim rt pc lv st K C Rt => K env nx lv (.inl (Int8.ofInt n).toInt32.toInt :: st) H
  | .sipush n => fun nx a b c d LL env H nL lim rt pc lv st K C Rt => K env nx lv (.inl (Int16.ofInt n).toInt32.toInt :: st) H
  | .lconst n => fun nx a b c d LL env H nL lim rt pc lv st K C Rt => K env nx lv (.inr (.inr (.inr (.inl (Int64.ofNat n).toInt))) :: st) H
  | .ldc2_w _ => fun nx a b c d LL env H nL lim rt pc lv st K C Rt => K env nx lv (.inr (.inr (.inr (.inl (am_kl c).toInt))) :: st) H
  | .ldc_w _ => fun nx a b c d LL env H nL lim rt pc lv st K C Rt => !(Nat.beq b 1) && K env nx lv (.inl (am_ki c).toInt :: st) H
  | .ldc _ => fun nx a b c d LL env H nL lim rt pc lv st K C Rt => !(Nat.beq b 1) && K env nx lv (.inl (am_ki c).toInt :: st) H
  | .iload_n k => fun nx a b c d LL env H nL lim rt pc lv st K C Rt => ae_li lv k.val fun x => K env nx lv (x :: st) H
  | .iload k => fun nx a b c d LL env H nL lim rt pc lv st K C Rt => ae_li lv k fun x => K env nx lv (x :: st) H
  | .lload_n k => fun nx a b c d LL env H nL lim rt pc lv st K C Rt => ae_ll lv k.val fun x => K env nx lv (x :: st) H
  | .lload k => fun nx a b c d LL env H nL lim rt pc lv st K C Rt => ae_ll lv k fun x => K env nx lv (x :: st) H
  | .aload_n k => fun nx a b c d LL env H nL lim rt pc lv st K C Rt => ae_la lv k.val fun x => K env nx lv (x :: st) H
  | .aload k => fun nx a b c d LL env H nL lim rt pc lv st K C Rt => ae_la lv k fun x => K env nx lv (x :: st) H
  | .istore_n k => fun nx a b c d LL env H nL lim rt pc lv st K C Rt => ae_pS env st fun x r => Nat.blt k.val nL && K env nx (ae_s1 lv k.val (ae_iv x)) r H
  | .istore k => fun nx a b c d LL env H nL lim rt pc lv st K C Rt => ae_pS env st fun x r => Nat.blt k nL && K env nx (ae_s1 lv k (ae_iv x)) r H
  | .lstore_n k => fun nx a b c d LL env H nL lim rt pc lv st K C Rt => ae_pL st fun x r => Nat.blt (k.val + 1) nL && K env nx (ae_s2 lv k.val x) r H
  | .lstore k => fun nx a b c d LL env H nL lim rt pc lv st K C Rt => ae_pL st fun x r => Nat.blt (k + 1) nL && K env nx (ae_s2 lv k x) r H
  | .astore_n k => fun nx a b c d LL env H nL lim rt pc lv st K C Rt => ae_pR st fun x r => Nat.blt k.val nL && K env nx (ae_s1 lv k.val (.inr (.inr (.inl x)))) r H
  | .astore k => fun nx a b c d LL env H nL lim rt pc lv st K C Rt => ae_pR st fun x r => Nat.blt k nL && K env nx (ae_s1 lv k (.inr (.inr (.inl x)))) r H
  | .iinc k n => fun nx a b c d LL env H nL lim rt pc lv st K C Rt => ae_li lv k fun x => ae_pI env [x] fun x _ => Nat.blt k nL && K env nx (ae_s1 lv k (ae_i2 (· + ·) x n)) st H
  | .iadd => fun nx a b c d LL env H nL lim rt pc lv st K C Rt => ae_pI env st fun y r => ae_pI env r fun x r => K env nx lv (ae_i2 (· + ·) x y :: r) H
  | .isub => fun nx a b c d LL env H nL lim rt pc lv st K C Rt => ae_pI env st fun y r => ae_pI env r fun x r => K env nx lv (ae_i2 (· - ·) x y :: r) H
  | .imul => fun nx a b c d LL env H nL lim rt pc lv st K C Rt => ae_pI env st fun y r => ae_pI env r fun x r => K env nx lv (ae_i2 (· * ·) x y :: r) H
  | .iand => fun nx a b c d LL env H nL lim rt pc lv st K C Rt => ae_pI env st fun y r => ae_pS env r fun x r => (match x with
    | .inl x => K env nx lv (ae_i2 (· &&& ·) x y :: r) H
    | .inr i => Nat.beq i 0 && (decide (y = 63) && K env nx lv (.inr (.inl 7) :: r) H))
  | .ior => fun nx a b c d LL env H nL lim rt pc lv st K C Rt => ae_pI env st fun y r => ae_pI env r fun x r => K env nx lv (ae_i2 (· ||| ·) x y :: r) H
  | .ixor => fun nx a b c d LL env H nL lim rt pc lv st K C Rt => ae_pI env st fun y r => ae_pI env r fun x r => K env nx lv (ae_i2 (· ^^^ ·) x y :: r) H
  | .idiv => fun nx a b c d LL env H nL lim rt pc lv st K C Rt => ae_pI env st fun y r => ae_pI env r fun x r => !decide (Int32.ofInt y = 0) && K env nx lv (ae_i2 (· / ·) x y :: r) H
  | .irem => fun nx a b c d LL env H nL lim rt pc lv st K C Rt => ae_pI env st fun y r => ae_pI env r fun x r => !decide (Int32.ofInt y = 0) && K env nx lv (ae_i2 (fun x y => x - x / y * y) x y :: r) H
  | .ineg => fun nx a b c d LL env H nL lim rt pc lv st K C Rt => ae_pI env st fun x r => K env nx lv (.inl (-(Int32.ofInt x)).toInt :: r) H
  | .ishl => fun nx a b c d LL env H nL lim rt pc lv st K C Rt => ae_pI env st fun y r => ae_pI env r fun x r => K env nx lv (ae_i2 (fun x y => x <<< (y &&& 31)) x y :: r) H
  | .ishr => fun nx a b c d LL env H nL lim rt pc lv st K C Rt => ae_pI env st fun y r => ae_pI env r fun x r => K env nx lv (ae_i2 (fun x y => x >>> (y &&& 31)) x y :: r) H
  | .iushr => fun nx a b c d LL env H nL lim rt pc lv st K C Rt => ae_pI env st fun y r => ae_pI env r fun x r => K env nx lv (ae_i2 (fun x y => (x.toUInt32 >>> (y.toUInt32 &&& Int32.toUInt32 31)).toInt32) x y :: r) H
  | .i2l => fun nx a b c d LL env H nL lim rt pc lv st K C Rt => ae_pS env st fun x r => (match x with
    | .inl n => K env nx lv (.inr (.inr (.inr (.inl (Int32.ofInt n).toInt64.toInt))) :: r) H
    | .inr i => Nat.blt i 10 && K env nx lv (.inr (.inr (.inr (.inr i))) :: r) H)
  | .lshl => fun nx a b c d LL env H nL lim rt pc lv st K C Rt => ae_pI env st fun y r => ae_pL r fun x r => (match x with
    | .inr (.inr (.inr (.inr i))) => decide (y = 32) && (Nat.blt i 10 && K env nx lv (.inr (.inr (.inr (.inr (100 + i)))) :: r) H)
    | _ => false)
  | .land => fun nx a b c d LL env H nL lim rt pc lv st K C Rt => ae_pL st fun y r => ae_pL r fun x r => (match x, y with
    | .inr (.inr (.inr (.inr i))), .inr (.inr (.inr (.inl m))) => decide (m = 4294967295) && (Nat.blt i 10 && K env nx lv (.inr (.inr (.inr (.inr (200 + i)))) :: r) H)
    | _, _ => false)
  | .lor => fun nx a b c d LL env H nL lim rt pc lv st K C Rt => ae_pL st fun y r => ae_pL r fun x r => (match x, y with
    | .inr (.inr (.inr (.inr i))), .inr (.inr (.inr (.inr j))) => (Nat.ble 100 i && Nat.blt i 110) && ((Nat.ble 200 j && Nat.blt j 210) && K env nx lv (.inr (.inr (.inr (.inr (1000 + (10 * (i - 100) + (j - 200)))))) :: r) H)
    | _, _ => false)
  | .dup => fun nx a b c d LL env H nL lim rt pc lv st K C Rt => ae_pV st fun v r => Nat.beq (ae_cat v) 1 && K env nx lv (v :: v :: r) H
  | .dup2 => fun nx a b c d LL env H nL lim rt pc lv st K C Rt => ae_pV st fun v r => ae_pV r fun w r => Nat.beq (ae_cat v) 1 && (Nat.beq (ae_cat w) 1 && K env nx lv (v :: w :: v :: w :: r) H)
  | .pop => fun nx a b c d LL env H nL lim rt pc lv st K C Rt => ae_pV st fun v r => Nat.beq (ae_cat v) 1 && K env nx lv r H
  | .goto _ => fun nx a b c d LL env H nL lim rt pc lv st K C Rt => K env a lv st H
  | .if_icmp q _ => fun nx a b c d LL env H nL lim rt pc lv st K C Rt => ae_pS env st fun y r => ae_pS env r fun x r => ae_br env q x y fun env t => K env (bif t then a else nx) lv r H
  | .ifCond q _ => fun nx a b c d LL env H nL lim rt pc lv st K C Rt => ae_pS env st fun x r => ae_br env q x (.inl 0) fun env t => K env (bif t then a else nx) lv r H
  | .tableswitch df lo hi os => fun nx a b c d LL env H nL lim rt pc lv st K C Rt => ae_pS env st fun x r => (match x with
    | .inl n => K env (ae_ts pc df lo hi os (Int32.ofInt n).toInt) lv r H
    | .inr i => (match env[i]? with
      | some w => (bif decide (w.1 ≤ min w.2 (lo - 1)) then K (env.set i (w.1, min w.2 (lo - 1))) (ae_tgt pc df) lv r H else true) && ((bif decide (max w.1 (hi + 1) ≤ w.2) then K (env.set i (max w.1 (hi + 1), w.2)) (ae_tgt pc df) lv r H else true) && (List.range (hi - lo + 1).toNat).all (fun j => bif decide (w.1 ≤ lo + j) && decide (lo + j ≤ w.2) then K (env.set i (lo + j, lo + j)) (ae_tgt pc ((os[j]?).getD 0)) lv r H else true))
      | none => false))
  | .getfield _ => fun nx a b c d LL env H nL lim rt pc lv st K C Rt => !(Nat.beq b 20) && ae_pR st fun o r => ae_ob (ae_so H o) b && (match am_kd b a with
    | 0 => K env nx lv (ae_iv (ae_lk H.1 o a (.inl 0)) :: r) H
    | 1 => false
    | _ => (match ae_lk H.2.1 o a none with
      | some x => K env nx lv (.inr (.inr (.inl x)) :: r) H
      | none => false))
  | .putfield _ => fun nx a b c d LL env H nL lim rt pc lv st K C Rt => (match am_kd b a with
    | 0 => ae_pS env st fun x r => ae_pR r fun o r => ae_ob (ae_so H o) b && (ae_fit (am_fty b a) x && K env nx lv r (ae_wI H o a x))
    | 1 => ae_pL st fun _ r => ae_pR r fun o r => ae_ob (ae_so H o) b && K env nx lv r H
    | _ => ae_pR st fun x r => ae_pR r fun o r => ae_ob (ae_so H o) b && K env nx lv r (ae_wR H o a (some x)))
  | .iaload => fun nx a b c d LL env H nL lim rt pc lv st K C Rt => ae_pI env st fun j r => ae_pR r fun o r => bif Nat.beq o 3000000 then (match j with
      | .ofNat j => Nat.blt j LL && K env nx lv (.inr (.inl j) :: r) H
      | _ => false) else ae_ar (ae_so H o) 13 j fun j => K env nx lv (ae_iv (ae_lk H.1 o j (.inl 0)) :: r) H
  | .baload => fun nx a b c d LL env H nL lim rt pc lv st K C Rt => ae_pI env st fun j r => ae_pR r fun o r => bif Nat.beq o 3000000 then false else ae_ar (ae_so H o) 15 j fun j => K env nx lv (ae_iv (ae_lk H.1 o j (.inl 0)) :: r) H
  | .aaload => fun nx a b c d LL env H nL lim rt pc lv st K C Rt => ae_pI env st fun j r => ae_pR r fun o r => bif Nat.beq o 3000000 then false else (ae_ar (ae_so H o) 16 j (fun _ => true) || ae_ar (ae_so H o) 17 j (fun _ => true)) && (match ae_lk H.2.1 o j.toNat none with
      | some x => K env nx lv (.inr (.inr (.inl x)) :: r) H
      | none => false)
  | .iastore => fun nx a b c d LL env H nL lim rt pc lv st K C Rt => ae_pS env st fun x r => ae_pI env r fun j r => ae_pR r fun o r => ae_ar (ae_so H o) 13 j fun j => K env nx lv r (ae_wI H o j x)
  | .bastore => fun nx a b c d LL env H nL lim rt pc lv st K C Rt => ae_pI env st fun x r => ae_pI env r fun j r => ae_pR r fun o r => ae_ar (ae_so H o) 15 j fun j => K env nx lv r (ae_wI H o j (.inl (vp_nar .boolean (Int32.ofInt x)).toInt))
  | .lastore => fun nx a b c d LL env H nL lim rt pc lv st K C Rt => ae_pL st fun _ r => ae_pI env r fun j r => ae_pR r fun o r => ae_ar (ae_so H o) 14 j fun _ => K env nx lv r H
  | .aastore => fun nx a b c d LL env H nL lim rt pc lv st K C Rt => ae_pR st fun x r => ae_pI env r fun j r => ae_pR r fun o r => (ae_ar (ae_so H o) 16 j (fun _ => ae_ob (ae_so H x) 5) || ae_ar (ae_so H o) 17 j (fun _ => ae_ob (ae_so H x) 6)) && K env nx lv r (ae_wR H o j.toNat (some x))
  | .new _ => fun nx a b c d LL env H nL lim rt pc lv st K C Rt => ae_new H lim b 0 && K env nx lv (.inr (.inr (.inl H.2.2.1)) :: st) (ae_nx H)
  | .newarray _ => fun nx a b c d LL env H nL lim rt pc lv st K C Rt => ae_pI env st fun n r => ae_new H lim b n && K env nx lv (.inr (.inr (.inl H.2.2.1)) :: r) (ae_nx H)
  | .anewarray _ => fun nx a b c d LL env H nL lim rt pc lv st K C Rt => ae_pI env st fun n r => ae_new H lim b n && K env nx lv (.inr (.inr (.inl H.2.2.1)) :: r) (ae_nx H)
  | .arraylength => fun nx a b c d LL env H nL lim rt pc lv st K C Rt => ae_pR st fun o r => bif Nat.beq o 3000000 then Nat.blt 0 LL && K env nx lv (.inl LL :: r) H else false
  | .invokevirtual _ => fun nx a b c d LL env H nL lim rt pc lv st K C Rt => (match ae_pop b [] st with
    | some (As, .inr (.inr (.inl o)) :: r) => ae_ob (ae_so H o) d && (!(Nat.beq d 20) && Nat.ble ((r.map ae_cat).sum) 8 && (Nat.ble (H.2.2.1 + am_al a) lim && C a (.inr (.inr (.inl o)) :: As) nx r))
    | _ => false)
  | .invokespecial _ => fun nx a b c d LL env H nL lim rt pc lv st K C Rt => (match ae_pop b [] st with
    | some (As, .inr (.inr (.inl o)) :: r) => Nat.ble ((r.map ae_cat).sum) 8 && (bif Nat.beq a 1 then (match As with
      | [] => K env nx lv r H
      | _ => false) else Nat.ble (H.2.2.1 + am_al a) lim && C a (.inr (.inr (.inl o)) :: As) nx r)
    | _ => false)
  | .invokestatic _ => fun nx a b c d LL env H nL lim rt pc lv st K C Rt => (match ae_pop b [] st with
    | some (As, r) => Nat.ble ((r.map ae_cat).sum) 8 && (Nat.ble (H.2.2.1 + am_al a) lim && C a As nx r)
    | _ => false)
  | .ireturn => fun nx a b c d LL env H nL lim rt pc lv st K C Rt => (match st with
    | [x] => ae_pS env [x] fun x _ => (match rt with
      | some ty => ae_fit ty x && Rt (some (ae_iv x))
      | none => false)
    | _ => false)
  | .return_ => fun nx a b c d LL env H nL lim rt pc lv st K C Rt => (match st with
    | [] => (match rt with
      | none => Rt none
      | _ => false)
    | _ => false)
  | _ => fun nx a b c d LL env H nL lim rt pc lv st K C Rt => false
/-- which symbol must be gone through before an instruction -/
def ae_sy (env : ae_e) (st : List ae_v) (k : Nat) : Option Nat := match st[k]? with
  | some a => (match ae_n env a with
    | .inr (.inl i) => some i
    | _ => none)
  | none => none
def ae_nd (i : Instr) : List Nat := match i with
  | .iadd | .isub | .imul | .ior | .ixor | .idiv | .irem | .ishl | .ishr | .iushr => [0, 1]
  | .ineg | .iaload | .baload | .aaload => [0]
  | .iastore | .bastore | .lastore | .aastore => [1]
  | _ => []
def ae_args : Nat → List ae_v → ae_l
  | _, [] => []
  | i, v :: vs => (i, v) :: ae_args (bif Nat.beq (ae_cat v) 2 then i + 2 else i + 1) vs
/-- the run: calls that are known (asm: the answer's symbol, the first object that stays known); exits ex, what holds there fin; the last answer fr -/
def ae_go (LL : Nat) (asm : Nat → List ae_v → ae_H → Option (Nat × Nat)) (ex : Nat → Bool) (fin : ae_e → Nat → ae_l → List ae_v → ae_H → Bool) (fr : ae_e → Option ae_v → ae_H → Bool) : Nat → ae_e → Nat → ae_H → ae_F → List ae_F → Bool
  | 0, _, _, _, _, _ => false
  | f + 1, env, d, H, (rows, nL, rt, lim, pc, lv, st), fs => bif fs.isEmpty && ex pc then fin env pc lv st H else (match am_find rows pc with
    | none => false
    | some r => (match (ae_nd r.1).findSome? (ae_sy env st) with
      | some i => ae_all env i (fun env => ae_go LL asm ex fin fr f env d H (rows, nL, rt, lim, pc, lv, st) fs)
      | none => ae_stp r.1 r.2.1 r.2.2.1 r.2.2.2.1 r.2.2.2.2.1 r.2.2.2.2.2 LL env H nL lim rt pc lv st (fun env pc lv st H => ae_go LL asm ex fin fr f env d H (rows, nL, rt, lim, pc, lv, st) fs)
        (fun a As nx rest => match asm a As H with
          | some w => Nat.ble 10 d && (Nat.ble H.2.2.2 w.2 && (Nat.beq (am_al a) 0 && ae_go LL asm ex fin fr f env d (H.1, H.2.1, H.2.2.1, w.2) (rows, nL, rt, lim, nx, lv, .inr (.inl w.1) :: rest) fs))
          | none => match d with
          | 0 => false
          | d + 1 => (match am_inf[a]? with
            | some q => Nat.ble ((As.map ae_cat).sum) q.2.1 && ae_go LL asm ex fin fr f env d H (q.1, q.2.1, q.2.2, H.2.2.1 + am_al a, 0, ae_args 0 As, []) ((rows, nL, rt, lim, nx, lv, rest) :: fs)
            | none => false))
        (fun v => match fs with
          | [] => fr env v H
          | (rows', nL', rt', lim', pc', lv', st') :: fs' => Nat.beq H.2.2.1 lim && ae_go LL asm ex fin fr f env (d + 1) H (rows', nL', rt', lim', pc', lv', v.toList ++ st') fs')))
end
section
/-! THE CHECKER IS SOUND -/
variable {ρ : Nat → Int32} {env : ae_e} {H : ae_H} {h : am_H} {LL : Nat}
/-- the symbols lie in their intervals; symbol 7 is the call's number -/
def ae_in (ρ : Nat → Int32) (env : ae_e) : Prop := (∀ (i : Nat) (q : Int × Int), env[i]? = some q → q.1 ≤ (ρ i).toInt ∧ (ρ i).toInt ≤ q.2) ∧ ρ 7 = ρ 0 &&& 63
def ae_cl (ρ : Nat → Int32) (lv : ae_l) : am_V := lv.map (fun q => (q.1, ae_c ρ q.2))
def ae_R (ρ : Nat → Int32) (LL : Nat) (H : ae_H) (h : am_H) : Prop := h.2.2.2.2 = H.2.2.1 ∧ (0 < LL → h.2.2.2.1 = LL) ∧ H.2.2.1 ≤ 175 ∧ (∀ o k, H.2.2.2 ≤ o ∧ o < H.2.2.1 → h.1 o k = ae_ci ρ (ae_lk H.1 o k (.inl 0))) ∧ (∀ o k, H.2.2.2 ≤ o ∧ o < H.2.2.1 → h.2.2.1 o k = ae_lk H.2.1 o k none) ∧ (∀ j, j < LL → h.1 3000000 j = ρ j) ∧ (∀ o k, H.2.2.1 ≤ o → ae_lk H.1 o k (.inl 0) = .inl 0) ∧ (∀ o k, H.2.2.1 ≤ o → ae_lk H.2.1 o k none = none)
theorem ae_beq (a b : Nat) : Nat.beq a b = decide (a = b) := by
  cases hq : Nat.beq a b with
  | true => rw [decide_eq_true (Nat.eq_of_beq_eq_true hq)]
  | false => rw [decide_eq_false (Nat.ne_of_beq_eq_false hq)]
theorem ae_b2 (a b c d : Nat) : (Nat.beq a b && Nat.beq c d) = decide (c = d ∧ a = b) := by
  rw [ae_beq, ae_beq]
  by_cases h1 : a = b <;> by_cases h2 : c = d <;> simp [h1, h2]
theorem ae_cond {α : Type} {c : Prop} [Decidable c] (x y : α) : (bif decide c then x else y) = if c then x else y := by
  by_cases h : c <;> simp [h]
theorem ae_lk_up {α : Type} (l : List (Nat × Nat × α)) (o k o' k' : Nat) (v d : α) : ae_lk (ae_up l o k v) o' k' d = if o' = o ∧ k' = k then v else ae_lk l o' k' d := by
  induction l with
  | nil =>
    simp only [ae_up, ae_lk, ae_b2, ae_cond]
    by_cases hh : o = o' ∧ k = k'
    · rw [if_pos hh, if_pos ⟨hh.1.symm, hh.2.symm⟩]
    · rw [if_neg hh, if_neg (fun q => hh ⟨q.1.symm, q.2.symm⟩)]
  | cons q r ih =>
    simp only [ae_up, ae_b2, ae_cond]
    by_cases h1 : q.1 = o ∧ q.2.1 = k
    · rw [if_pos h1]
      simp only [ae_lk, ae_b2, ae_cond]
      by_cases hh : o = o' ∧ k = k'
      · rw [if_pos hh, if_pos ⟨hh.1.symm, hh.2.symm⟩]
      · rw [if_neg hh, if_neg (fun q => hh ⟨q.1.symm, q.2.symm⟩), if_neg (fun z => hh ⟨by rw [← h1.1]; exact z.1, by rw [← h1.2]; exact z.2⟩)]
    · rw [if_neg h1]
      simp only [ae_lk, ae_b2, ae_cond, ih]
      by_cases h2 : q.1 = o' ∧ q.2.1 = k'
      · rw [if_pos h2, if_pos h2, if_neg (fun z => h1 ⟨by rw [h2.1, z.1], by rw [h2.2, z.2]⟩)]
      · rw [if_neg h2, if_neg h2]
theorem ae_n_c (hin : ae_in ρ env) (a : ae_v) : ae_c ρ (ae_n env a) = ae_c ρ a := by
  unfold ae_n
  split
  · rename_i i
    split
    · rename_i q hq
      by_cases hh : q.1 = q.2
      · rw [decide_eq_true hh]
        have h1 := hin.1 i q hq
        have h2 : (ρ i).toInt = q.1 := by omega
        show Value.int (Int32.ofInt q.1) = Value.int (ρ i)
        rw [← h2, Int32.ofInt_toInt]
      · rw [decide_eq_false hh]
        rfl
    · rfl
  · rfl
theorem ae_cat_c (a : ae_v) : (ae_c ρ a).category = ae_cat a := by
  rcases a with n | i | o | n | i <;> rfl
theorem ae_iv_c (x : Int ⊕ Nat) : ae_c ρ (ae_iv x) = .int (ae_ci ρ x) := by cases x <;> rfl
theorem ae_pI_inv (hin : ae_in ρ env) {st : List ae_v} {k : Int → List ae_v → Bool} (hs : ae_pI env st k = true) : ∃ n r, st.map (ae_c ρ) = .int (Int32.ofInt n) :: r.map (ae_c ρ) ∧ k n r = true := by
  unfold ae_pI at hs
  split at hs
  · rename_i a r
    split at hs
    · rename_i n hn
      refine ⟨n, r, ?_, hs⟩
      rw [List.map_cons, ← ae_n_c hin a, hn]
      rfl
    · cases hs
  · cases hs
theorem ae_pS_inv (hin : ae_in ρ env) {st : List ae_v} {k : Int ⊕ Nat → List ae_v → Bool} (hs : ae_pS env st k = true) : ∃ x r, st.map (ae_c ρ) = .int (ae_ci ρ x) :: r.map (ae_c ρ) ∧ k x r = true := by
  unfold ae_pS at hs
  split at hs
  · rename_i a r
    split at hs
    · rename_i n hn
      refine ⟨.inl n, r, ?_, hs⟩
      rw [List.map_cons, ← ae_n_c hin a, hn]
      rfl
    · rename_i n hn
      refine ⟨.inr n, r, ?_, hs⟩
      rw [List.map_cons, ← ae_n_c hin a, hn]
      rfl
    · cases hs
  · cases hs
theorem ae_pR_inv {st : List ae_v} {k : Nat → List ae_v → Bool} (hs : ae_pR st k = true) : ∃ o r, st.map (ae_c ρ) = .ref o :: r.map (ae_c ρ) ∧ k o r = true := by
  unfold ae_pR at hs
  split at hs
  · exact ⟨_, _, rfl, hs⟩
  · cases hs
theorem ae_pL_inv {st : List ae_v} {k : ae_v → List ae_v → Bool} (hs : ae_pL st k = true) : ∃ a x r, ae_c ρ a = .long x ∧ st.map (ae_c ρ) = .long x :: r.map (ae_c ρ) ∧ k a r = true := by
  unfold ae_pL at hs
  split at hs
  · rename_i x r
    rcases x with n | i
    · exact ⟨_, Int64.ofInt n, r, rfl, rfl, hs⟩
    · exact ⟨_, ae_lc ρ i, r, rfl, rfl, hs⟩
  · cases hs
theorem ae_pL_inv2 {st : List ae_v} {k : ae_v → List ae_v → Bool} (hs : ae_pL st k = true) : ∃ x r, st.map (ae_c ρ) = ae_c ρ (.inr (.inr (.inr x))) :: r.map (ae_c ρ) ∧ k (.inr (.inr (.inr x))) r = true := by
  unfold ae_pL at hs
  split at hs
  · exact ⟨_, _, rfl, hs⟩
  · cases hs
theorem ae_pV_inv {st : List ae_v} {k : ae_v → List ae_v → Bool} (hs : ae_pV st k = true) : ∃ a r, st.map (ae_c ρ) = ae_c ρ a :: r.map (ae_c ρ) ∧ k a r = true := by
  unfold ae_pV at hs
  split at hs
  · exact ⟨_, _, rfl, hs⟩
  · cases hs
theorem ae_lv_c (lv : ae_l) (i : Nat) : am_lk (ae_cl ρ lv) i = (ae_lv lv i).map (ae_c ρ) := by
  induction lv with
  | nil => rfl
  | cons q r ih =>
    show (bif Nat.beq q.1 i then some (ae_c ρ q.2) else am_lk (ae_cl ρ r) i) = (bif Nat.beq q.1 i then some q.2 else ae_lv r i).map (ae_c ρ)
    rw [ih]
    cases Nat.beq q.1 i <;> rfl
theorem ae_li_inv {lv : ae_l} {i : Nat} {k : ae_v → Bool} (hs : ae_li lv i k = true) : ∃ a x, am_lk (ae_cl ρ lv) i = some (.int x) ∧ ae_c ρ a = .int x ∧ k a = true := by
  unfold ae_li at hs
  split at hs
  · rename_i n hn
    exact ⟨_, _, by rw [ae_lv_c, hn]; rfl, rfl, hs⟩
  · rename_i n hn
    exact ⟨_, _, by rw [ae_lv_c, hn]; rfl, rfl, hs⟩
  · cases hs
theorem ae_ll_inv {lv : ae_l} {i : Nat} {k : ae_v → Bool} (hs : ae_ll lv i k = true) : ∃ a x, am_lk (ae_cl ρ lv) i = some (.long x) ∧ ae_c ρ a = .long x ∧ k a = true := by
  unfold ae_ll at hs
  split at hs
  · rename_i x hn
    rcases x with n | j
    · exact ⟨_, Int64.ofInt n, by rw [ae_lv_c, hn]; rfl, rfl, hs⟩
    · exact ⟨_, ae_lc ρ j, by rw [ae_lv_c, hn]; rfl, rfl, hs⟩
  · cases hs
theorem ae_la_inv {lv : ae_l} {i : Nat} {k : ae_v → Bool} (hs : ae_la lv i k = true) : ∃ a x, am_lk (ae_cl ρ lv) i = some (.ref x) ∧ ae_c ρ a = .ref x ∧ k a = true := by
  unfold ae_la at hs
  split at hs
  · rename_i n hn
    exact ⟨_, _, by rw [ae_lv_c, hn]; rfl, rfl, hs⟩
  · cases hs
theorem ae_s1_c (lv : ae_l) (i : Nat) (v : ae_v) : ae_cl ρ (ae_s1 lv i v) = am_s1 (ae_cl ρ lv) i (ae_c ρ v) := by
  simp only [ae_cl, ae_s1, am_s1, List.map_cons, List.filter_map]
  congr 2
  apply List.filter_congr
  intro q _
  simp only [ae_beq, Function.comp, ae_cat_c]
  rfl
theorem ae_s2_c (lv : ae_l) (i : Nat) (v : ae_v) : ae_cl ρ (ae_s2 lv i v) = am_s2 (ae_cl ρ lv) i (ae_c ρ v) := by
  simp only [ae_cl, ae_s2, am_s2, List.map_cons, List.filter_map]
  congr 2
  apply List.filter_congr
  intro q _
  simp only [ae_beq, Function.comp, ae_cat_c]
  rfl
theorem ae_i2_c (f : Int32 → Int32 → Int32) (n m : Int) : ae_c ρ (ae_i2 f n m) = .int (f (Int32.ofInt n) (Int32.ofInt m)) := by
  show Value.int (Int32.ofInt (f (Int32.ofInt n) (Int32.ofInt m)).toInt) = _
  rw [Int32.ofInt_toInt]
theorem ae_ofI (x : Int32) : ae_c ρ (.inl x.toInt) = .int x := by
  show Value.int (Int32.ofInt x.toInt) = _
  rw [Int32.ofInt_toInt]
theorem ae_ofL (x : Int64) : ae_c ρ (.inr (.inr (.inr (.inl x.toInt)))) = .long x := by
  show Value.long (Int64.ofInt x.toInt) = _
  rw [Int64.ofInt_toInt]
theorem ae_bltd (a b : Nat) : Nat.blt a b = decide (a < b) := by
  cases hq : Nat.blt a b with
  | true => rw [decide_eq_true (show a < b from Nat.le_of_ble_eq_true hq)]
  | false =>
    rw [decide_eq_false]
    intro hlt
    have : Nat.blt a b = true := Nat.ble_eq_true_of_le hlt
    rw [hq] at this
    cases this
theorem ae_lc_0 {i : Nat} (h : i < 10) : ae_lc ρ i = (ρ i).toInt64 := by
  unfold ae_lc
  rw [ae_bltd, decide_eq_true (by omega : i < 100)]
  rfl
theorem ae_lc_1 {i : Nat} (h : i < 10) : ae_lc ρ (100 + i) = ae_sh ρ i := by
  unfold ae_lc
  rw [ae_bltd, ae_bltd, decide_eq_false (by omega : ¬ 100 + i < 100), decide_eq_true (by omega : 100 + i < 200), show 100 + i - 100 = i by omega]
  rfl
theorem ae_lc_2 {i : Nat} (h : i < 10) : ae_lc ρ (200 + i) = ae_mk ρ i := by
  unfold ae_lc
  rw [ae_bltd, ae_bltd, ae_bltd, decide_eq_false (by omega : ¬ 200 + i < 100), decide_eq_false (by omega : ¬ 200 + i < 200), decide_eq_true (by omega : 200 + i < 300), show 200 + i - 200 = i by omega]
  rfl
theorem ae_lc_3 {i j : Nat} (h : i < 10) (hj : j < 10) : ae_lc ρ (1000 + (10 * i + j)) = ae_sh ρ i ||| ae_mk ρ j := by
  unfold ae_lc
  rw [ae_bltd, ae_bltd, ae_bltd, decide_eq_false (by omega : ¬ 1000 + (10 * i + j) < 100), decide_eq_false (by omega : ¬ 1000 + (10 * i + j) < 200), decide_eq_false (by omega : ¬ 1000 + (10 * i + j) < 300), show (1000 + (10 * i + j) - 1000) / 10 = i by omega, show (1000 + (10 * i + j) - 1000) % 10 = j by omega]
  rfl
theorem ae_nI (n : Nat) : Int32.ofInt (n : Int) = nI n := by
  unfold nI
  first
    | rfl
    | exact Int32.ofInt_eq_ofNat
    | simp
theorem ae_in_set {i : Nat} {q : Int × Int} (hin : ae_in ρ env) (h1 : q.1 ≤ (ρ i).toInt) (h2 : (ρ i).toInt ≤ q.2) : ae_in ρ (env.set i q) := by
  refine ⟨fun j w hw => ?_, hin.2⟩
  by_cases hj : j = i
  · subst hj
    have hl : j < env.length := by
      have := (List.getElem?_eq_some_iff.mp hw).1
      simpa using this
    rw [List.getElem?_set_self hl] at hw
    cases hw
    exact ⟨h1, h2⟩
  · rw [List.getElem?_set_ne (fun z => hj z.symm)] at hw
    exact hin.1 j w hw
/-- a comparison of whole numbers -/
def ae_ti (q : Jvm.ClassFile.Cond) (x y : Int) : Prop := match q with
  | .eq => x = y
  | .ne => ¬ x = y
  | .lt => x < y
  | .ge => y ≤ x
  | .gt => y < x
  | .le => x ≤ y
theorem ae_ti_c (q : Jvm.ClassFile.Cond) (x y : Int32) : am_c q x y ↔ ae_ti q x.toInt y.toInt := by
  cases q
  · exact Int32.toInt_inj.symm
  · exact not_congr Int32.toInt_inj.symm
  · exact Int32.lt_iff_toInt_lt
  · exact Int32.le_iff_toInt_le
  · exact Int32.lt_iff_toInt_lt
  · exact Int32.le_iff_toInt_le
theorem ae_flip_ti (q : Jvm.ClassFile.Cond) (x y : Int) : ae_ti (ae_flip q) x y ↔ ae_ti q y x := by
  cases q
  · exact eq_comm
  · exact not_congr eq_comm
  all_goals exact Iff.rfl
theorem ae_cut_ok (q : Jvm.ClassFile.Cond) {lo hi m z : Int} (h1 : lo ≤ z) (h2 : z ≤ hi) : ∃ c ∈ ae_cut q lo hi m, (c.1 ≤ z ∧ z ≤ c.2.1) ∧ (ae_ti q z m ↔ c.2.2 = true) := by
  cases q
  case lt =>
    by_cases h : z < m
    · exact ⟨_, List.mem_cons_self, ⟨h1, by show z ≤ min hi (m - 1); omega⟩, by simp [ae_ti, h]⟩
    · exact ⟨_, List.mem_cons_of_mem _ List.mem_cons_self, ⟨by show max lo m ≤ z; omega, h2⟩, by simp [ae_ti, h]⟩
  case ge =>
    by_cases h : z < m
    · exact ⟨_, List.mem_cons_self, ⟨h1, by show z ≤ min hi (m - 1); omega⟩, by simp [ae_ti]; omega⟩
    · exact ⟨_, List.mem_cons_of_mem _ List.mem_cons_self, ⟨by show max lo m ≤ z; omega, h2⟩, by simp [ae_ti]; omega⟩
  case le =>
    by_cases h : z ≤ m
    · exact ⟨_, List.mem_cons_self, ⟨h1, by show z ≤ min hi m; omega⟩, by simp [ae_ti, h]⟩
    · exact ⟨_, List.mem_cons_of_mem _ List.mem_cons_self, ⟨by show max lo (m + 1) ≤ z; omega, h2⟩, by simp [ae_ti, h]⟩
  case gt =>
    by_cases h : z ≤ m
    · exact ⟨_, List.mem_cons_self, ⟨h1, by show z ≤ min hi m; omega⟩, by simp [ae_ti]; omega⟩
    · exact ⟨_, List.mem_cons_of_mem _ List.mem_cons_self, ⟨by show max lo (m + 1) ≤ z; omega, h2⟩, by simp [ae_ti]; omega⟩
  case eq =>
    by_cases h : z = m
    · exact ⟨_, List.mem_cons_self, ⟨by show max lo m ≤ z; omega, by show z ≤ min hi m; omega⟩, by simp [ae_ti, h]⟩
    · by_cases h3 : z < m
      · exact ⟨_, List.mem_cons_of_mem _ List.mem_cons_self, ⟨h1, by show z ≤ min hi (m - 1); omega⟩, by simp [ae_ti, h]⟩
      · exact ⟨_, List.mem_cons_of_mem _ (List.mem_cons_of_mem _ List.mem_cons_self), ⟨by show max lo (m + 1) ≤ z; omega, h2⟩, by simp [ae_ti, h]⟩
  case ne =>
    by_cases h : z = m
    · exact ⟨_, List.mem_cons_self, ⟨by show max lo m ≤ z; omega, by show z ≤ min hi m; omega⟩, by simp [ae_ti, h]⟩
    · by_cases h3 : z < m
      · exact ⟨_, List.mem_cons_of_mem _ List.mem_cons_self, ⟨h1, by show z ≤ min hi (m - 1); omega⟩, by simp [ae_ti, h]⟩
      · exact ⟨_, List.mem_cons_of_mem _ (List.mem_cons_of_mem _ List.mem_cons_self), ⟨by show max lo (m + 1) ≤ z; omega, h2⟩, by simp [ae_ti, h]⟩
theorem ae_br_inv (hin : ae_in ρ env) {q : Jvm.ClassFile.Cond} {x y : Int ⊕ Nat} {k : ae_e → Bool → Bool} (hs : ae_br env q x y k = true) : ∃ env' t, ae_in ρ env' ∧ k env' t = true ∧ (am_c q (ae_ci ρ x) (ae_ci ρ y) ↔ t = true) := by
  have pick : ∀ (q : Jvm.ClassFile.Cond) (i : Nat) (w : Int × Int) (m : Int), env[i]? = some w → (ae_cut q w.1 w.2 m).all (fun c => bif decide (c.1 ≤ c.2.1) then k (env.set i (c.1, c.2.1)) c.2.2 else true) = true → ∃ env' t, ae_in ρ env' ∧ k env' t = true ∧ (ae_ti q (ρ i).toInt m ↔ t = true) := by
    intro q i w m hw ha
    have hb := hin.1 i w hw
    obtain ⟨c, hc, ⟨c1, c2⟩, c3⟩ := ae_cut_ok q (m := m) hb.1 hb.2
    have h1 := List.all_eq_true.mp ha c hc
    rw [decide_eq_true (by omega : c.1 ≤ c.2.1)] at h1
    exact ⟨_, _, ae_in_set hin c1 c2, h1, c3⟩
  unfold ae_br at hs
  split at hs
  · rename_i n m
    refine ⟨env, _, hin, hs, ?_⟩
    cases q <;> simp [am_c, ae_cc, ae_ci]
  · rename_i i m
    split at hs
    · rename_i w hw
      obtain ⟨env', t, e1, e2, e3⟩ := pick q i w _ hw hs
      exact ⟨env', t, e1, e2, (ae_ti_c _ _ _).trans e3⟩
    · cases hs
  · rename_i m i
    split at hs
    · rename_i w hw
      obtain ⟨env', t, e1, e2, e3⟩ := pick (ae_flip q) i w _ hw hs
      exact ⟨env', t, e1, e2, (ae_ti_c _ _ _).trans ((ae_flip_ti q _ _).symm.trans e3)⟩
    · cases hs
  · rename_i i j
    rw [Bool.and_eq_true] at hs
    have e1 : i = j := Nat.eq_of_beq_eq_true hs.1
    subst e1
    refine ⟨env, _, hin, hs.2, ?_⟩
    rw [ae_ti_c]
    cases q <;> simp [ae_ti]
theorem ae_all_inv (hin : ae_in ρ env) {i : Nat} {k : ae_e → Bool} (hs : ae_all env i k = true) : ∃ env', ae_in ρ env' ∧ k env' = true := by
  unfold ae_all at hs
  split at hs
  · rename_i w hw
    rw [Bool.and_eq_true] at hs
    have hb := hin.1 i w hw
    have h1 := List.all_eq_true.mp hs.2 ((ρ i).toInt - w.1).toNat (List.mem_range.mpr (by omega))
    refine ⟨_, ae_in_set hin ?_ ?_, h1⟩
    · show w.1 + (((ρ i).toInt - w.1).toNat : Int) ≤ (ρ i).toInt
      omega
    · show (ρ i).toInt ≤ w.1 + (((ρ i).toInt - w.1).toNat : Int)
      omega
  · cases hs
theorem ae_shl_eq : ae_shl = am_shl := by decide +kernel
theorem ae_so_ok (hR : ae_R ρ LL H h) {o : Nat} {e : Nat × Nat} (hs : ae_so H o = some e) : am_so h o = some e := by
  unfold ae_so at hs
  unfold am_so
  rw [hR.1, ← ae_shl_eq]
  cases hq : Nat.blt o H.2.2.1 with
  | true =>
    rw [hq] at hs
    cases hz : Nat.ble H.2.2.2 o with
    | true =>
      rw [hz] at hs
      exact hs
    | false =>
      rw [hz] at hs
      cases hs
  | false =>
    rw [hq] at hs
    cases hs
theorem ae_so_lt (hR : ae_R ρ LL H h) {o : Nat} {e : Nat × Nat} (hs : ae_so H o = some e) : H.2.2.2 ≤ o ∧ o < H.2.2.1 := by
  have := (am_so_lt (ae_so_ok hR hs)).1
  rw [hR.1] at this
  refine ⟨?_, this⟩
  unfold ae_so at hs
  cases hz : Nat.ble H.2.2.2 o with
  | true => exact Nat.le_of_ble_eq_true hz
  | false =>
    rw [hz, Bool.and_false] at hs
    cases hs
theorem ae_sh_ok (hR : ae_R ρ LL H h) {o : Nat} {e : Nat × Nat} (hs : ae_so H o = some e) : am_sh h o = some e := by
  unfold am_sh
  have h1 := ae_so_lt hR hs
  have h2 := hR.2.2.1
  have : Nat.beq o 3000000 = false := by
    rw [ae_beq]
    exact decide_eq_false (by omega)
  rw [this]
  exact ae_so_ok hR hs
theorem ae_ob_inv {e : Option (Nat × Nat)} {b : Nat} (hs : ae_ob e b = true) : e = some (b, 0) := by
  unfold ae_ob at hs
  split at hs
  · rw [Bool.and_eq_true] at hs
    rw [Nat.eq_of_beq_eq_true hs.1, Nat.eq_of_beq_eq_true hs.2]
  · cases hs
theorem ae_ar_inv {e : Option (Nat × Nat)} {b : Nat} {j : Int} {k : Nat → Bool} (hs : ae_ar e b j k = true) : ∃ n i : Nat, e = some (b, n) ∧ j = (i : Int) ∧ i < n ∧ k i = true := by
  unfold ae_ar at hs
  split at hs
  · rename_i t n
    rw [Bool.and_eq_true] at hs
    obtain ⟨h1, h2⟩ := hs
    split at h2
    · rename_i i
      rw [Bool.and_eq_true] at h2
      exact ⟨n, i, by rw [Nat.eq_of_beq_eq_true h1], rfl, Nat.le_of_ble_eq_true h2.1, h2.2⟩
    · cases h2
  · cases hs
theorem ae_R_wI (hR : ae_R ρ LL H h) {o k : Nat} (ho : H.2.2.2 ≤ o ∧ o < H.2.2.1) (v : Int ⊕ Nat) : ae_R ρ LL (ae_wI H o k v) (am_wI h o k (ae_ci ρ v)) := by
  obtain ⟨r1, r2, r3, r4, r5, r6, r7, r8⟩ := hR
  refine ⟨r1, r2, r3, fun a b ha => ?_, r5, fun j hj => ?_, fun a b ha => ?_, r8⟩
  · show (if a = o ∧ b = k then ae_ci ρ v else h.1 a b) = ae_ci ρ (ae_lk (ae_up H.1 o k v) a b (.inl 0))
    rw [ae_lk_up]
    by_cases hh : a = o ∧ b = k
    · rw [if_pos hh, if_pos hh]
    · rw [if_neg hh, if_neg hh]
      exact r4 a b ha
  · show (if 3000000 = o ∧ j = k then ae_ci ρ v else h.1 3000000 j) = ρ j
    rw [if_neg (fun q => by omega)]
    exact r6 j hj
  · show ae_lk (ae_up H.1 o k v) a b (.inl 0) = .inl 0
    have ha : H.2.2.1 ≤ a := ha
    rw [ae_lk_up, if_neg (fun q => by omega)]
    exact r7 a b ha
theorem ae_R_wR (hR : ae_R ρ LL H h) {o k : Nat} (ho : H.2.2.2 ≤ o ∧ o < H.2.2.1) (v : Option Nat) : ae_R ρ LL (ae_wR H o k v) (am_wR h o k v) := by
  obtain ⟨r1, r2, r3, r4, r5, r6, r7, r8⟩ := hR
  refine ⟨r1, r2, r3, r4, fun a b ha => ?_, r6, r7, fun a b ha => ?_⟩
  · show (if a = o ∧ b = k then v else h.2.2.1 a b) = ae_lk (ae_up H.2.1 o k v) a b none
    rw [ae_lk_up]
    by_cases hh : a = o ∧ b = k
    · rw [if_pos hh, if_pos hh]
    · rw [if_neg hh, if_neg hh]
      exact r5 a b ha
  · show ae_lk (ae_up H.2.1 o k v) a b none = none
    have ha : H.2.2.1 ≤ a := ha
    rw [ae_lk_up, if_neg (fun q => by omega)]
    exact r8 a b ha
theorem ae_R_nx (hR : ae_R ρ LL H h) (hl : H.2.2.1 < 175) : ae_R ρ LL (ae_nx H) (am_nx h) := by
  obtain ⟨r1, r2, r3, r4, r5, r6, r7, r8⟩ := hR
  refine ⟨by show h.2.2.2.2 + 1 = H.2.2.1 + 1; rw [r1], r2, hl, fun a b ha => ?_, fun a b ha => ?_, fun j hj => ?_, fun a b ha => r7 a b (Nat.le_of_succ_le ha), fun a b ha => r8 a b (Nat.le_of_succ_le ha)⟩
  · show (if a = h.2.2.2.2 then 0 else h.1 a b) = _
    rw [r1]
    by_cases hh : a = H.2.2.1
    · rw [if_pos hh]
      show _ = ae_ci ρ (ae_lk H.1 a b (.inl 0))
      rw [r7 a b (by omega)]
      rfl
    · rw [if_neg hh]
      exact r4 a b (by have : H.2.2.2 ≤ a ∧ a < H.2.2.1 + 1 := ha; omega)
  · show (if a = h.2.2.2.2 then none else h.2.2.1 a b) = _
    rw [r1]
    by_cases hh : a = H.2.2.1
    · rw [if_pos hh]
      show _ = ae_lk H.2.1 a b none
      rw [r8 a b (by omega)]
    · rw [if_neg hh]
      exact r5 a b (by have : H.2.2.2 ≤ a ∧ a < H.2.2.1 + 1 := ha; omega)
  · show (if 3000000 = h.2.2.2.2 then 0 else h.1 3000000 j) = ρ j
    rw [if_neg (by rw [r1]; omega)]
    exact r6 j hj
theorem ae_new_inv (hR : ae_R ρ LL H h) {lim b : Nat} {n : Int} (hs : ae_new H lim b n = true) : ∃ m : Nat, n = (m : Int) ∧ am_shl[h.2.2.2.2]? = some (b, m) ∧ h.2.2.2.2 + 1 ≤ lim ∧ H.2.2.1 < 175 := by
  unfold ae_new at hs
  split at hs
  · rename_i t m hm
    rw [Bool.and_eq_true, Bool.and_eq_true] at hs
    rw [ae_shl_eq] at hm
    exact ⟨m, of_decide_eq_true hs.2.1, by rw [hR.1, hm, Nat.eq_of_beq_eq_true hs.1], by rw [hR.1]; exact Nat.le_of_ble_eq_true hs.2.2, am_sh_lt hm⟩
  · cases hs
theorem ae_fit_inv {ty : FieldType} {x : Int ⊕ Nat} (hs : ae_fit ty x = true) : narrow ty (.int (ae_ci ρ x)) = .int (ae_ci ρ x) ∧ fits ty (.int (ae_ci ρ x)) = true := by
  unfold ae_fit at hs
  split at hs
  · rw [Bool.and_eq_true] at hs
    exact ⟨of_decide_eq_true hs.1, hs.2⟩
  · rw [of_decide_eq_true hs]
    exact ⟨rfl, rfl⟩
theorem ae_pop_c : ∀ (n : Nat) (acc st : List ae_v), am_pop n (acc.map (ae_c ρ)) (st.map (ae_c ρ)) = (ae_pop n acc st).map (fun q => (q.1.map (ae_c ρ), q.2.map (ae_c ρ)))
  | 0, acc, st => rfl
  | n + 1, acc, v :: st => ae_pop_c n (v :: acc) st
  | n + 1, acc, [] => rfl
theorem ae_sum_c (r : List ae_v) : ((r.map (ae_c ρ)).map fun v => v.category).sum = (r.map ae_cat).sum := by
  rw [List.map_map]
  congr 1
  exact List.map_congr_left (fun a _ => ae_cat_c a)
end
section
/-! A STEP OF THE CHECKER -/
variable {ρ : Nat → Int32} {env : ae_e} {H : ae_H} {h : am_H} {LL : Nat}
theorem ae_kd3 (n : Nat) : n = 0 ∨ n = 1 ∨ ∃ m, n = m + 2 := by
  match n with
  | 0 => exact Or.inl rfl
  | 1 => exact Or.inr (Or.inl rfl)
  | m + 2 => exact Or.inr (Or.inr ⟨m, rfl⟩)
theorem ae_blt {a b : Nat} (h : Nat.blt a b = true) : a < b := Nat.le_of_ble_eq_true h
set_option maxHeartbeats 4000000 in
set_option maxRecDepth 20000 in
theorem ae_stp_ok {nL lim : Nat} {rt : Option FieldType} {pc nx a b c d : Nat} {i : Instr} {lv : ae_l} {st : List ae_v} {K : ae_e → Nat → ae_l → List ae_v → ae_H → Bool} {C : Nat → List ae_v → Nat → List ae_v → Bool} {Rt : Option ae_v → Bool} {cp : am_P} {S : Nat → am_V → List Value → am_H → Prop} {Qr : am_Q} (hin : ae_in ρ env) (hR : ae_R ρ LL H h)
    (hK : ∀ env' pc' lv' st' H', K env' pc' lv' st' H' = true → ae_in ρ env' → ∀ h', ae_R ρ LL H' h' → S pc' (ae_cl ρ lv') (st'.map (ae_c ρ)) h')
    (hC : ∀ a As nx rest, C a As nx rest = true → cp a (As.map (ae_c ρ)) h (fun v h' => S nx (ae_cl ρ lv) (v.toList ++ rest.map (ae_c ρ)) h'))
    (hRt : ∀ v, Rt v = true → Qr (v.map (ae_c ρ)) h)
    (hs : ae_stp i nx a b c d LL env H nL lim rt pc lv st K C Rt = true) : am_stp cp nL lim rt pc (i, nx, a, b, c, d) (ae_cl ρ lv) (st.map (ae_c ρ)) h S Qr := by
  have go : ∀ {env' : ae_e} {pc' : Nat} {lv' : ae_l} {st' : List ae_v} {H' : ae_H}, K env' pc' lv' st' H' = true → ae_in ρ env' → ∀ {h'}, ae_R ρ LL H' h' → S pc' (ae_cl ρ lv') (st'.map (ae_c ρ)) h' := fun k i _ r => hK _ _ _ _ _ k i _ r
  cases i
  case iconst n =>
    unfold ae_stp at hs
    dsimp only at hs
    exact go hs hin hR
  case bipush n =>
    unfold ae_stp at hs
    dsimp only at hs
    have q := go hs hin hR
    rw [List.map_cons, ae_ofI] at q
    exact q
  case sipush n =>
    unfold ae_stp at hs
    dsimp only at hs
    have q := go hs hin hR
    rw [List.map_cons, ae_ofI] at q
    exact q
  case ldc_w n =>
    unfold ae_stp at hs
    dsimp only at hs
    rw [Bool.and_eq_true] at hs
    have hb1 : Nat.beq b 1 = false := by
      cases hz : Nat.beq b 1 with
      | false => rfl
      | true => rw [hz] at hs; exact absurd hs.1 (by decide)
    have q := go hs.2 hin hR
    rw [List.map_cons, ae_ofI] at q
    show (bif Nat.beq b 1 then _ else _)
    rw [hb1]
    exact q
  case ldc n =>
    unfold ae_stp at hs
    dsimp only at hs
    rw [Bool.and_eq_true] at hs
    have hb1 : Nat.beq b 1 = false := by
      cases hz : Nat.beq b 1 with
      | false => rfl
      | true => rw [hz] at hs; exact absurd hs.1 (by decide)
    have q := go hs.2 hin hR
    rw [List.map_cons, ae_ofI] at q
    show (bif Nat.beq b 1 then _ else _)
    rw [hb1]
    exact q
  case lconst n =>
    unfold ae_stp at hs
    dsimp only at hs
    have q := go hs hin hR
    rw [List.map_cons, ae_ofL] at q
    exact q
  case ldc2_w n =>
    unfold ae_stp at hs
    dsimp only at hs
    have q := go hs hin hR
    rw [List.map_cons, ae_ofL] at q
    exact q
  case iload_n k =>
    unfold ae_stp at hs
    dsimp only at hs
    obtain ⟨x, y, e1, e2, hs1⟩ := ae_li_inv (ρ := ρ) hs
    have q := go hs1 hin hR
    rw [List.map_cons, e2] at q
    show am_li _ _ _
    unfold am_li
    rw [e1]
    exact q
  case iload k =>
    unfold ae_stp at hs
    dsimp only at hs
    obtain ⟨x, y, e1, e2, hs1⟩ := ae_li_inv (ρ := ρ) hs
    have q := go hs1 hin hR
    rw [List.map_cons, e2] at q
    show am_li _ _ _
    unfold am_li
    rw [e1]
    exact q
  case lload_n k =>
    unfold ae_stp at hs
    dsimp only at hs
    obtain ⟨x, y, e1, e2, hs1⟩ := ae_ll_inv (ρ := ρ) hs
    have q := go hs1 hin hR
    rw [List.map_cons, e2] at q
    show am_ll _ _ _
    unfold am_ll
    rw [e1]
    exact q
  case lload k =>
    unfold ae_stp at hs
    dsimp only at hs
    obtain ⟨x, y, e1, e2, hs1⟩ := ae_ll_inv (ρ := ρ) hs
    have q := go hs1 hin hR
    rw [List.map_cons, e2] at q
    show am_ll _ _ _
    unfold am_ll
    rw [e1]
    exact q
  case aload_n k =>
    unfold ae_stp at hs
    dsimp only at hs
    obtain ⟨x, y, e1, e2, hs1⟩ := ae_la_inv (ρ := ρ) hs
    have q := go hs1 hin hR
    rw [List.map_cons, e2] at q
    show am_la _ _ _
    unfold am_la
    rw [e1]
    exact q
  case aload k =>
    unfold ae_stp at hs
    dsimp only at hs
    obtain ⟨x, y, e1, e2, hs1⟩ := ae_la_inv (ρ := ρ) hs
    have q := go hs1 hin hR
    rw [List.map_cons, e2] at q
    show am_la _ _ _
    unfold am_la
    rw [e1]
    exact q
  case istore_n k =>
    unfold ae_stp at hs
    dsimp only at hs
    obtain ⟨x, r, e1, hs1⟩ := ae_pS_inv hin hs
    rw [Bool.and_eq_true] at hs1
    have q := go hs1.2 hin hR
    rw [ae_s1_c, ae_iv_c] at q
    rw [e1]
    exact ⟨ae_blt hs1.1, q⟩
  case lstore_n k =>
    unfold ae_stp at hs
    dsimp only at hs
    obtain ⟨x, y, r, e0, e1, hs1⟩ := ae_pL_inv (ρ := ρ) hs
    rw [Bool.and_eq_true] at hs1
    have q := go hs1.2 hin hR
    rw [ae_s2_c, e0] at q
    rw [e1]
    exact ⟨ae_blt hs1.1, q⟩
  case astore_n k =>
    unfold ae_stp at hs
    dsimp only at hs
    obtain ⟨x, r, e1, hs1⟩ := ae_pR_inv (ρ := ρ) hs
    rw [Bool.and_eq_true] at hs1
    have q := go hs1.2 hin hR
    rw [ae_s1_c] at q
    rw [e1]
    exact ⟨ae_blt hs1.1, q⟩
  case istore k =>
    unfold ae_stp at hs
    dsimp only at hs
    obtain ⟨x, r, e1, hs1⟩ := ae_pS_inv hin hs
    rw [Bool.and_eq_true] at hs1
    have q := go hs1.2 hin hR
    rw [ae_s1_c, ae_iv_c] at q
    rw [e1]
    exact ⟨ae_blt hs1.1, q⟩
  case lstore k =>
    unfold ae_stp at hs
    dsimp only at hs
    obtain ⟨x, y, r, e0, e1, hs1⟩ := ae_pL_inv (ρ := ρ) hs
    rw [Bool.and_eq_true] at hs1
    have q := go hs1.2 hin hR
    rw [ae_s2_c, e0] at q
    rw [e1]
    exact ⟨ae_blt hs1.1, q⟩
  case astore k =>
    unfold ae_stp at hs
    dsimp only at hs
    obtain ⟨x, r, e1, hs1⟩ := ae_pR_inv (ρ := ρ) hs
    rw [Bool.and_eq_true] at hs1
    have q := go hs1.2 hin hR
    rw [ae_s1_c] at q
    rw [e1]
    exact ⟨ae_blt hs1.1, q⟩
  case iinc k n =>
    unfold ae_stp at hs
    dsimp only at hs
    obtain ⟨x, y, e1, e2, hs1⟩ := ae_li_inv (ρ := ρ) hs
    obtain ⟨z, r, e3, hs2⟩ := ae_pI_inv hin hs1
    rw [Bool.and_eq_true] at hs2
    have q := go hs2.2 hin hR
    have e4 : y = Int32.ofInt z := by
      have w : [ae_c ρ x] = .int (Int32.ofInt z) :: r.map (ae_c ρ) := e3
      rw [e2] at w
      injection w with w1 w2
      injection w1
    rw [ae_s1_c, ae_i2_c, ← e4] at q
    show am_li _ _ _
    unfold am_li
    rw [e1]
    exact ⟨ae_blt hs2.1, q⟩
  case iadd =>
    unfold ae_stp at hs
    dsimp only at hs
    obtain ⟨y, r, e1, hs1⟩ := ae_pI_inv hin hs
    obtain ⟨x, r2, e2, hs2⟩ := ae_pI_inv hin hs1
    have q := go hs2 hin hR
    rw [List.map_cons, ae_i2_c] at q
    rw [e1, e2]
    exact q
  case isub =>
    unfold ae_stp at hs
    dsimp only at hs
    obtain ⟨y, r, e1, hs1⟩ := ae_pI_inv hin hs
    obtain ⟨x, r2, e2, hs2⟩ := ae_pI_inv hin hs1
    have q := go hs2 hin hR
    rw [List.map_cons, ae_i2_c] at q
    rw [e1, e2]
    exact q
  case imul =>
    unfold ae_stp at hs
    dsimp only at hs
    obtain ⟨y, r, e1, hs1⟩ := ae_pI_inv hin hs
    obtain ⟨x, r2, e2, hs2⟩ := ae_pI_inv hin hs1
    have q := go hs2 hin hR
    rw [List.map_cons, ae_i2_c] at q
    rw [e1, e2]
    exact q
  case ior =>
    unfold ae_stp at hs
    dsimp only at hs
    obtain ⟨y, r, e1, hs1⟩ := ae_pI_inv hin hs
    obtain ⟨x, r2, e2, hs2⟩ := ae_pI_inv hin hs1
    have q := go hs2 hin hR
    rw [List.map_cons, ae_i2_c] at q
    rw [e1, e2]
    exact q
  case ixor =>
    unfold ae_stp at hs
    dsimp only at hs
    obtain ⟨y, r, e1, hs1⟩ := ae_pI_inv hin hs
    obtain ⟨x, r2, e2, hs2⟩ := ae_pI_inv hin hs1
    have q := go hs2 hin hR
    rw [List.map_cons, ae_i2_c] at q
    rw [e1, e2]
    exact q
  case ishl =>
    unfold ae_stp at hs
    dsimp only at hs
    obtain ⟨y, r, e1, hs1⟩ := ae_pI_inv hin hs
    obtain ⟨x, r2, e2, hs2⟩ := ae_pI_inv hin hs1
    have q := go hs2 hin hR
    rw [List.map_cons, ae_i2_c] at q
    rw [e1, e2]
    exact q
  case ishr =>
    unfold ae_stp at hs
    dsimp only at hs
    obtain ⟨y, r, e1, hs1⟩ := ae_pI_inv hin hs
    obtain ⟨x, r2, e2, hs2⟩ := ae_pI_inv hin hs1
    have q := go hs2 hin hR
    rw [List.map_cons, ae_i2_c] at q
    rw [e1, e2]
    exact q
  case iushr =>
    unfold ae_stp at hs
    dsimp only at hs
    obtain ⟨y, r, e1, hs1⟩ := ae_pI_inv hin hs
    obtain ⟨x, r2, e2, hs2⟩ := ae_pI_inv hin hs1
    have q := go hs2 hin hR
    rw [List.map_cons, ae_i2_c] at q
    rw [e1, e2]
    exact q
  case iand =>
    unfold ae_stp at hs
    dsimp only at hs
    obtain ⟨y, r, e1, hs1⟩ := ae_pI_inv hin hs
    obtain ⟨x, r2, e2, hs2⟩ := ae_pS_inv hin hs1
    rcases x with x | x
    · have q := go hs2 hin hR
      rw [List.map_cons, ae_i2_c] at q
      rw [e1, e2]
      exact q
    · rw [Bool.and_eq_true, Bool.and_eq_true] at hs2
      have q := go hs2.2.2 hin hR
      have e3 : x = 0 := Nat.eq_of_beq_eq_true hs2.1
      have e4 : y = 63 := of_decide_eq_true hs2.2.1
      rw [e1, e2, e3, e4]
      have e5 : ae_c ρ (.inr (.inl 7)) = .int (ρ 0 &&& Int32.ofInt 63) := by
        show Value.int (ρ 7) = _
        rw [hin.2]
        rfl
      rw [List.map_cons, e5] at q
      exact q
  case idiv =>
    unfold ae_stp at hs
    dsimp only at hs
    obtain ⟨y, r, e1, hs1⟩ := ae_pI_inv hin hs
    obtain ⟨x, r2, e2, hs2⟩ := ae_pI_inv hin hs1
    rw [Bool.and_eq_true] at hs2
    have q := go hs2.2 hin hR
    rw [List.map_cons, ae_i2_c] at q
    rw [e1, e2]
    exact ⟨fun z => by simp [z] at hs2, q⟩
  case irem =>
    unfold ae_stp at hs
    dsimp only at hs
    obtain ⟨y, r, e1, hs1⟩ := ae_pI_inv hin hs
    obtain ⟨x, r2, e2, hs2⟩ := ae_pI_inv hin hs1
    rw [Bool.and_eq_true] at hs2
    have q := go hs2.2 hin hR
    rw [List.map_cons, ae_i2_c] at q
    rw [e1, e2]
    exact ⟨fun z => by simp [z] at hs2, q⟩
  case ineg =>
    unfold ae_stp at hs
    dsimp only at hs
    obtain ⟨y, r, e1, hs1⟩ := ae_pI_inv hin hs
    have q := go hs1 hin hR
    rw [List.map_cons, ae_ofI] at q
    rw [e1]
    exact q
  case i2l =>
    unfold ae_stp at hs
    dsimp only at hs
    obtain ⟨x, r, e1, hs1⟩ := ae_pS_inv hin hs
    rw [e1]
    rcases x with x | x
    · have q := go hs1 hin hR
      rw [List.map_cons, ae_ofL] at q
      exact q
    · have hs1 : (Nat.blt x 10 && K env nx lv (.inr (.inr (.inr (.inr x))) :: r) H) = true := hs1
      rw [Bool.and_eq_true] at hs1
      have q := go hs1.2 hin hR
      have e2 : ae_c ρ (.inr (.inr (.inr (.inr x)))) = .long (ρ x).toInt64 := by
        show Value.long (ae_lc ρ x) = _
        rw [ae_lc_0 (ae_blt hs1.1)]
      rw [List.map_cons, e2] at q
      exact q
  case lshl =>
    unfold ae_stp at hs
    dsimp only at hs
    obtain ⟨y, r, e1, hs1⟩ := ae_pI_inv hin hs
    obtain ⟨x, r2, e2, hs2⟩ := ae_pL_inv2 (ρ := ρ) hs1
    rw [e1, e2]
    rcases x with x | x
    · exact Bool.noConfusion hs2
    · have hs2 : (decide (y = 32) && (Nat.blt x 10 && K env nx lv (.inr (.inr (.inr (.inr (100 + x)))) :: r2) H)) = true := hs2
      rw [Bool.and_eq_true, Bool.and_eq_true] at hs2
      have q := go hs2.2.2 hin hR
      have hx := ae_blt hs2.2.1
      have e3 : ae_c ρ (.inr (.inr (.inr (.inr (100 + x))))) = .long ((ρ x).toInt64 <<< ((Int32.ofInt y).toInt64 &&& 63)) := by
        show Value.long (ae_lc ρ (100 + x)) = _
        rw [ae_lc_1 hx, of_decide_eq_true hs2.1]
        rfl
      have e4 : ae_c ρ (.inr (.inr (.inr (.inr x)))) = .long (ρ x).toInt64 := by
        show Value.long (ae_lc ρ x) = _
        rw [ae_lc_0 hx]
      rw [List.map_cons, e3] at q
      rw [e4]
      exact q
  case land =>
    unfold ae_stp at hs
    dsimp only at hs
    obtain ⟨y, r, e1, hs1⟩ := ae_pL_inv2 (ρ := ρ) hs
    obtain ⟨x, r2, e2, hs2⟩ := ae_pL_inv2 (ρ := ρ) hs1
    rw [e1, e2]
    rcases x with x | x
    · exact Bool.noConfusion hs2
    · rcases y with y | y
      · have hs2 : (decide (y = 4294967295) && (Nat.blt x 10 && K env nx lv (.inr (.inr (.inr (.inr (200 + x)))) :: r2) H)) = true := hs2
        rw [Bool.and_eq_true, Bool.and_eq_true] at hs2
        have q := go hs2.2.2 hin hR
        have hx := ae_blt hs2.2.1
        have e3 : ae_c ρ (.inr (.inr (.inr (.inr (200 + x))))) = .long ((ρ x).toInt64 &&& Int64.ofInt y) := by
          show Value.long (ae_lc ρ (200 + x)) = _
          rw [ae_lc_2 hx, of_decide_eq_true hs2.1]
          rfl
        have e4 : ae_c ρ (.inr (.inr (.inr (.inr x)))) = .long (ρ x).toInt64 := by
          show Value.long (ae_lc ρ x) = _
          rw [ae_lc_0 hx]
        rw [List.map_cons, e3] at q
        rw [e4]
        exact q
      · exact Bool.noConfusion hs2
  case lor =>
    unfold ae_stp at hs
    dsimp only at hs
    obtain ⟨y, r, e1, hs1⟩ := ae_pL_inv2 (ρ := ρ) hs
    obtain ⟨x, r2, e2, hs2⟩ := ae_pL_inv2 (ρ := ρ) hs1
    rw [e1, e2]
    rcases x with x | x
    · exact Bool.noConfusion hs2
    · rcases y with y | y
      · exact Bool.noConfusion hs2
      · have hs2 : ((Nat.ble 100 x && Nat.blt x 110) && ((Nat.ble 200 y && Nat.blt y 210) && K env nx lv (.inr (.inr (.inr (.inr (1000 + (10 * (x - 100) + (y - 200)))))) :: r2) H)) = true := hs2
        rw [Bool.and_eq_true, Bool.and_eq_true, Bool.and_eq_true, Bool.and_eq_true] at hs2
        obtain ⟨⟨g1, g2⟩, ⟨g3, g4⟩, g5⟩ := hs2
        have g1 := Nat.le_of_ble_eq_true g1
        have g2 := ae_blt g2
        have g3 := Nat.le_of_ble_eq_true g3
        have g4 := ae_blt g4
        have q := go g5 hin hR
        have e3 : ae_c ρ (.inr (.inr (.inr (.inr (1000 + (10 * (x - 100) + (y - 200))))))) = .long (ae_lc ρ x ||| ae_lc ρ y) := by
          show Value.long (ae_lc ρ _) = _
          rw [ae_lc_3 (by omega) (by omega), ← ae_lc_1 (ρ := ρ) (i := x - 100) (by omega), ← ae_lc_2 (ρ := ρ) (i := y - 200) (by omega), show 100 + (x - 100) = x by omega, show 200 + (y - 200) = y by omega]
        rw [List.map_cons, e3] at q
        exact q
  case dup =>
    unfold ae_stp at hs
    dsimp only at hs
    obtain ⟨v, r, e1, hs1⟩ := ae_pV_inv (ρ := ρ) hs
    rw [Bool.and_eq_true] at hs1
    rw [e1]
    exact ⟨by rw [ae_cat_c]; exact Nat.eq_of_beq_eq_true hs1.1, go hs1.2 hin hR⟩
  case pop =>
    unfold ae_stp at hs
    dsimp only at hs
    obtain ⟨v, r, e1, hs1⟩ := ae_pV_inv (ρ := ρ) hs
    rw [Bool.and_eq_true] at hs1
    rw [e1]
    exact ⟨by rw [ae_cat_c]; exact Nat.eq_of_beq_eq_true hs1.1, go hs1.2 hin hR⟩
  case dup2 =>
    unfold ae_stp at hs
    dsimp only at hs
    obtain ⟨v, r, e1, hs1⟩ := ae_pV_inv (ρ := ρ) hs
    obtain ⟨w, r2, e2, hs2⟩ := ae_pV_inv (ρ := ρ) hs1
    rw [Bool.and_eq_true, Bool.and_eq_true] at hs2
    rw [e1, e2]
    exact ⟨by rw [ae_cat_c]; exact Nat.eq_of_beq_eq_true hs2.1, by rw [ae_cat_c]; exact Nat.eq_of_beq_eq_true hs2.2.1, go hs2.2.2 hin hR⟩
  case goto o =>
    unfold ae_stp at hs
    dsimp only at hs
    exact go hs hin hR
  case if_icmp q o =>
    unfold ae_stp at hs
    dsimp only at hs
    obtain ⟨y, r, e1, hs1⟩ := ae_pS_inv hin hs
    obtain ⟨x, r2, e2, hs2⟩ := ae_pS_inv hin hs1
    obtain ⟨env', t, hin', hs3, hc⟩ := ae_br_inv hin hs2
    rw [e1, e2]
    have q := go hs3 hin' hR
    cases t
    · exact ⟨fun z => absurd (hc.mp z) (by decide), fun _ => q⟩
    · exact ⟨fun _ => q, fun z => absurd (hc.mpr rfl) z⟩
  case ifCond q o =>
    unfold ae_stp at hs
    dsimp only at hs
    obtain ⟨x, r, e1, hs1⟩ := ae_pS_inv hin hs
    obtain ⟨env', t, hin', hs3, hc⟩ := ae_br_inv hin hs1
    rw [e1]
    have q := go hs3 hin' hR
    cases t
    · exact ⟨fun z => absurd (hc.mp z) (by decide), fun _ => q⟩
    · exact ⟨fun _ => q, fun z => absurd (hc.mpr rfl) z⟩
  case tableswitch df lo hi os =>
    unfold ae_stp at hs
    dsimp only at hs
    obtain ⟨x, r, e1, hs1⟩ := ae_pS_inv hin hs
    rw [e1]
    rcases x with n | i
    · have q := go hs1 hin hR
      unfold ae_ts at q
      refine ⟨fun z => ?_, fun j hj hj2 => ?_⟩
      · have z : (Int32.ofInt n).toInt < lo ∨ hi < (Int32.ofInt n).toInt := z
        have e2 : (decide ((Int32.ofInt n).toInt < lo) || decide (hi < (Int32.ofInt n).toInt)) = true := by
          rw [Bool.or_eq_true, decide_eq_true_eq, decide_eq_true_eq]
          exact z
        rw [e2] at q
        exact q
      · have hj : (Int32.ofInt n).toInt = lo + j := hj
        have e2 : (decide ((Int32.ofInt n).toInt < lo) || decide (hi < (Int32.ofInt n).toInt)) = false := by
          rw [Bool.or_eq_false_iff]
          exact ⟨decide_eq_false (by omega), decide_eq_false (by omega)⟩
        rw [e2] at q
        have e3 : ((Int32.ofInt n).toInt - lo).toNat = j := by omega
        rw [e3] at q
        exact q
    · have hs1 : (match env[i]? with
        | some w => (bif decide (w.1 ≤ min w.2 (lo - 1)) then K (env.set i (w.1, min w.2 (lo - 1))) (ae_tgt pc df) lv r H else true) && ((bif decide (max w.1 (hi + 1) ≤ w.2) then K (env.set i (max w.1 (hi + 1), w.2)) (ae_tgt pc df) lv r H else true) && (List.range (hi - lo + 1).toNat).all (fun j => bif decide (w.1 ≤ lo + j) && decide (lo + j ≤ w.2) then K (env.set i (lo + j, lo + j)) (ae_tgt pc ((os[j]?).getD 0)) lv r H else true))
        | none => false) = true := hs1
      split at hs1
      · rename_i w hw
        rw [Bool.and_eq_true, Bool.and_eq_true] at hs1
        obtain ⟨k1, k2, k3⟩ := hs1
        have hb := hin.1 i w hw
        refine ⟨fun z => ?_, fun j hj hj2 => ?_⟩
        · have z : (ρ i).toInt < lo ∨ hi < (ρ i).toInt := z
          rcases z with z | z
          · rw [decide_eq_true (by omega : w.1 ≤ min w.2 (lo - 1))] at k1
            exact go k1 (ae_in_set hin hb.1 (by show (ρ i).toInt ≤ min w.2 (lo - 1); omega)) hR
          · rw [decide_eq_true (by omega : max w.1 (hi + 1) ≤ w.2)] at k2
            exact go k2 (ae_in_set hin (by show max w.1 (hi + 1) ≤ (ρ i).toInt; omega) hb.2) hR
        · have hj : (ρ i).toInt = lo + j := hj
          have k4 := List.all_eq_true.mp k3 j (List.mem_range.mpr (by omega))
          rw [decide_eq_true (by omega : w.1 ≤ lo + j), decide_eq_true (by omega : lo + j ≤ w.2)] at k4
          exact go k4 (ae_in_set hin (by show lo + (j : Int) ≤ (ρ i).toInt; omega) (by show (ρ i).toInt ≤ lo + (j : Int); omega)) hR
      · cases hs1
  case getfield k =>
    unfold ae_stp at hs
    dsimp only at hs
    rw [Bool.and_eq_true] at hs
    have hb1 : Nat.beq b 20 = false := by
      cases hz : Nat.beq b 20 with
      | false => rfl
      | true => rw [hz] at hs; exact absurd hs.1 (by decide)
    obtain ⟨o, r, e1, hs1⟩ := ae_pR_inv (ρ := ρ) hs.2
    show (bif Nat.beq b 20 then _ else _)
    rw [hb1]
    rw [Bool.and_eq_true] at hs1
    have ho := ae_ob_inv hs1.1
    have hlt := ae_so_lt hR ho
    have hs2 := hs1.2
    rw [e1]
    refine ⟨ae_sh_ok hR ho, ?_⟩
    unfold am_gv
    rcases ae_kd3 (am_kd b a) with hk | hk | ⟨m, hk⟩
    · rw [hk] at hs2 ⊢
      have q := go hs2 hin hR
      rw [List.map_cons, ae_iv_c, ← hR.2.2.2.1 o a hlt] at q
      exact q
    · rw [hk] at hs2
      cases hs2
    · rw [hk] at hs2 ⊢
      have hs2 : (match ae_lk H.2.1 o a none with
        | some x => K env nx lv (.inr (.inr (.inl x)) :: r) H
        | none => false) = true := hs2
      split at hs2
      · rename_i x hx
        have q := go hs2 hin hR
        show S nx (ae_cl ρ lv) (am_rf (h.2.2.1 o a) :: r.map (ae_c ρ)) h
        rw [hR.2.2.2.2.1 o a hlt, hx]
        exact q
      · cases hs2
  case putfield k =>
    unfold ae_stp at hs
    unfold am_stp
    dsimp only at hs ⊢
    rcases ae_kd3 (am_kd b a) with hk | hk | ⟨m, hk⟩
    · rw [hk] at hs ⊢
      obtain ⟨x, r, e1, hs1⟩ := ae_pS_inv hin hs
      obtain ⟨o, r2, e2, hs2⟩ := ae_pR_inv (ρ := ρ) hs1
      rw [Bool.and_eq_true, Bool.and_eq_true] at hs2
      have ho := ae_ob_inv hs2.1
      rw [e1, e2]
      exact ⟨ae_sh_ok hR ho, (ae_fit_inv hs2.2.1).1, (ae_fit_inv hs2.2.1).2, go hs2.2.2 hin (ae_R_wI hR (ae_so_lt hR ho) x)⟩
    · rw [hk] at hs ⊢
      obtain ⟨x, y, r, e0, e1, hs1⟩ := ae_pL_inv (ρ := ρ) hs
      obtain ⟨o, r2, e2, hs2⟩ := ae_pR_inv (ρ := ρ) hs1
      rw [Bool.and_eq_true] at hs2
      have ho := ae_ob_inv hs2.1
      rw [e1, e2]
      exact ⟨ae_sh_ok hR ho, go hs2.2 hin (h' := am_wL h o a y) hR⟩
    · rw [hk] at hs ⊢
      obtain ⟨x, r, e1, hs1⟩ := ae_pR_inv (ρ := ρ) hs
      obtain ⟨o, r2, e2, hs2⟩ := ae_pR_inv (ρ := ρ) hs1
      rw [Bool.and_eq_true] at hs2
      have ho := ae_ob_inv hs2.1
      rw [e1, e2]
      exact ⟨ae_sh_ok hR ho, go hs2.2 hin (ae_R_wR hR (ae_so_lt hR ho) (some x))⟩
  case iaload =>
    unfold ae_stp at hs
    dsimp only at hs
    obtain ⟨j, r, e1, hs1⟩ := ae_pI_inv hin hs
    obtain ⟨o, r2, e2, hs2⟩ := ae_pR_inv (ρ := ρ) hs1
    rw [e1, e2]
    cases hq : Nat.beq o 3000000 with
    | true =>
      rw [hq] at hs2
      have ho : o = 3000000 := Nat.eq_of_beq_eq_true hq
      subst ho
      cases j with
      | ofNat j =>
        have hs3 : (Nat.blt j LL && K env nx lv (.inr (.inl j) :: r2) H) = true := hs2
        rw [Bool.and_eq_true] at hs3
        have hj := ae_blt hs3.1
        have q := go hs3.2 hin hR
        refine ⟨j, LL, by show some (13, h.2.2.2.1) = _; rw [hR.2.1 (by omega)], hj, ae_nI j, ?_⟩
        rw [hR.2.2.2.2.2.1 j hj]
        exact q
      | negSucc j => exact absurd (show false = true from hs2) (by decide)
    | false =>
      rw [hq] at hs2
      obtain ⟨n, j', h1, h2, h3, h4⟩ := ae_ar_inv hs2
      subst h2
      have q := go h4 hin hR
      rw [List.map_cons, ae_iv_c, ← hR.2.2.2.1 o j' (ae_so_lt hR h1)] at q
      exact ⟨j', n, ae_sh_ok hR h1, h3, ae_nI j', q⟩
  case baload =>
    unfold ae_stp at hs
    dsimp only at hs
    obtain ⟨j, r, e1, hs1⟩ := ae_pI_inv hin hs
    obtain ⟨o, r2, e2, hs2⟩ := ae_pR_inv (ρ := ρ) hs1
    rw [e1, e2]
    cases hq : Nat.beq o 3000000 with
    | true =>
      rw [hq] at hs2
      cases hs2
    | false =>
      rw [hq] at hs2
      obtain ⟨n, j', h1, h2, h3, h4⟩ := ae_ar_inv hs2
      subst h2
      have q := go h4 hin hR
      rw [List.map_cons, ae_iv_c, ← hR.2.2.2.1 o j' (ae_so_lt hR h1)] at q
      exact Or.inl ⟨j', n, ae_sh_ok hR h1, h3, ae_nI j', q⟩
  case aaload =>
    unfold ae_stp at hs
    dsimp only at hs
    obtain ⟨j, r, e1, hs1⟩ := ae_pI_inv hin hs
    obtain ⟨o, r2, e2, hs2⟩ := ae_pR_inv (ρ := ρ) hs1
    rw [e1, e2]
    cases hq : Nat.beq o 3000000 with
    | true =>
      rw [hq] at hs2
      cases hs2
    | false =>
      rw [hq] at hs2
      have hs2 : ((ae_ar (ae_so H o) 16 j (fun _ => true) || ae_ar (ae_so H o) 17 j (fun _ => true)) && (match ae_lk H.2.1 o j.toNat none with
        | some x => K env nx lv (.inr (.inr (.inl x)) :: r2) H
        | none => false)) = true := hs2
      rw [Bool.and_eq_true, Bool.or_eq_true] at hs2
      obtain ⟨h0, hs3⟩ := hs2
      have h1 : ∃ t n j' : Nat, (t = 16 ∨ t = 17) ∧ ae_so H o = some (t, n) ∧ j = (j' : Int) ∧ j' < n := by
        rcases h0 with h0 | h0
        · obtain ⟨n, j', h1, h2, h3, -⟩ := ae_ar_inv h0
          exact ⟨16, n, j', Or.inl rfl, h1, h2, h3⟩
        · obtain ⟨n, j', h1, h2, h3, -⟩ := ae_ar_inv h0
          exact ⟨17, n, j', Or.inr rfl, h1, h2, h3⟩
      obtain ⟨t, n, j', ht, h1, h2, h3⟩ := h1
      subst h2
      split at hs3
      · rename_i x hx
        have q := go hs3 hin hR
        refine ⟨j', n, ?_, h3, ae_nI j', ?_⟩
        · have h5 := ae_sh_ok hR h1
          rcases ht with rfl | rfl
          · exact Or.inl h5
          · exact Or.inr h5
        · rw [hR.2.2.2.2.1 o j' (ae_so_lt hR h1)]
          have hx : ae_lk H.2.1 o j' none = some x := hx
          rw [hx]
          exact q
      · cases hs3
  case iastore =>
    unfold ae_stp at hs
    dsimp only at hs
    obtain ⟨x, r, e1, hs1⟩ := ae_pS_inv hin hs
    obtain ⟨j, r2, e2, hs2⟩ := ae_pI_inv hin hs1
    obtain ⟨o, r3, e3, hs3⟩ := ae_pR_inv (ρ := ρ) hs2
    obtain ⟨n, j', h1, h2, h3, h4⟩ := ae_ar_inv hs3
    subst h2
    rw [e1, e2, e3]
    exact ⟨j', n, ae_so_ok hR h1, h3, ae_nI j', go h4 hin (ae_R_wI hR (ae_so_lt hR h1) x)⟩
  case bastore =>
    unfold ae_stp at hs
    dsimp only at hs
    obtain ⟨x, r, e1, hs1⟩ := ae_pI_inv hin hs
    obtain ⟨j, r2, e2, hs2⟩ := ae_pI_inv hin hs1
    obtain ⟨o, r3, e3, hs3⟩ := ae_pR_inv (ρ := ρ) hs2
    obtain ⟨n, j', h1, h2, h3, h4⟩ := ae_ar_inv hs3
    subst h2
    rw [e1, e2, e3]
    have w := ae_R_wI (k := j') hR (ae_so_lt hR h1) (.inl (vp_nar .boolean (Int32.ofInt x)).toInt)
    have e5 : ae_ci ρ (.inl (vp_nar .boolean (Int32.ofInt x)).toInt) = vp_nar .boolean (Int32.ofInt x) := Int32.ofInt_toInt _
    rw [e5] at w
    exact ⟨j', n, ae_so_ok hR h1, h3, ae_nI j', go h4 hin w⟩
  case lastore =>
    unfold ae_stp at hs
    dsimp only at hs
    obtain ⟨x, y, r, e0, e1, hs1⟩ := ae_pL_inv (ρ := ρ) hs
    obtain ⟨j, r2, e2, hs2⟩ := ae_pI_inv hin hs1
    obtain ⟨o, r3, e3, hs3⟩ := ae_pR_inv (ρ := ρ) hs2
    obtain ⟨n, j', h1, h2, h3, h4⟩ := ae_ar_inv hs3
    subst h2
    rw [e1, e2, e3]
    exact ⟨j', n, ae_so_ok hR h1, h3, ae_nI j', go h4 hin (h' := am_wL h o j' y) hR⟩
  case aastore =>
    unfold ae_stp at hs
    dsimp only at hs
    obtain ⟨x, r, e1, hs1⟩ := ae_pR_inv (ρ := ρ) hs
    obtain ⟨j, r2, e2, hs2⟩ := ae_pI_inv hin hs1
    obtain ⟨o, r3, e3, hs3⟩ := ae_pR_inv (ρ := ρ) hs2
    rw [Bool.and_eq_true, Bool.or_eq_true] at hs3
    rw [e1, e2, e3]
    rcases hs3 with ⟨h0 | h0, hs4⟩
    · obtain ⟨n, j', h1, h2, h3, h4⟩ := ae_ar_inv h0
      subst h2
      exact ⟨j', n, Or.inl ⟨ae_so_ok hR h1, ae_so_ok hR (ae_ob_inv h4)⟩, h3, ae_nI j', go hs4 hin (ae_R_wR hR (ae_so_lt hR h1) (some x))⟩
    · obtain ⟨n, j', h1, h2, h3, h4⟩ := ae_ar_inv h0
      subst h2
      exact ⟨j', n, Or.inr ⟨ae_so_ok hR h1, ae_so_ok hR (ae_ob_inv h4)⟩, h3, ae_nI j', go hs4 hin (ae_R_wR hR (ae_so_lt hR h1) (some x))⟩
  case new k =>
    unfold ae_stp at hs
    dsimp only at hs
    have hs0 : (ae_new H lim b 0 && K env nx lv (.inr (.inr (.inl H.2.2.1)) :: st) (ae_nx H)) = true := hs
    rw [Bool.and_eq_true] at hs0
    obtain ⟨m, h1, h2, h3, h4⟩ := ae_new_inv hR hs0.1
    have h5 : m = 0 := by omega
    subst h5
    have q := go hs0.2 hin (ae_R_nx hR h4)
    have e5 : ae_c ρ (.inr (.inr (.inl H.2.2.1))) = .ref h.2.2.2.2 := by rw [hR.1]; rfl
    rw [List.map_cons, e5] at q
    exact ⟨h2, h3, q⟩
  case newarray t =>
    unfold ae_stp at hs
    dsimp only at hs
    obtain ⟨n, r, e1, hs1⟩ := ae_pI_inv hin hs
    rw [Bool.and_eq_true] at hs1
    obtain ⟨m, h1, h2, h3, h4⟩ := ae_new_inv hR hs1.1
    subst h1
    have q := go hs1.2 hin (ae_R_nx hR h4)
    have e5 : ae_c ρ (.inr (.inr (.inl H.2.2.1))) = .ref h.2.2.2.2 := by rw [hR.1]; rfl
    rw [List.map_cons, e5] at q
    rw [e1]
    exact ⟨m, h2, ae_nI m, h3, q⟩
  case anewarray k =>
    unfold ae_stp at hs
    dsimp only at hs
    obtain ⟨n, r, e1, hs1⟩ := ae_pI_inv hin hs
    rw [Bool.and_eq_true] at hs1
    obtain ⟨m, h1, h2, h3, h4⟩ := ae_new_inv hR hs1.1
    subst h1
    have q := go hs1.2 hin (ae_R_nx hR h4)
    have e5 : ae_c ρ (.inr (.inr (.inl H.2.2.1))) = .ref h.2.2.2.2 := by rw [hR.1]; rfl
    rw [List.map_cons, e5] at q
    rw [e1]
    exact ⟨m, h2, ae_nI m, h3, q⟩
  case arraylength =>
    unfold ae_stp at hs
    dsimp only at hs
    obtain ⟨o, r, e1, hs1⟩ := ae_pR_inv (ρ := ρ) hs
    rw [e1]
    cases hq : Nat.beq o 3000000 with
    | true =>
      rw [hq] at hs1
      have ho : o = 3000000 := Nat.eq_of_beq_eq_true hq
      subst ho
      have hs1 : (Nat.blt 0 LL && K env nx lv (.inl LL :: r) H) = true := hs1
      rw [Bool.and_eq_true] at hs1
      have q := go hs1.2 hin hR
      have e5 : ae_c ρ (.inl (LL : Int)) = .int (nI LL) := by
        show Value.int (Int32.ofInt (LL : Int)) = _
        rw [ae_nI]
      rw [List.map_cons, e5] at q
      exact Or.inl ⟨13, LL, by show some (13, h.2.2.2.1) = _; rw [hR.2.1 (ae_blt hs1.1)], by decide, q⟩
    | false =>
      rw [hq] at hs1
      cases hs1
  case invokevirtual k =>
    unfold ae_stp at hs
    unfold am_stp
    dsimp only at hs ⊢
    have hp := ae_pop_c (ρ := ρ) b [] st
    rw [List.map_nil] at hp
    rw [hp]
    split at hs
    · rename_i As o r hpop
      rw [hpop]
      rw [Bool.and_eq_true, Bool.and_eq_true, Bool.and_eq_true, Bool.and_eq_true] at hs
      obtain ⟨h1, ⟨hd, h2⟩, h3, h4⟩ := hs
      refine ⟨Or.inl ⟨fun z => by rw [z] at hd; exact absurd hd (by decide), ae_sh_ok hR (ae_ob_inv h1)⟩, ?_, by rw [hR.1]; exact Nat.le_of_ble_eq_true h3, hC _ _ _ _ h4⟩
      show ((r.map (ae_c ρ)).map fun v => v.category).sum ≤ 8
      rw [ae_sum_c]
      exact Nat.le_of_ble_eq_true h2
    · cases hs
  case invokespecial k =>
    unfold ae_stp at hs
    unfold am_stp
    dsimp only at hs ⊢
    have hp := ae_pop_c (ρ := ρ) b [] st
    rw [List.map_nil] at hp
    rw [hp]
    split at hs
    · rename_i As o r hpop
      rw [hpop]
      rw [Bool.and_eq_true] at hs
      obtain ⟨h2, h5⟩ := hs
      refine ⟨?_, ?_⟩
      · show ((r.map (ae_c ρ)).map fun v => v.category).sum ≤ 8
        rw [ae_sum_c]
        exact Nat.le_of_ble_eq_true h2
      · cases hq : Nat.beq a 1 with
        | true =>
          rw [hq] at h5
          cases As with
          | nil => exact ⟨rfl, go (show K env nx lv r H = true from h5) hin hR⟩
          | cons x y => exact absurd (show false = true from h5) (by decide)
        | false =>
          rw [hq] at h5
          have h5 : (Nat.ble (H.2.2.1 + am_al a) lim && C a (.inr (.inr (.inl o)) :: As) nx r) = true := h5
          rw [Bool.and_eq_true] at h5
          exact ⟨by rw [hR.1]; exact Nat.le_of_ble_eq_true h5.1, hC _ _ _ _ h5.2⟩
    · cases hs
  case invokestatic k =>
    unfold ae_stp at hs
    unfold am_stp
    dsimp only at hs ⊢
    have hp := ae_pop_c (ρ := ρ) b [] st
    rw [List.map_nil] at hp
    rw [hp]
    split at hs
    · rename_i As r hpop
      rw [hpop]
      rw [Bool.and_eq_true, Bool.and_eq_true] at hs
      obtain ⟨h2, h3, h4⟩ := hs
      refine ⟨?_, by rw [hR.1]; exact Nat.le_of_ble_eq_true h3, hC _ _ _ _ h4⟩
      show ((r.map (ae_c ρ)).map fun v => v.category).sum ≤ 8
      rw [ae_sum_c]
      exact Nat.le_of_ble_eq_true h2
    · cases hs
  case ireturn =>
    unfold ae_stp at hs
    dsimp only at hs
    split at hs
    · rename_i x
      obtain ⟨y, r, e1, hs1⟩ := ae_pS_inv hin hs
      have e2 : ae_c ρ x = .int (ae_ci ρ y) := by
        have w : [ae_c ρ x] = .int (ae_ci ρ y) :: r.map (ae_c ρ) := e1
        injection w
      split at hs1
      · rename_i ty
        rw [Bool.and_eq_true] at hs1
        have q := hRt _ hs1.2
        rw [Option.map_some, ae_iv_c] at q
        rw [List.map_cons, List.map_nil, e2]
        exact ⟨⟨ty, rfl, (ae_fit_inv hs1.1).1⟩, q⟩
      · cases hs1
    · cases hs
  case return_ =>
    unfold ae_stp at hs
    dsimp only at hs
    split at hs
    · split at hs
      · exact ⟨rfl, hRt _ hs⟩
      · cases hs
    · cases hs
  all_goals exact Bool.noConfusion hs
end
section
/-! A RUN OF THE CHECKER -/
variable {ρ : Nat → Int32} {LL : Nat}
def ae_ex (fs : List ae_F) (E : Nat → am_V → List Value → am_H → Prop) : Nat → am_V → List Value → am_H → Prop := match fs with
  | [] => E
  | _ :: _ => fun _ _ _ _ => False
def ae_qr (ρ : Nat → Int32) (E : Nat → am_V → List Value → am_H → Prop) (Q : am_Q) : List ae_F → Nat → Nat → am_Q
  | [], _, _ => Q
  | (rows, nL, rt, lim', pc, lv, st) :: fs, d, lim => fun v h => h.2.2.2.2 = lim ∧ am_X (am_call am_cod (d + 1)) nL lim' rt (am_find rows) (ae_ex fs E) (ae_qr ρ E Q fs (d + 1) lim') pc (ae_cl ρ lv) (v.toList ++ st.map (ae_c ρ)) h
def ae_sm (ρ : Nat → Int32) (E : Nat → am_V → List Value → am_H → Prop) (Q : am_Q) (fs : List ae_F) (d : Nat) (rows : List (Nat × am_R)) (nL : Nat) (rt : Option FieldType) (lim : Nat) : Nat → am_V → List Value → am_H → Prop :=
  am_X (am_call am_cod d) nL lim rt (am_find rows) (ae_ex fs E) (ae_qr ρ E Q fs d lim)
theorem ae_args_c : ∀ (As : List ae_v) (i : Nat), ae_cl ρ (ae_args i As) = lv_args i (As.map (ae_c ρ))
  | [], i => rfl
  | v :: vs, i => by
    show (i, ae_c ρ v) :: ae_cl ρ (ae_args (bif Nat.beq (ae_cat v) 2 then i + 2 else i + 1) vs) = (i, ae_c ρ v) :: lv_args (if (ae_c ρ v).category = 2 then i + 2 else i + 1) (vs.map (ae_c ρ))
    rw [ae_args_c vs, ae_beq, ae_cond, ae_cat_c]
theorem ae_sl_c : ∀ (As : List ae_v), (lg_sl (As.map (ae_c ρ))).length = (As.map ae_cat).sum
  | [] => rfl
  | v :: vs => by
    have ih := ae_sl_c vs
    unfold lg_sl at ih ⊢
    rw [List.map_cons, List.flatMap_cons, List.length_append, ih, List.map_cons, List.sum_cons, ae_cat_c]
    rcases v with n | i | o | n | i <;> rfl
set_option maxHeartbeats 4000000 in
theorem ae_go_ok {asm : Nat → List ae_v → ae_H → Option (Nat × Nat)} {ex : Nat → Bool} {fin : ae_e → Nat → ae_l → List ae_v → ae_H → Bool} {fr : ae_e → Option ae_v → ae_H → Bool} {E : Nat → am_V → List Value → am_H → Prop} {Q : am_Q}
    (hasm : ∀ a As H w, asm a As H = some w → ∀ h, ae_R ρ LL H h → am_call am_cod 10 a (As.map (ae_c ρ)) h (fun v h' => v = some (.int (ρ w.1)) ∧ ae_R ρ LL (H.1, H.2.1, H.2.2.1, w.2) h'))
    (hfin : ∀ env pc lv st H, ex pc = true → fin env pc lv st H = true → ae_in ρ env → ∀ h, ae_R ρ LL H h → E pc (ae_cl ρ lv) (st.map (ae_c ρ)) h) (hfr : ∀ env v H, fr env v H = true → ae_in ρ env → ∀ h, ae_R ρ LL H h → Q (v.map (ae_c ρ)) h) :
    ∀ f env d H rows nL rt lim pc lv st fs, ae_go LL asm ex fin fr f env d H (rows, nL, rt, lim, pc, lv, st) fs = true → ae_in ρ env → ∀ h, ae_R ρ LL H h → ae_sm ρ E Q fs d rows nL rt lim pc (ae_cl ρ lv) (st.map (ae_c ρ)) h := by
  intro f
  induction f with
  | zero => intro env d H rows nL rt lim pc lv st fs hs; cases hs
  | succ f ih =>
    intro env d H rows nL rt lim pc lv st fs hs hin h hR
    unfold ae_go at hs
    cases hx : (fs.isEmpty && ex pc) with
    | true =>
      rw [hx] at hs
      rw [Bool.and_eq_true] at hx
      have e1 : fs = [] := List.isEmpty_iff.mp hx.1
      subst e1
      exact am_xexit (hfin _ _ _ _ _ hx.2 hs hin h hR)
    | false =>
      rw [hx] at hs
      have hs : (match am_find rows pc with
        | none => false
        | some r => _) = true := hs
      split at hs
      · cases hs
      · rename_i r hr
        split at hs
        · rename_i i hi
          obtain ⟨env', h1, h2⟩ := ae_all_inv hin hs
          exact ih env' d H rows nL rt lim pc lv st fs h2 h1 h hR
        · obtain ⟨i, nx, a, b, c, dd⟩ := r
          refine am_xstep hr (ae_stp_ok hin hR (fun env' pc' lv' st' H' k i' h' r' => ih env' d H' rows nL rt lim pc' lv' st' fs k i' h' r') ?_ ?_ hs)
          · intro a As nx rest k
            cases hw : asm a As H with
            | some w =>
              rw [hw] at k
              have k : (Nat.ble 10 d && (Nat.ble H.2.2.2 w.2 && (Nat.beq (am_al a) 0 && ae_go LL asm ex fin fr f env d (H.1, H.2.1, H.2.2.1, w.2) (rows, nL, rt, lim, nx, lv, .inr (.inl w.1) :: rest) fs))) = true := k
              rw [Bool.and_eq_true, Bool.and_eq_true, Bool.and_eq_true] at k
              refine am_call.mono (fun v h' q => ?_) (am_call.up (hasm a As H w hw h hR) (Nat.le_of_ble_eq_true k.1))
              have z := ih env d (H.1, H.2.1, H.2.2.1, w.2) rows nL rt lim nx lv (.inr (.inl w.1) :: rest) fs k.2.2.2 hin h' q.2
              rw [q.1]
              exact z
            | none =>
            rw [hw] at k
            match d, k with
            | 0, k => exact Bool.noConfusion k
            | d + 1, k =>
              have k : (match am_inf[a]? with
                | some q => Nat.ble ((As.map ae_cat).sum) q.2.1 && ae_go LL asm ex fin fr f env d H (q.1, q.2.1, q.2.2, H.2.2.1 + am_al a, 0, ae_args 0 As, []) ((rows, nL, rt, lim, nx, lv, rest) :: fs)
                | none => false) = true := k
              split at k
              · rename_i q hq
                rw [Bool.and_eq_true] at k
                obtain ⟨e1, e2, -⟩ := am_inf_at hq
                have e3 : am_cod a = am_find q.1 := by
                  funext pc
                  unfold am_cod
                  rw [hq]
                have w := ih env d H q.1 q.2.1 q.2.2 (H.2.2.1 + am_al a) 0 (ae_args 0 As) [] ((rows, nL, rt, lim, nx, lv, rest) :: fs) k.2 hin h hR
                refine Or.inr ⟨by rw [ae_sl_c, ← e1]; exact Nat.le_of_ble_eq_true k.1, ?_⟩
                rw [e3, ← e1, ← e2, hR.1, ← ae_args_c]
                exact w
              · cases k
          · intro v k
            match fs, k with
            | [], k => exact hfr _ _ _ k hin h hR
            | (rows', nL', rt', lim', pc', lv', st') :: fs', k =>
              have k : (Nat.beq H.2.2.1 lim && ae_go LL asm ex fin fr f env (d + 1) H (rows', nL', rt', lim', pc', lv', v.toList ++ st') fs') = true := k
              rw [Bool.and_eq_true] at k
              have w := ih env (d + 1) H rows' nL' rt' lim' pc' lv' (v.toList ++ st') fs' k.2 hin h hR
              rw [List.map_append] at w
              refine ⟨by rw [hR.1]; exact Nat.eq_of_beq_eq_true k.1, ?_⟩
              cases v <;> exact w
/-- two heaps of the checker that say the same -/
def ae_same {α : Type} (eq : α → α → Bool) (l1 l2 : List (Nat × Nat × α)) (d : α) : Bool := l1.all (fun q => eq (ae_lk l2 q.1 q.2.1 d) q.2.2) && l2.all (fun q => eq (ae_lk l1 q.1 q.2.1 d) q.2.2)
theorem ae_lk_cases {α : Type} : ∀ (l : List (Nat × Nat × α)) (o k : Nat) (d : α), (∃ v, (o, k, v) ∈ l ∧ ae_lk l o k d = v) ∨ (ae_lk l o k d = d ∧ ∀ v, (o, k, v) ∉ l)
  | [], o, k, d => Or.inr ⟨rfl, fun v => List.not_mem_nil⟩
  | q :: r, o, k, d => by
    unfold ae_lk
    rw [ae_b2, ae_cond]
    by_cases hh : q.1 = o ∧ q.2.1 = k
    · rw [if_pos hh]
      exact Or.inl ⟨q.2.2, by rw [← hh.1, ← hh.2]; exact List.mem_cons_self, rfl⟩
    · rw [if_neg hh]
      rcases ae_lk_cases r o k d with ⟨v, h1, h2⟩ | ⟨h1, h2⟩
      · exact Or.inl ⟨v, List.mem_cons_of_mem _ h1, h2⟩
      · refine Or.inr ⟨h1, fun v hv => ?_⟩
        rcases List.mem_cons.mp hv with h3 | h3
        · exact hh ⟨by rw [← h3], by rw [← h3]⟩
        · exact h2 v h3
theorem ae_same_ok {α : Type} {eq : α → α → Bool} (heq : ∀ x y, eq x y = true → x = y) {l1 l2 : List (Nat × Nat × α)} {d : α} (hs : ae_same eq l1 l2 d = true) (o k : Nat) : ae_lk l1 o k d = ae_lk l2 o k d := by
  unfold ae_same at hs
  rw [Bool.and_eq_true] at hs
  rcases ae_lk_cases l1 o k d with ⟨v, h1, h2⟩ | ⟨h1, h2⟩
  · have h3 := heq _ _ (List.all_eq_true.mp hs.1 _ h1)
    rw [h2]
    exact h3.symm
  · rcases ae_lk_cases l2 o k d with ⟨v, h3, h4⟩ | ⟨h3, h4⟩
    · have h5 := heq _ _ (List.all_eq_true.mp hs.2 _ h3)
      rw [h4]
      exact h5
    · rw [h1, h3]
theorem ae_R_same {H H' : ae_H} {h : am_H} (hR : ae_R ρ LL H h) (h1 : ae_same (fun x y => decide (x = y)) H.1 H'.1 (.inl 0) = true) (h2 : ae_same (fun x y => decide (x = y)) H.2.1 H'.2.1 none = true) (h3 : H.2.2 = H'.2.2) : ae_R ρ LL H' h := by
  obtain ⟨r1, r2, r3, r4, r5, r6, r7, r8⟩ := hR
  have e1 := ae_same_ok (fun x y (q : decide (x = y) = true) => of_decide_eq_true q) h1
  have e2 := ae_same_ok (fun x y (q : decide (x = y) = true) => of_decide_eq_true q) h2
  have h4 := congrArg Prod.fst h3
  have h5 := congrArg Prod.snd h3
  refine ⟨r1.trans h4, r2, by rw [← h4]; exact r3, fun o k ho => ?_, fun o k ho => ?_, r6, fun o k ho => ?_, fun o k ho => ?_⟩
  · rw [← e1]
    exact r4 o k (by rw [h4, h5]; exact ho)
  · rw [← e2]
    exact r5 o k (by rw [h4, h5]; exact ho)
  · rw [← e1]
    exact r7 o k (by rw [h4]; exact ho)
  · rw [← e2]
    exact r8 o k (by rw [h4]; exact ho)
end
section
/-! THE START: what the constructors leave behind -/
def ae_H0 : ae_H := ([(0, 13, .inl (31)), (160, 3, .inl (-1))], [(0, 0, some 1), (0, 1, some 3), (0, 2, some 5), (0, 3, some 6), (0, 4, some 17), (0, 5, some 28), (0, 6, some 32), (0, 7, some 36), (0, 8, some 41), (0, 9, some 46), (0, 10, some 47), (0, 11, some 129), (1, 0, some 2), (3, 0, some 1), (3, 1, some 4), (4, 0, some 1), (5, 0, some 1), (6, 1, some 7), (6, 2, some 8), (6, 3, some 9), (6, 5, some 10), (6, 6, some 11), (6, 7, some 12), (6, 8, some 13), (6, 12, some 14), (14, 0, some 15), (14, 1, some 16), (17, 1, some 18), (17, 2, some 19), (17, 3, some 20), (17, 5, some 21), (17, 6, some 22), (17, 7, some 23), (17, 8, some 24), (17, 12, some 25), (25, 0, some 26), (25, 1, some 27), (28, 0, some 29), (28, 1, some 30), (28, 2, some 31), (32, 0, some 33), (32, 1, some 34), (32, 2, some 35), (36, 2, some 37), (36, 3, some 38), (36, 4, some 39), (36, 5, some 40), (41, 2, some 42), (41, 3, some 43), (41, 4, some 44), (41, 5, some 45), (47, 0, some 48), (48, 0, some 49), (49, 2, some 50), (49, 3, some 51), (49, 4, some 52), (49, 5, some 53), (48, 1, some 54), (54, 2, some 55), (54, 3, some 56), (54, 4, some 57), (54, 5, some 58), (48, 2, some 59), (59, 2, some 60), (59, 3, some 61), (59, 4, some 62), (59, 5, some 63), (48, 3, some 64), (64, 2, some 65), (64, 3, some 66), (64, 4, some 67), (64, 5, some 68), (48, 4, some 69), (69, 2, some 70), (69, 3, some 71), (69, 4, some 72), (69, 5, some 73), (48, 5, some 74), (74, 2, some 75), (74, 3, some 76), (74, 4, some 77), (74, 5, some 78), (48, 6, some 79), (79, 2, some 80), (79, 3, some 81), (79, 4, some 82), (79, 5, some 83), (48, 7, some 84), (84, 2, some 85), (84, 3, some 86), (84, 4, some 87), (84, 5, some 88), (48, 8, some 89), (89, 2, some 90), (89, 3, some 91), (89, 4, some 92), (89, 5, some 93), (48, 9, some 94), (94, 2, some 95), (94, 3, some 96), (94, 4, some 97), (94, 5, some 98), (48, 10, some 99), (99, 2, some 100), (99, 3, some 101), (99, 4, some 102), (99, 5, some 103), (48, 11, some 104), (104, 2, some 105), (104, 3, some 106), (104, 4, some 107), (104, 5, some 108), (48, 12, some 109), (109, 2, some 110), (109, 3, some 111), (109, 4, some 112), (109, 5, some 113), (48, 13, some 114), (114, 2, some 115), (114, 3, some 116), (114, 4, some 117), (114, 5, some 118), (48, 14, some 119), (119, 2, some 120), (119, 3, some 121), (119, 4, some 122), (119, 5, some 123), (48, 15, some 124), (124, 2, some 125), (124, 3, some 126), (124, 4, some 127), (124, 5, some 128), (129, 0, some 130), (130, 1, some 131), (131, 2, some 132), (131, 3, some 133), (131, 4, some 134), (131, 5, some 135), (129, 1, some 136), (136, 1, some 137), (137, 2, some 138), (137, 3, some 139), (137, 4, some 140), (137, 5, some 141), (129, 2, some 142), (142, 1, some 143), (143, 2, some 144), (143, 3, some 145), (143, 4, some 146), (143, 5, some 147), (129, 3, some 148), (148, 1, some 149), (149, 2, some 150), (149, 3, some 151), (149, 4, some 152), (149, 5, some 153), (154, 1, some 155), (154, 4, some 156), (154, 5, some 157), (154, 6, some 158), (154, 9, some 159), (154, 10, some 160), (154, 11, some 161), (154, 12, some 162), (154, 14, some 163), (154, 15, some 164), (154, 16, some 165), (154, 17, some 166), (154, 21, some 167), (154, 22, some 168), (154, 23, some 169), (154, 24, some 170), (154, 26, some 171), (154, 27, some 172), (154, 29, some 173)], 175, 0)
def ae_lv0 : ae_l := [(4, .inl 0), (3, .inr (.inr (.inl 174))), (2, .inr (.inr (.inl 154))), (1, .inr (.inr (.inl 0))), (0, .inr (.inr (.inl 3000000)))]
def ae_fin0 (_ : ae_e) (_ : Nat) (lv : ae_l) (st : List ae_v) (H : ae_H) : Bool := decide (lv = ae_lv0) && (st.isEmpty && (ae_same (fun x y => decide (x = y)) H.1 ae_H0.1 (.inl 0) && (ae_same (fun x y => decide (x = y)) H.2.1 ae_H0.2.1 none && decide (H.2.2 = (175, 0)))))
def ae_env0 : ae_e := [(-2147483648, 2147483647), (-2147483648, 2147483647), (-2147483648, 2147483647), (-2147483648, 2147483647), (-2147483648, 2147483647), (-2147483648, 2147483647), (-2147483648, 2147483647), (0, 63)]
theorem ae_run0 : ae_go 0 (fun _ _ _ => none) (fun pc => Nat.beq pc 23) ae_fin0 (fun _ _ _ => false) 9000 ae_env0 20 ([], [], 0, 0) (am_rL, 7, some .boolean, 175, 0, [(0, .inr (.inr (.inl 3000000)))], []) [] = true := by decide +kernel
end
section
/-! String.checkIndex: THE STATIC THAT IT TELLS ON, null or not, IS NOT LOOKED AT -/
variable {p : Program} {l : Launch} {e : Env} {R : Room} {s : State} {m : MethodId} {args : Array Value} {below : List Frame} {meth : Method} {c : Code} {Qw : State → Prop} {D : va_G} {cA : Nat → ClassId} {ad : Nat → Nat} {base b L nL : Nat} {xs : Nat → Int32} {own : String} {cc : ByteArray} {cp : am_P} {rt : Option FieldType} {c0 lim : Nat} {ini : Bool}
theorem am_X.inv1 {cod : Nat → Option am_R} {E : Nat → am_V → List Value → am_H → Prop} {Q : am_Q} {pc : Nat} {lv : am_V} {st : List Value} {h : am_H} {r : am_R} (hE : ¬ E pc lv st h) (hc : cod pc = some r) (k : am_X cp nL lim rt cod E Q pc lv st h) :
    ∃ (K0 : Nat → am_V → List Value → am_H → Prop) (Q0 : am_Q), am_stp cp nL lim rt pc r lv st h K0 Q0 ∧ (∀ pc lv st h, K0 pc lv st h → am_X cp nL lim rt cod E Q pc lv st h) ∧ (∀ v h, Q0 v h → Q v h) := by
  have key := k (fun pc lv st h => E pc lv st h ∨ ∃ (r : am_R) (K0 : Nat → am_V → List Value → am_H → Prop) (Q0 : am_Q), cod pc = some r ∧ am_stp cp nL lim rt pc r lv st h K0 Q0 ∧ (∀ pc lv st h, K0 pc lv st h → am_X cp nL lim rt cod E Q pc lv st h) ∧ (∀ v h, Q0 v h → Q v h)) (fun _ _ _ _ e => Or.inl e) (fun pc lv st h r K0 Q0 hc hs hk hq => Or.inr ⟨r, K0, Q0, hc, hs, fun pc lv st h q => by
    rcases hk pc lv st h q with z | ⟨r1, K1, Q1, hc1, hs1, hk1, hq1⟩
    · exact am_xexit z
    · exact fun P hE hP => hP _ _ _ _ r1 K1 Q1 hc1 hs1 (fun _ _ _ _ z => hk1 _ _ _ _ z P hE hP) hq1, hq⟩)
  rcases key with z | ⟨r', K0, Q0, hc', hs, hk, hq⟩
  · exact absurd z hE
  · cases hc.symm.trans hc'
    exact ⟨K0, Q0, hs, hk, hq⟩
theorem am_c47 : am_cod 47 = am_find am_r47 := by
  funext pc
  rfl
theorem am_c48 : am_cod 48 = am_find am_r48 := by
  funext pc
  rfl
theorem am_48_inv {d : Nat} {x y : Int32} {h : am_H} {Q : am_Q} (k : am_call am_cod d 48 [.int x, .int y, .int (Int32.ofInt 0)] h Q) : 1 ≤ d ∧ 0 ≤ x ∧ x < y ∧ Q (some (.int x)) h := by
  induction d with
  | zero => exact k.elim
  | succ d ih =>
    rcases k with k | ⟨-, k⟩
    · obtain ⟨a, q⟩ := ih k
      exact ⟨by omega, q⟩
    · refine ⟨by omega, ?_⟩
      unfold am_W at k
      rw [am_c48] at k
      have no9 : ∀ st, ¬ am_X (am_call am_cod d) (am_nL 48) (h.2.2.2.2 + am_al 48) (am_rt 48) (am_find am_r48) (fun _ _ _ _ => False) (fun v h' => h'.2.2.2.2 = h.2.2.2.2 + am_al 48 ∧ Q v h') 9 (lv_args 0 [.int x, .int y, .int (Int32.ofInt 0)]) st h := fun st k9 => by
        obtain ⟨K0, Q0, hs, -, -⟩ := am_X.inv1 (r := (.aload_n 2, 10, 0, 0, 0, 0)) (fun z => z) rfl k9
        have hs : am_la (lv_args 0 [.int x, .int y, .int (Int32.ofInt 0)]) 2 (fun o => K0 10 (lv_args 0 [.int x, .int y, .int (Int32.ofInt 0)]) (.ref o :: st) h) := hs
        obtain ⟨o, ho, -⟩ := am_la.inv hs
        cases ho
      obtain ⟨K0, Q0, hs, hk, -⟩ := am_X.inv1 (r := (.iload_n 0, 1, 0, 0, 0, 0)) (fun z => z) rfl k
      have k1 := hk _ _ _ _ (show K0 1 (lv_args 0 [.int x, .int y, .int (Int32.ofInt 0)]) [.int x] h from hs)
      obtain ⟨K1, Q1, hs, hk, -⟩ := am_X.inv1 (r := (.ifCond .lt 8, 4, 9, 0, 0, 0)) (fun z => z) rfl k1
      have hs : (x < 0 → K1 9 (lv_args 0 [.int x, .int y, .int (Int32.ofInt 0)]) [] h) ∧ (¬ x < 0 → K1 4 (lv_args 0 [.int x, .int y, .int (Int32.ofInt 0)]) [] h) := hs
      by_cases hx : x < 0
      · exact absurd (hk _ _ _ _ (hs.1 hx)) (no9 _)
      have k4 := hk _ _ _ _ (hs.2 hx)
      obtain ⟨K2, Q2, hs, hk, -⟩ := am_X.inv1 (r := (.iload_n 0, 5, 0, 0, 0, 0)) (fun z => z) rfl k4
      have k5 := hk _ _ _ _ (show K2 5 (lv_args 0 [.int x, .int y, .int (Int32.ofInt 0)]) [.int x] h from hs)
      obtain ⟨K3, Q3, hs, hk, -⟩ := am_X.inv1 (r := (.iload_n 1, 6, 0, 0, 0, 0)) (fun z => z) rfl k5
      have k6 := hk _ _ _ _ (show K3 6 (lv_args 0 [.int x, .int y, .int (Int32.ofInt 0)]) [.int y, .int x] h from hs)
      obtain ⟨K4, Q4, hs, hk, -⟩ := am_X.inv1 (r := (.if_icmp .lt 10, 9, 16, 0, 0, 0)) (fun z => z) rfl k6
      have hs : (x < y → K4 16 (lv_args 0 [.int x, .int y, .int (Int32.ofInt 0)]) [] h) ∧ (¬ x < y → K4 9 (lv_args 0 [.int x, .int y, .int (Int32.ofInt 0)]) [] h) := hs
      by_cases hy : x < y
      · have k16 := hk _ _ _ _ (hs.1 hy)
        obtain ⟨K5, Q5, hs, hk, -⟩ := am_X.inv1 (r := (.iload_n 0, 17, 0, 0, 0, 0)) (fun z => z) rfl k16
        have k17 := hk _ _ _ _ (show K5 17 (lv_args 0 [.int x, .int y, .int (Int32.ofInt 0)]) [.int x] h from hs)
        obtain ⟨K6, Q6, hs, -, hq⟩ := am_X.inv1 (r := (.ireturn, 18, 0, 0, 0, 0)) (fun z => z) rfl k17
        have hs : (∃ ty, am_rt 48 = some ty ∧ narrow ty (.int x) = .int x) ∧ Q6 (some (.int x)) h := hs
        exact ⟨Int32.not_lt.mp hx, hy, (hq _ _ hs.2).2⟩
      · exact absurd (hk _ _ _ _ (hs.2 hy)) (no9 _)
theorem am_sl_ge (vs : List Value) : vs.length ≤ (lg_sl vs).length := by
  induction vs with
  | nil => exact Nat.zero_le _
  | cons v r ih =>
    have e : (lg_sl (v :: r)).length = (if v.category = 2 then [Slot.val v, Slot.second] else [Slot.val v]).length + (lg_sl r).length := by
      unfold lg_sl
      rw [List.flatMap_cons, List.length_append]
    have e2 : 1 ≤ (if v.category = 2 then [Slot.val v, Slot.second] else [Slot.val v]).length := by
      split <;> simp
    rw [e, List.length_cons]
    omega
theorem am_47_inv {d : Nat} {As : List Value} {h : am_H} {Q : am_Q} (hlen : (lg_sl As).length ≤ 2) (k : am_X (am_call am_cod d) nL lim rt (am_find am_r47) (fun _ _ _ _ => False) Q 0 (lv_args 0 As) [] h) : ∃ x y : Int32, As = [.int x, .int y] ∧ 1 ≤ d ∧ 0 ≤ x ∧ x < y ∧ rt = none ∧ Q none h := by
  obtain ⟨K0, Q0, hs, hk, -⟩ := am_X.inv1 (r := (.iload_n 0, 1, 0, 0, 0, 0)) (fun z => z) rfl k
  have hs : am_li (lv_args 0 As) 0 (fun x => K0 1 (lv_args 0 As) [.int x] h) := hs
  obtain ⟨x, hx, hs⟩ := am_li.inv hs
  have k1 := hk _ _ _ _ hs
  obtain ⟨K1, Q1, hs, hk, -⟩ := am_X.inv1 (r := (.iload_n 1, 2, 0, 0, 0, 0)) (fun z => z) rfl k1
  have hs : am_li (lv_args 0 As) 1 (fun y => K1 2 (lv_args 0 As) [.int y, .int x] h) := hs
  obtain ⟨y, hy, hs⟩ := am_li.inv hs
  have k2 := hk _ _ _ _ hs
  have hA : As = [.int x, .int y] := by
    match As, hlen, hx, hy with
    | [], _, hx, _ => cases hx
    | [a], _, hx, hy =>
      cases hx
      cases hy
    | [a, b], _, hx, hy =>
      cases hx
      cases hy
      rfl
    | a :: b :: c :: r, hlen, _, _ =>
      have := am_sl_ge (a :: b :: c :: r)
      simp only [List.length_cons] at this
      omega
  subst hA
  obtain ⟨K2, Q2, hs, hk, -⟩ := am_X.inv1 (r := (.iconst 0, 5, 0, 0, 0, 0)) (fun z => z) rfl k2
  have k5 := hk _ _ _ _ (show K2 5 (lv_args 0 [.int x, .int y]) [.int (Int32.ofInt 0), .int y, .int x] h from hs)
  obtain ⟨K3, Q3, hs, hk, -⟩ := am_X.inv1 (r := (.invokestatic 1059, 8, 48, 3, 63, 0)) (fun z => z) rfl k5
  have hs : 0 ≤ 8 ∧ h.2.2.2.2 + am_al 48 ≤ lim ∧ am_call am_cod d 48 [.int x, .int y, .int (Int32.ofInt 0)] h (fun v h' => K3 8 (lv_args 0 [.int x, .int y]) (v.toList ++ []) h') := hs
  obtain ⟨h1, h2, h3, h4⟩ := am_48_inv hs.2.2
  have k8 := hk _ _ _ _ h4
  obtain ⟨K4, Q4, hs, hk, -⟩ := am_X.inv1 (r := (.pop, 9, 0, 0, 0, 0)) (fun z => z) rfl k8
  have hs : (Value.int x).category = 1 ∧ K4 9 (lv_args 0 [.int x, .int y]) [] h := hs
  have k9 := hk _ _ _ _ hs.2
  obtain ⟨K5, Q5, hs, -, hq⟩ := am_X.inv1 (r := (.return_, 10, 0, 0, 0, 0)) (fun z => z) rfl k9
  have hs : rt = none ∧ Q5 none h := hs
  exact ⟨x, y, rfl, h1, h2, h3, hs.1, hq _ _ hs.2⟩
theorem am_48_fwd {x y : Int32} {w : Value} {h : am_H} {Q : am_Q} (hw : w.category = 1) (hx : 0 ≤ x) (hy : x < y) (hQ : Q (some (.int x)) h) : am_call am_cod 1 48 [.int x, .int y, w] h Q := by
  refine Or.inr ⟨?_, ?_⟩
  · have e : (lg_sl [.int x, .int y, w]).length = 3 := by
      simp [lg_sl, hw]
      rfl
    rw [e]
    decide +kernel
  unfold am_W
  rw [am_c48]
  have e0 : am_al 48 = 0 := rfl
  rw [e0]
  refine am_xstep (r := (.iload_n 0, 1, 0, 0, 0, 0)) rfl (show am_X _ _ _ _ _ _ _ 1 (lv_args 0 [.int x, .int y, w]) [.int x] h from ?_)
  refine am_xstep (r := (.ifCond .lt 8, 4, 9, 0, 0, 0)) rfl (show (x < 0 → am_X _ _ _ _ _ _ _ 9 (lv_args 0 [.int x, .int y, w]) [] h) ∧ (¬ x < 0 → am_X _ _ _ _ _ _ _ 4 (lv_args 0 [.int x, .int y, w]) [] h) from ⟨fun z => absurd z (Int32.not_lt.mpr hx), fun _ => ?_⟩)
  refine am_xstep (r := (.iload_n 0, 5, 0, 0, 0, 0)) rfl (show am_X _ _ _ _ _ _ _ 5 (lv_args 0 [.int x, .int y, w]) [.int x] h from ?_)
  refine am_xstep (r := (.iload_n 1, 6, 0, 0, 0, 0)) rfl (show am_X _ _ _ _ _ _ _ 6 (lv_args 0 [.int x, .int y, w]) [.int y, .int x] h from ?_)
  refine am_xstep (r := (.if_icmp .lt 10, 9, 16, 0, 0, 0)) rfl (show (x < y → am_X _ _ _ _ _ _ _ 16 (lv_args 0 [.int x, .int y, w]) [] h) ∧ (¬ x < y → am_X _ _ _ _ _ _ _ 9 (lv_args 0 [.int x, .int y, w]) [] h) from ⟨fun _ => ?_, fun z => absurd hy z⟩)
  refine am_xstep (r := (.iload_n 0, 17, 0, 0, 0, 0)) rfl (show am_X _ _ _ _ _ _ _ 17 (lv_args 0 [.int x, .int y, w]) [.int x] h from ?_)
  exact am_xstep (r := (.ireturn, 18, 0, 0, 0, 0)) rfl (show (∃ ty, am_rt 48 = some ty ∧ narrow ty (.int x) = .int x) ∧ (h.2.2.2.2 = h.2.2.2.2 + 0 ∧ Q (some (.int x)) h) from ⟨⟨.int, by rfl, rfl⟩, rfl, hQ⟩)
def am_r47a : List (Nat × am_R) := [(0, (.iload_n 0, 1, 0, 0, 0, 0)), (1, (.iload_n 1, 2, 0, 0, 0, 0))]
def am_r47b : List (Nat × am_R) := [(5, (.invokestatic 1059, 8, 48, 3, 63, 0)), (8, (.pop, 9, 0, 0, 0, 0)), (9, (.return_, 10, 0, 0, 0, 0))]
theorem am_o47 : (am_r47a ++ am_r47b).all (fun q => am_okB false "java/lang/String" (am_by 47) q.1 q.2) = true := by decide +kernel
theorem am_n47 : (am_y 47 = am_47 ∧ am_nL 47 = 2 ∧ am_rt 47 = none ∧ am_al 47 = 0 ∧ plainFor am_47 = true) ∧ decode (am_by 47) 2 = .ok (.getstatic 1053, 3) ∧ am_fl[115]? = some ("java/lang/String", 1053, "jdk/internal/util/Preconditions", "SIOOBE_FORMATTER", "Ljava/util/function/BiFunction;") := by decide +kernel
theorem am_u47 : (List.range am_mi.length).all (fun n => decide (am_y n = am_47 → n = 47)) = true := by decide +kernel
theorem am_e47 {n : Nat} (h : am_y n = am_47) : n = 47 := by
  rcases Nat.lt_or_ge n am_mi.length with z | z
  · exact of_decide_eq_true (List.all_eq_true.mp am_u47 n (List.mem_range.mpr z)) h
  · unfold am_y at h
    rw [List.getElem?_eq_none z] at h
    exact absurd h (by decide)
set_option maxHeartbeats 4000000 in
theorem am_cix (hG : am_G ad base b L) (n : Nat) (hn : am_y n = am_47) (d : Nat) (ih : am_Mt l D cA ad base b L xs am_cod d) (As : List Value) (h : am_H) (Q : am_Q) (hlen : (lg_sl As).length ≤ am_nL n) (hW : am_W (am_call am_cod d) (am_nL n) (h.2.2.2.2 + am_al n) (am_rt n) (am_cod n) (fun v h' => h'.2.2.2.2 = h.2.2.2.2 + am_al n ∧ Q v h') 0 (lv_args 0 As) [] h) :
    Met l (am_y n) (am_ws n) (am_rm (d + 1) (am_al n) (am_ms n h)) (am_Pc D cA ad base b L xs As h) (am_Qc D cA ad base L xs (fun v h' => h'.2.2.2.2 = h.2.2.2.2 + am_al n ∧ Q v h')) (am_al n) (am_ms n h) (am_A base) := by
  have e47 := am_e47 hn
  subst e47
  obtain ⟨⟨t1, t2, t3, t4, t5⟩, t6, t7⟩ := am_n47
  have hlen2 : (lg_sl As).length ≤ 2 := by rw [← t2]; exact hlen
  unfold am_W at hW
  rw [am_c47] at hW
  obtain ⟨x, y, rfl, h1, h2, h3, -, hQ0⟩ := am_47_inv hlen2 hW
  have hal : am_al 47 = 0 := t4
  refine va_MetF (cc := am_by 47) (maxL := am_nL 47) (ret := am_rt 47) (by rw [t1]; exact t5) rfl ?_
  intro p e s m args below meth c s₁ B hml hv
  obtain ⟨rfl, hE, hbase, hP, hro, hwf⟩ := hv
  have hts := atoms_spec (ws := am_ws 47) B.pre
  have hgw : ∀ w ∈ am_gw, w.before (([.int x, .int y] : List Value).map (am_cv ad)).toArray s = true := fun w hw => hts w (List.mem_cons_of_mem _ hw)
  have hlen9 : h.2.2.2.2 ≤ 175 := by have := hwf.1; rw [am_shl_len] at this; exact this
  have hmod : h.2.2.2.2 % 1000 = h.2.2.2.2 := Nat.mod_eq_of_lt (by omega)
  have hdiv : h.2.2.2.2 / 1000 = 0 := Nat.div_eq_of_lt (by omega)
  have hown : s.vm.findClass "java/lang/String" = some m.cls := by
    have := findClass_of_methodNamed B.named
    rw [t1] at this
    exact this
  have F : am_Fx p s m (([.int x, .int y] : List Value).map (am_cv ad)).toArray c D cA ad base b L xs "java/lang/String" (am_by 47) 2 h.2.2.2.2 := ⟨B.exec, B.bytes, hml.trans t2, hown, hgw, hE, hbase, hG, by rw [hmod]; exact hwf.2⟩
  have hC : am_Cs l (am_rm (d + 1) (am_al 47) (am_ms 47 h)) D cA ad base b L xs (am_call am_cod d) := by
    intro n' As' h' Q' k'
    obtain ⟨d', z1, z2⟩ := ih n' As' h' Q' k'
    exact ⟨d', z2, by show d' + 1 ≤ d + 1; omega, by show 40 + 40 * d' ≤ 40 * (d + 1); omega⟩
  have hl := lv_entry (([.int x, .int y] : List Value).map (am_cv ad)) (n := am_nL 47) (by rw [am_sl_len]; exact hlen)
  rw [am_args_cl] at hl
  rw [lg_entry_eq]
  rw [t2] at hl ⊢
  have hcs : h.2.2.2.2 + am_al 47 - h.2.2.2.2 % 1000 + h.2.2.2.2 / 1000 ≤ am_al 47 ∧ am_ss (h.2.2.2.2 + am_al 47) - am_ss (h.2.2.2.2 % 1000) + 6 * (h.2.2.2.2 / 1000) ≤ am_ms 47 h := ⟨by rw [hmod, hdiv]; omega, by rw [hmod, hdiv]; exact Nat.le_refl _⟩
  have z1 : am_ce h.2.2.2.2 h = 0 := by unfold am_ce; omega
  have z2 : am_sc h.2.2.2.2 h = 0 := by unfold am_sc; rw [hmod, hdiv]; omega
  have key := am_X_sound (p := p) (e := e) (below := below) (meth := meth) (Qw := MQ below (am_Qc D cA ad base L xs (fun v h' => h'.2.2.2.2 = h.2.2.2.2 + am_al 47 ∧ Q v h')) (([.int x, .int y] : List Value).map (am_cv ad)).toArray s (am_al 47) (am_ms 47 h) (am_A base)) (R := am_rm (d + 1) (am_al 47) (am_ms 47 h)) (lim := h.2.2.2.2 + am_al 47) (rt := none) (ini := false) (cod := am_find am_r47a) (cp := am_call am_cod d) (E := fun pc lv st h' => pc = 2 ∧ lv = lv_args 0 [.int x, .int y] ∧ st = [.int y, .int x] ∧ h' = h) (Q := fun _ _ => False) F hC hcs ⟨by show 1 ≤ d + 1; omega, by show 20 ≤ 40 * (d + 1); omega⟩ (fun q => by cases q) (fun pc r hc => List.all_eq_true.mp am_o47 _ (List.mem_append_left _ (am_find_mem hc))) ?_ (fun _ _ _ _ _ _ _ q => q.elim) 0 (lv_args 0 [.int x, .int y]) [] h s.heap [] _ (am_xstep (r := (.iload_n 0, 1, 0, 0, 0, 0)) rfl (show am_X _ _ _ _ _ _ _ 1 (lv_args 0 [.int x, .int y]) [.int x] h from am_xstep (r := (.iload_n 1, 2, 0, 0, 0, 0)) rfl (show am_X _ _ _ _ _ _ _ 2 (lv_args 0 [.int x, .int y]) [.int y, .int x] h from am_xexit ⟨rfl, rfl, rfl, rfl⟩))) ⟨hP, va_S.rf, hro, hwf.1, by rw [hmod]; exact Nat.le_refl _, fun z => by omega⟩ hl
  · rw [z1, z2] at key
    exact key
  · intro pc lv st h' H locs ls hx0 hI hl'
    obtain ⟨rfl, rfl, rfl, rfl⟩ := hx0
    have fin : ∀ w : Value, w.category = 1 → W p l e (am_rm (d + 1) (am_al 47) (am_ms 47 h')) s m (([.int x, .int y] : List Value).map (am_cv ad)).toArray below meth c H locs (am_ce h'.2.2.2.2 h') (am_sc h'.2.2.2.2 h') (MQ below (am_Qc D cA ad base L xs (fun v h2 => h2.2.2.2.2 = h'.2.2.2.2 + am_al 47 ∧ Q v h2)) (([.int x, .int y] : List Value).map (am_cv ad)).toArray s (am_al 47) (am_ms 47 h') (am_A base)) (F0 m 5 ls (([w, .int y, .int x] : List Value).map (am_cv ad))) := fun w hw => by
      refine am_X_sound (p := p) (e := e) (below := below) (meth := meth) (R := am_rm (d + 1) (am_al 47) (am_ms 47 h')) (lim := h'.2.2.2.2 + am_al 47) (rt := none) (ini := false) (cod := am_find am_r47b) (cp := am_call am_cod d) (E := fun _ _ _ _ => False) (Q := fun v h2 => v = none ∧ h2 = h') F hC hcs ⟨by show 1 ≤ d + 1; omega, by show 20 ≤ 40 * (d + 1); omega⟩ (fun q => by cases q) (fun pc r hc => List.all_eq_true.mp am_o47 _ (List.mem_append_right _ (am_find_mem hc))) (fun _ _ _ _ _ _ _ q => q.elim) ?_ 5 (lv_args 0 [.int x, .int y]) [w, .int y, .int x] h' H locs ls ?_ hI hl'
      · intro v h2 H2 locs2 pc2 ls2 st2 hq hI2 hrk
        obtain ⟨rfl, rfl⟩ := hq
        have y1 : am_ce h2.2.2.2.2 h2 = am_al 47 := z1.trans hal.symm
        have y2 : am_sc h2.2.2.2.2 h2 = am_ms 47 h2 := by
          unfold am_ms
          rw [z2, hal]
          show 0 = am_ss (h2.2.2.2.2 + 0) - am_ss h2.2.2.2.2
          rw [Nat.add_zero, Nat.sub_self]
        rw [y1, y2]
        have hpost : ∀ t : State, t.heap = H2 → am_Qc D cA ad base L xs (fun v h' => h'.2.2.2.2 = h2.2.2.2.2 + am_al 47 ∧ Q v h') (([.int x, .int y] : List Value).map (am_cv ad)).toArray s (.returned none) t := fun t ht => ⟨⟨none, h2, rfl, hQ0, by rw [ht]; exact hI2.1, hI2.2.2.1, hI2.2.2.2.1⟩, hI2.2.1.F ht⟩
        rcases hrk with ⟨x', q1, -⟩ | ⟨x', q1, -⟩ | ⟨-, rfl, hd, -⟩
        · cases q1
        · cases q1
        · exact W.vret B.exec B.bytes (B.returns.trans t3) (fun t ht _ => hpost t ht) hI2.2.1.2.2 hd (hlocks := B.notSynchronized)
      · refine am_xstep (r := (.invokestatic 1059, 8, 48, 3, 63, 0)) rfl (show 0 ≤ 8 ∧ h'.2.2.2.2 + am_al 48 ≤ h'.2.2.2.2 + am_al 47 ∧ am_call am_cod d 48 [.int x, .int y, w] h' (fun v h2 => am_X _ _ _ _ _ _ _ 8 (lv_args 0 [.int x, .int y]) (v.toList ++ []) h2) from ⟨Nat.zero_le _, Nat.le_refl _, am_call.up (am_48_fwd hw h2 h3 ?_) h1⟩)
        refine am_xstep (r := (.pop, 9, 0, 0, 0, 0)) rfl (show (Value.int x).category = 1 ∧ am_X _ _ _ _ _ _ _ 9 (lv_args 0 [.int x, .int y]) [] h' from ⟨rfl, ?_⟩)
        exact am_xstep (r := (.return_, 10, 0, 0, 0, 0)) rfl (show (none : Option FieldType) = none ∧ (none : Option Value) = none ∧ h' = h' from ⟨rfl, rfl, rfl⟩)
    rcases hE.2.2.2.2.2.2.2.2 with hZ | hZ
    · exact va_gets B.exec B.bytes hZ hI.2.1 hown (hgw _ (am_gw_fl t7)) (fun x q => q) t6 (fin .null rfl)
    · exact va_gets B.exec B.bytes hZ hI.2.1 hown (hgw _ (am_gw_fl t7)) (fun x q => q) t6 (fin (.ref 6000000) rfl)
theorem am_Met (_ : am_Rok am_cod) (hG : am_G ad base b L) : ∀ d, am_Mt l D cA ad base b L xs am_cod d := am_Met7 am_cod_ok hG (am_cix hG)
end
