section
-- ===== PART A: goes FIRST, ahead of the names: the tables' words, and 'selects' of the private methods out of them =====
/-- a private method of a class that the tables say can be made, by its rows of tables_1 -/
def lw_okq (q : MethodName × Nat) : Prop := (q.1.cls ≠ "java/lang/invoke/MethodHandle" ∧ q.1.cls ≠ "java/lang/invoke/VarHandle") ∧ Cond.instantiable q.1.cls q.2 ∈ tables_1 ∧ Cond.privateMethod q.1 ∈ tables_1 ∧ Cond.instanceMethod q.1 ∈ tables_1
theorem lw_p0 : lw_okq (⟨"MistCanton$Tape", "stepWord", "()V"⟩, 8) := ⟨⟨by decide +kernel, by decide +kernel⟩, List.mem_of_getElem? (i := 33) (by decide +kernel), List.mem_of_getElem? (i := 374) (by decide +kernel), List.mem_of_getElem? (i := 375) (by decide +kernel)⟩
theorem lw_p1 : lw_okq (⟨"MistCanton$Tape", "stepNumber", "()V"⟩, 8) := ⟨⟨by decide +kernel, by decide +kernel⟩, List.mem_of_getElem? (i := 33) (by decide +kernel), List.mem_of_getElem? (i := 378) (by decide +kernel), List.mem_of_getElem? (i := 379) (by decide +kernel)⟩
theorem lw_p2 : lw_okq (⟨"MistCanton$CantonReader", "readLine", "(LMistCanton$Canton;)Z"⟩, 2) := ⟨⟨by decide +kernel, by decide +kernel⟩, List.mem_of_getElem? (i := 76) (by decide +kernel), List.mem_of_getElem? (i := 469) (by decide +kernel), List.mem_of_getElem? (i := 470) (by decide +kernel)⟩
theorem lw_p3 : lw_okq (⟨"MistCanton$CantonReader", "readPerson", "(LMistCanton$Canton;)Z"⟩, 2) := ⟨⟨by decide +kernel, by decide +kernel⟩, List.mem_of_getElem? (i := 76) (by decide +kernel), List.mem_of_getElem? (i := 499) (by decide +kernel), List.mem_of_getElem? (i := 500) (by decide +kernel)⟩
theorem lw_p4 : lw_okq (⟨"MistCanton$CantonReader", "findFreshName", "(LMistCanton$Canton;)Z"⟩, 2) := ⟨⟨by decide +kernel, by decide +kernel⟩, List.mem_of_getElem? (i := 76) (by decide +kernel), List.mem_of_getElem? (i := 508) (by decide +kernel), List.mem_of_getElem? (i := 509) (by decide +kernel)⟩
theorem lw_p5 : lw_okq (⟨"MistCanton$CantonReader", "kindAtHand", "()I"⟩, 2) := ⟨⟨by decide +kernel, by decide +kernel⟩, List.mem_of_getElem? (i := 76) (by decide +kernel), List.mem_of_getElem? (i := 525) (by decide +kernel), List.mem_of_getElem? (i := 526) (by decide +kernel)⟩
theorem lw_p6 : lw_okq (⟨"MistCanton$CantonReader", "readEvent", "(LMistCanton$Canton;)Z"⟩, 2) := ⟨⟨by decide +kernel, by decide +kernel⟩, List.mem_of_getElem? (i := 76) (by decide +kernel), List.mem_of_getElem? (i := 556) (by decide +kernel), List.mem_of_getElem? (i := 557) (by decide +kernel)⟩
theorem lw_p7 : lw_okq (⟨"MistCanton$CantonReader", "readComes", "(LMistCanton$Canton;)Z"⟩, 2) := ⟨⟨by decide +kernel, by decide +kernel⟩, List.mem_of_getElem? (i := 76) (by decide +kernel), List.mem_of_getElem? (i := 563) (by decide +kernel), List.mem_of_getElem? (i := 564) (by decide +kernel)⟩
theorem lw_p8 : lw_okq (⟨"MistCanton$CantonReader", "readSnow", "(LMistCanton$Canton;)Z"⟩, 2) := ⟨⟨by decide +kernel, by decide +kernel⟩, List.mem_of_getElem? (i := 76) (by decide +kernel), List.mem_of_getElem? (i := 571) (by decide +kernel), List.mem_of_getElem? (i := 572) (by decide +kernel)⟩
theorem lw_p9 : lw_okq (⟨"MistCanton$CantonReader", "readSnowDay", "(LMistCanton$Canton;)Z"⟩, 2) := ⟨⟨by decide +kernel, by decide +kernel⟩, List.mem_of_getElem? (i := 76) (by decide +kernel), List.mem_of_getElem? (i := 575) (by decide +kernel), List.mem_of_getElem? (i := 576) (by decide +kernel)⟩
theorem lw_p10 : lw_okq (⟨"MistCanton$LawReader", "readLaw", "(LMistCanton$Law;I)Z"⟩, 1) := ⟨⟨by decide +kernel, by decide +kernel⟩, List.mem_of_getElem? (i := 82) (by decide +kernel), List.mem_of_getElem? (i := 597) (by decide +kernel), List.mem_of_getElem? (i := 598) (by decide +kernel)⟩
theorem lw_p11 : lw_okq (⟨"MistCanton$LawReader", "readTest", "(LMistCanton$Law;I)Z"⟩, 1) := ⟨⟨by decide +kernel, by decide +kernel⟩, List.mem_of_getElem? (i := 82) (by decide +kernel), List.mem_of_getElem? (i := 601) (by decide +kernel), List.mem_of_getElem? (i := 602) (by decide +kernel)⟩
theorem lw_p12 : lw_okq (⟨"MistCanton$LawReader", "readSum", "(LMistCanton$Law;I)Z"⟩, 1) := ⟨⟨by decide +kernel, by decide +kernel⟩, List.mem_of_getElem? (i := 82) (by decide +kernel), List.mem_of_getElem? (i := 605) (by decide +kernel), List.mem_of_getElem? (i := 606) (by decide +kernel)⟩
theorem lw_p13 : lw_okq (⟨"MistCanton$LawReader", "readProduct", "(LMistCanton$Law;I)Z"⟩, 1) := ⟨⟨by decide +kernel, by decide +kernel⟩, List.mem_of_getElem? (i := 82) (by decide +kernel), List.mem_of_getElem? (i := 609) (by decide +kernel), List.mem_of_getElem? (i := 610) (by decide +kernel)⟩
theorem lw_p14 : lw_okq (⟨"MistCanton$LawReader", "readPart", "(LMistCanton$Law;I)Z"⟩, 1) := ⟨⟨by decide +kernel, by decide +kernel⟩, List.mem_of_getElem? (i := 82) (by decide +kernel), List.mem_of_getElem? (i := 613) (by decide +kernel), List.mem_of_getElem? (i := 614) (by decide +kernel)⟩
theorem lw_p15 : lw_okq (⟨"MistCanton$LawReader", "factAtHand", "()I"⟩, 1) := ⟨⟨by decide +kernel, by decide +kernel⟩, List.mem_of_getElem? (i := 82) (by decide +kernel), List.mem_of_getElem? (i := 617) (by decide +kernel), List.mem_of_getElem? (i := 618) (by decide +kernel)⟩
def lw_privs_1 : List (MethodName × Nat) := [(⟨"MistCanton$Tape", "stepWord", "()V"⟩, 8), (⟨"MistCanton$Tape", "stepNumber", "()V"⟩, 8), (⟨"MistCanton$CantonReader", "readLine", "(LMistCanton$Canton;)Z"⟩, 2), (⟨"MistCanton$CantonReader", "readPerson", "(LMistCanton$Canton;)Z"⟩, 2), (⟨"MistCanton$CantonReader", "findFreshName", "(LMistCanton$Canton;)Z"⟩, 2), (⟨"MistCanton$CantonReader", "kindAtHand", "()I"⟩, 2), (⟨"MistCanton$CantonReader", "readEvent", "(LMistCanton$Canton;)Z"⟩, 2), (⟨"MistCanton$CantonReader", "readComes", "(LMistCanton$Canton;)Z"⟩, 2), (⟨"MistCanton$CantonReader", "readSnow", "(LMistCanton$Canton;)Z"⟩, 2), (⟨"MistCanton$CantonReader", "readSnowDay", "(LMistCanton$Canton;)Z"⟩, 2), (⟨"MistCanton$LawReader", "readLaw", "(LMistCanton$Law;I)Z"⟩, 1), (⟨"MistCanton$LawReader", "readTest", "(LMistCanton$Law;I)Z"⟩, 1), (⟨"MistCanton$LawReader", "readSum", "(LMistCanton$Law;I)Z"⟩, 1), (⟨"MistCanton$LawReader", "readProduct", "(LMistCanton$Law;I)Z"⟩, 1), (⟨"MistCanton$LawReader", "readPart", "(LMistCanton$Law;I)Z"⟩, 1), (⟨"MistCanton$LawReader", "factAtHand", "()I"⟩, 1)]
theorem lw_r1 : ∀ q ∈ lw_privs_1, lw_okq q := List.forall_mem_cons.mpr ⟨lw_p0, List.forall_mem_cons.mpr ⟨lw_p1, List.forall_mem_cons.mpr ⟨lw_p2, List.forall_mem_cons.mpr ⟨lw_p3, List.forall_mem_cons.mpr ⟨lw_p4, List.forall_mem_cons.mpr ⟨lw_p5, List.forall_mem_cons.mpr ⟨lw_p6, List.forall_mem_cons.mpr ⟨lw_p7, List.forall_mem_cons.mpr ⟨lw_p8, List.forall_mem_cons.mpr ⟨lw_p9, List.forall_mem_cons.mpr ⟨lw_p10, List.forall_mem_cons.mpr ⟨lw_p11, List.forall_mem_cons.mpr ⟨lw_p12, List.forall_mem_cons.mpr ⟨lw_p13, List.forall_mem_cons.mpr ⟨lw_p14, List.forall_mem_cons.mpr ⟨lw_p15, fun _ h => absurd h List.not_mem_nil⟩⟩⟩⟩⟩⟩⟩⟩⟩⟩⟩⟩⟩⟩⟩⟩
theorem lw_p16 : lw_okq (⟨"MistCanton", "beginAnew", "()V"⟩, 14) := ⟨⟨by decide +kernel, by decide +kernel⟩, List.mem_of_getElem? (i := 25) (by decide +kernel), List.mem_of_getElem? (i := 635) (by decide +kernel), List.mem_of_getElem? (i := 636) (by decide +kernel)⟩
theorem lw_p17 : lw_okq (⟨"MistCanton$WeekReader", "readLine", "(LMistCanton$Week;LMistCanton$Canton;)Z"⟩, 1) := ⟨⟨by decide +kernel, by decide +kernel⟩, List.mem_of_getElem? (i := 99) (by decide +kernel), List.mem_of_getElem? (i := 653) (by decide +kernel), List.mem_of_getElem? (i := 654) (by decide +kernel)⟩
theorem lw_p18 : lw_okq (⟨"MistCanton$WeekReader", "actAtHand", "()I"⟩, 1) := ⟨⟨by decide +kernel, by decide +kernel⟩, List.mem_of_getElem? (i := 99) (by decide +kernel), List.mem_of_getElem? (i := 657) (by decide +kernel), List.mem_of_getElem? (i := 658) (by decide +kernel)⟩
theorem lw_p19 : lw_okq (⟨"MistCanton$WeekReader", "readPerson", "(LMistCanton$Week;LMistCanton$Canton;)Z"⟩, 1) := ⟨⟨by decide +kernel, by decide +kernel⟩, List.mem_of_getElem? (i := 99) (by decide +kernel), List.mem_of_getElem? (i := 667) (by decide +kernel), List.mem_of_getElem? (i := 668) (by decide +kernel)⟩
theorem lw_p20 : lw_okq (⟨"MistCanton$WeekReader", "readLot", "(LMistCanton$Week;)Z"⟩, 1) := ⟨⟨by decide +kernel, by decide +kernel⟩, List.mem_of_getElem? (i := 99) (by decide +kernel), List.mem_of_getElem? (i := 673) (by decide +kernel), List.mem_of_getElem? (i := 674) (by decide +kernel)⟩
theorem lw_p21 : lw_okq (⟨"MistCanton", "isPerson", "(I)Z"⟩, 14) := ⟨⟨by decide +kernel, by decide +kernel⟩, List.mem_of_getElem? (i := 25) (by decide +kernel), List.mem_of_getElem? (i := 683) (by decide +kernel), List.mem_of_getElem? (i := 684) (by decide +kernel)⟩
theorem lw_p22 : lw_okq (⟨"MistCanton", "isEvent", "(I)Z"⟩, 14) := ⟨⟨by decide +kernel, by decide +kernel⟩, List.mem_of_getElem? (i := 25) (by decide +kernel), List.mem_of_getElem? (i := 707) (by decide +kernel), List.mem_of_getElem? (i := 708) (by decide +kernel)⟩
theorem lw_p23 : lw_okq (⟨"MistCanton$Canton", "gather", "(LMistCanton$State;Z)V"⟩, 13) := ⟨⟨by decide +kernel, by decide +kernel⟩, List.mem_of_getElem? (i := 109) (by decide +kernel), List.mem_of_getElem? (i := 741) (by decide +kernel), List.mem_of_getElem? (i := 742) (by decide +kernel)⟩
theorem lw_p24 : lw_okq (⟨"MistCanton$Canton", "drawing", "(II)I"⟩, 13) := ⟨⟨by decide +kernel, by decide +kernel⟩, List.mem_of_getElem? (i := 109) (by decide +kernel), List.mem_of_getElem? (i := 746) (by decide +kernel), List.mem_of_getElem? (i := 747) (by decide +kernel)⟩
theorem lw_p25 : lw_okq (⟨"MistCanton$Canton", "goesOut", "(ILMistCanton$State;Z)Z"⟩, 13) := ⟨⟨by decide +kernel, by decide +kernel⟩, List.mem_of_getElem? (i := 109) (by decide +kernel), List.mem_of_getElem? (i := 753) (by decide +kernel), List.mem_of_getElem? (i := 754) (by decide +kernel)⟩
theorem lw_p26 : lw_okq (⟨"MistCanton", "followLine", "(I)I"⟩, 14) := ⟨⟨by decide +kernel, by decide +kernel⟩, List.mem_of_getElem? (i := 25) (by decide +kernel), List.mem_of_getElem? (i := 808) (by decide +kernel), List.mem_of_getElem? (i := 809) (by decide +kernel)⟩
theorem lw_p27 : lw_okq (⟨"MistCanton", "passAhead", "()I"⟩, 14) := ⟨⟨by decide +kernel, by decide +kernel⟩, List.mem_of_getElem? (i := 25) (by decide +kernel), List.mem_of_getElem? (i := 812) (by decide +kernel), List.mem_of_getElem? (i := 813) (by decide +kernel)⟩
theorem lw_p28 : lw_okq (⟨"MistCanton", "timesHeld", "(II)I"⟩, 14) := ⟨⟨by decide +kernel, by decide +kernel⟩, List.mem_of_getElem? (i := 25) (by decide +kernel), List.mem_of_getElem? (i := 833) (by decide +kernel), List.mem_of_getElem? (i := 834) (by decide +kernel)⟩
theorem lw_p29 : lw_okq (⟨"MistCanton", "isHeldUnder", "(III)Z"⟩, 14) := ⟨⟨by decide +kernel, by decide +kernel⟩, List.mem_of_getElem? (i := 25) (by decide +kernel), List.mem_of_getElem? (i := 882) (by decide +kernel), List.mem_of_getElem? (i := 883) (by decide +kernel)⟩
theorem lw_p30 : lw_okq (⟨"MistCanton", "drawLots", "(J)J"⟩, 14) := ⟨⟨by decide +kernel, by decide +kernel⟩, List.mem_of_getElem? (i := 25) (by decide +kernel), List.mem_of_getElem? (i := 893) (by decide +kernel), List.mem_of_getElem? (i := 894) (by decide +kernel)⟩
theorem lw_p31 : lw_okq (⟨"MistCanton", "personsOf", "(I)I"⟩, 14) := ⟨⟨by decide +kernel, by decide +kernel⟩, List.mem_of_getElem? (i := 25) (by decide +kernel), List.mem_of_getElem? (i := 911) (by decide +kernel), List.mem_of_getElem? (i := 912) (by decide +kernel)⟩
def lw_privs_2 : List (MethodName × Nat) := [(⟨"MistCanton", "beginAnew", "()V"⟩, 14), (⟨"MistCanton$WeekReader", "readLine", "(LMistCanton$Week;LMistCanton$Canton;)Z"⟩, 1), (⟨"MistCanton$WeekReader", "actAtHand", "()I"⟩, 1), (⟨"MistCanton$WeekReader", "readPerson", "(LMistCanton$Week;LMistCanton$Canton;)Z"⟩, 1), (⟨"MistCanton$WeekReader", "readLot", "(LMistCanton$Week;)Z"⟩, 1), (⟨"MistCanton", "isPerson", "(I)Z"⟩, 14), (⟨"MistCanton", "isEvent", "(I)Z"⟩, 14), (⟨"MistCanton$Canton", "gather", "(LMistCanton$State;Z)V"⟩, 13), (⟨"MistCanton$Canton", "drawing", "(II)I"⟩, 13), (⟨"MistCanton$Canton", "goesOut", "(ILMistCanton$State;Z)Z"⟩, 13), (⟨"MistCanton", "followLine", "(I)I"⟩, 14), (⟨"MistCanton", "passAhead", "()I"⟩, 14), (⟨"MistCanton", "timesHeld", "(II)I"⟩, 14), (⟨"MistCanton", "isHeldUnder", "(III)Z"⟩, 14), (⟨"MistCanton", "drawLots", "(J)J"⟩, 14), (⟨"MistCanton", "personsOf", "(I)I"⟩, 14)]
theorem lw_r2 : ∀ q ∈ lw_privs_2, lw_okq q := List.forall_mem_cons.mpr ⟨lw_p16, List.forall_mem_cons.mpr ⟨lw_p17, List.forall_mem_cons.mpr ⟨lw_p18, List.forall_mem_cons.mpr ⟨lw_p19, List.forall_mem_cons.mpr ⟨lw_p20, List.forall_mem_cons.mpr ⟨lw_p21, List.forall_mem_cons.mpr ⟨lw_p22, List.forall_mem_cons.mpr ⟨lw_p23, List.forall_mem_cons.mpr ⟨lw_p24, List.forall_mem_cons.mpr ⟨lw_p25, List.forall_mem_cons.mpr ⟨lw_p26, List.forall_mem_cons.mpr ⟨lw_p27, List.forall_mem_cons.mpr ⟨lw_p28, List.forall_mem_cons.mpr ⟨lw_p29, List.forall_mem_cons.mpr ⟨lw_p30, List.forall_mem_cons.mpr ⟨lw_p31, fun _ h => absurd h List.not_mem_nil⟩⟩⟩⟩⟩⟩⟩⟩⟩⟩⟩⟩⟩⟩⟩⟩
theorem lw_p32 : lw_okq (⟨"MistCanton", "costOf", "(II)I"⟩, 14) := ⟨⟨by decide +kernel, by decide +kernel⟩, List.mem_of_getElem? (i := 25) (by decide +kernel), List.mem_of_getElem? (i := 920) (by decide +kernel), List.mem_of_getElem? (i := 921) (by decide +kernel)⟩
theorem lw_p33 : lw_okq (⟨"MistCanton", "guestsAt", "(III)I"⟩, 14) := ⟨⟨by decide +kernel, by decide +kernel⟩, List.mem_of_getElem? (i := 25) (by decide +kernel), List.mem_of_getElem? (i := 924) (by decide +kernel), List.mem_of_getElem? (i := 925) (by decide +kernel)⟩
theorem lw_p34 : lw_okq (⟨"MistCanton", "personsAt", "(I)I"⟩, 14) := ⟨⟨by decide +kernel, by decide +kernel⟩, List.mem_of_getElem? (i := 25) (by decide +kernel), List.mem_of_getElem? (i := 958) (by decide +kernel), List.mem_of_getElem? (i := 959) (by decide +kernel)⟩
theorem lw_p35 : lw_okq (⟨"MistCanton", "daysRight", "(I)I"⟩, 14) := ⟨⟨by decide +kernel, by decide +kernel⟩, List.mem_of_getElem? (i := 25) (by decide +kernel), List.mem_of_getElem? (i := 984) (by decide +kernel), List.mem_of_getElem? (i := 985) (by decide +kernel)⟩
theorem lw_p36 : lw_okq (⟨"MistCanton", "withTheirs", "(I)I"⟩, 14) := ⟨⟨by decide +kernel, by decide +kernel⟩, List.mem_of_getElem? (i := 25) (by decide +kernel), List.mem_of_getElem? (i := 992) (by decide +kernel), List.mem_of_getElem? (i := 993) (by decide +kernel)⟩
theorem lw_p37 : lw_okq (⟨"MistCanton", "circleOf", "(I)I"⟩, 14) := ⟨⟨by decide +kernel, by decide +kernel⟩, List.mem_of_getElem? (i := 25) (by decide +kernel), List.mem_of_getElem? (i := 1004) (by decide +kernel), List.mem_of_getElem? (i := 1005) (by decide +kernel)⟩
theorem lw_p38 : lw_okq (⟨"java/lang/Throwable", "fillInStackTrace", "(I)Ljava/lang/Throwable;"⟩, 6) := ⟨⟨by decide +kernel, by decide +kernel⟩, List.mem_of_getElem? (i := 1064) (by decide +kernel), List.mem_of_getElem? (i := 1062) (by decide +kernel), List.mem_of_getElem? (i := 1063) (by decide +kernel)⟩
theorem lw_p39 : lw_okq (⟨"MistCantonModel", "lay", "(J)V"⟩, 31) := ⟨⟨by decide +kernel, by decide +kernel⟩, List.mem_of_getElem? (i := 1110) (by decide +kernel), List.mem_of_getElem? (i := 1108) (by decide +kernel), List.mem_of_getElem? (i := 1109) (by decide +kernel)⟩
theorem lw_p40 : lw_okq (⟨"MistCantonModel", "standsAsAlways", "(I)V"⟩, 31) := ⟨⟨by decide +kernel, by decide +kernel⟩, List.mem_of_getElem? (i := 1110) (by decide +kernel), List.mem_of_getElem? (i := 1139) (by decide +kernel), List.mem_of_getElem? (i := 1140) (by decide +kernel)⟩
theorem lw_p41 : lw_okq (⟨"MistCantonModel", "begins", "()V"⟩, 31) := ⟨⟨by decide +kernel, by decide +kernel⟩, List.mem_of_getElem? (i := 1110) (by decide +kernel), List.mem_of_getElem? (i := 1143) (by decide +kernel), List.mem_of_getElem? (i := 1144) (by decide +kernel)⟩
theorem lw_p42 : lw_okq (⟨"MistCantonModel", "onsAsTold", "()V"⟩, 31) := ⟨⟨by decide +kernel, by decide +kernel⟩, List.mem_of_getElem? (i := 1110) (by decide +kernel), List.mem_of_getElem? (i := 1147) (by decide +kernel), List.mem_of_getElem? (i := 1148) (by decide +kernel)⟩
theorem lw_p43 : lw_okq (⟨"MistCantonModel", "events", "()I"⟩, 31) := ⟨⟨by decide +kernel, by decide +kernel⟩, List.mem_of_getElem? (i := 1110) (by decide +kernel), List.mem_of_getElem? (i := 1151) (by decide +kernel), List.mem_of_getElem? (i := 1152) (by decide +kernel)⟩
theorem lw_p44 : lw_okq (⟨"MistCantonModel", "eventOf", "(II)I"⟩, 31) := ⟨⟨by decide +kernel, by decide +kernel⟩, List.mem_of_getElem? (i := 1110) (by decide +kernel), List.mem_of_getElem? (i := 1155) (by decide +kernel), List.mem_of_getElem? (i := 1156) (by decide +kernel)⟩
theorem lw_p45 : lw_okq (⟨"MistCantonModel", "starts", "(I)V"⟩, 31) := ⟨⟨by decide +kernel, by decide +kernel⟩, List.mem_of_getElem? (i := 1110) (by decide +kernel), List.mem_of_getElem? (i := 1159) (by decide +kernel), List.mem_of_getElem? (i := 1160) (by decide +kernel)⟩
theorem lw_p46 : lw_okq (⟨"MistCantonModel", "persons", "()I"⟩, 31) := ⟨⟨by decide +kernel, by decide +kernel⟩, List.mem_of_getElem? (i := 1110) (by decide +kernel), List.mem_of_getElem? (i := 1163) (by decide +kernel), List.mem_of_getElem? (i := 1164) (by decide +kernel)⟩
theorem lw_p47 : lw_okq (⟨"MistCantonModel", "personOf", "(II)I"⟩, 31) := ⟨⟨by decide +kernel, by decide +kernel⟩, List.mem_of_getElem? (i := 1110) (by decide +kernel), List.mem_of_getElem? (i := 1167) (by decide +kernel), List.mem_of_getElem? (i := 1168) (by decide +kernel)⟩
def lw_privs_3 : List (MethodName × Nat) := [(⟨"MistCanton", "costOf", "(II)I"⟩, 14), (⟨"MistCanton", "guestsAt", "(III)I"⟩, 14), (⟨"MistCanton", "personsAt", "(I)I"⟩, 14), (⟨"MistCanton", "daysRight", "(I)I"⟩, 14), (⟨"MistCanton", "withTheirs", "(I)I"⟩, 14), (⟨"MistCanton", "circleOf", "(I)I"⟩, 14), (⟨"java/lang/Throwable", "fillInStackTrace", "(I)Ljava/lang/Throwable;"⟩, 6), (⟨"MistCantonModel", "lay", "(J)V"⟩, 31), (⟨"MistCantonModel", "standsAsAlways", "(I)V"⟩, 31), (⟨"MistCantonModel", "begins", "()V"⟩, 31), (⟨"MistCantonModel", "onsAsTold", "()V"⟩, 31), (⟨"MistCantonModel", "events", "()I"⟩, 31), (⟨"MistCantonModel", "eventOf", "(II)I"⟩, 31), (⟨"MistCantonModel", "starts", "(I)V"⟩, 31), (⟨"MistCantonModel", "persons", "()I"⟩, 31), (⟨"MistCantonModel", "personOf", "(II)I"⟩, 31)]
theorem lw_r3 : ∀ q ∈ lw_privs_3, lw_okq q := List.forall_mem_cons.mpr ⟨lw_p32, List.forall_mem_cons.mpr ⟨lw_p33, List.forall_mem_cons.mpr ⟨lw_p34, List.forall_mem_cons.mpr ⟨lw_p35, List.forall_mem_cons.mpr ⟨lw_p36, List.forall_mem_cons.mpr ⟨lw_p37, List.forall_mem_cons.mpr ⟨lw_p38, List.forall_mem_cons.mpr ⟨lw_p39, List.forall_mem_cons.mpr ⟨lw_p40, List.forall_mem_cons.mpr ⟨lw_p41, List.forall_mem_cons.mpr ⟨lw_p42, List.forall_mem_cons.mpr ⟨lw_p43, List.forall_mem_cons.mpr ⟨lw_p44, List.forall_mem_cons.mpr ⟨lw_p45, List.forall_mem_cons.mpr ⟨lw_p46, List.forall_mem_cons.mpr ⟨lw_p47, fun _ h => absurd h List.not_mem_nil⟩⟩⟩⟩⟩⟩⟩⟩⟩⟩⟩⟩⟩⟩⟩⟩
theorem lw_p48 : lw_okq (⟨"MistCantonModel", "cutAll", "()V"⟩, 31) := ⟨⟨by decide +kernel, by decide +kernel⟩, List.mem_of_getElem? (i := 1110) (by decide +kernel), List.mem_of_getElem? (i := 1270) (by decide +kernel), List.mem_of_getElem? (i := 1271) (by decide +kernel)⟩
theorem lw_p49 : lw_okq (⟨"MistCantonModel", "readLine", "()V"⟩, 31) := ⟨⟨by decide +kernel, by decide +kernel⟩, List.mem_of_getElem? (i := 1110) (by decide +kernel), List.mem_of_getElem? (i := 1289) (by decide +kernel), List.mem_of_getElem? (i := 1290) (by decide +kernel)⟩
theorem lw_p50 : lw_okq (⟨"MistCantonModel", "isWord", "(I)Z"⟩, 31) := ⟨⟨by decide +kernel, by decide +kernel⟩, List.mem_of_getElem? (i := 1110) (by decide +kernel), List.mem_of_getElem? (i := 1293) (by decide +kernel), List.mem_of_getElem? (i := 1294) (by decide +kernel)⟩
theorem lw_p51 : lw_okq (⟨"MistCantonModel", "readName", "(III)V"⟩, 31) := ⟨⟨by decide +kernel, by decide +kernel⟩, List.mem_of_getElem? (i := 1110) (by decide +kernel), List.mem_of_getElem? (i := 1297) (by decide +kernel), List.mem_of_getElem? (i := 1298) (by decide +kernel)⟩
theorem lw_p52 : lw_okq (⟨"MistCantonModel", "wrong", "(I)V"⟩, 31) := ⟨⟨by decide +kernel, by decide +kernel⟩, List.mem_of_getElem? (i := 1110) (by decide +kernel), List.mem_of_getElem? (i := 1301) (by decide +kernel), List.mem_of_getElem? (i := 1302) (by decide +kernel)⟩
theorem lw_p53 : lw_okq (⟨"MistCantonModel", "isName", "()Z"⟩, 31) := ⟨⟨by decide +kernel, by decide +kernel⟩, List.mem_of_getElem? (i := 1110) (by decide +kernel), List.mem_of_getElem? (i := 1305) (by decide +kernel), List.mem_of_getElem? (i := 1306) (by decide +kernel)⟩
theorem lw_p54 : lw_okq (⟨"MistCantonModel", "wordHere", "(II)I"⟩, 31) := ⟨⟨by decide +kernel, by decide +kernel⟩, List.mem_of_getElem? (i := 1110) (by decide +kernel), List.mem_of_getElem? (i := 1309) (by decide +kernel), List.mem_of_getElem? (i := 1310) (by decide +kernel)⟩
theorem lw_p55 : lw_okq (⟨"MistCantonModel", "nameAt", "(Z)I"⟩, 31) := ⟨⟨by decide +kernel, by decide +kernel⟩, List.mem_of_getElem? (i := 1110) (by decide +kernel), List.mem_of_getElem? (i := 1313) (by decide +kernel), List.mem_of_getElem? (i := 1314) (by decide +kernel)⟩
theorem lw_p56 : lw_okq (⟨"MistCantonModel", "takeOne", "(II)I"⟩, 31) := ⟨⟨by decide +kernel, by decide +kernel⟩, List.mem_of_getElem? (i := 1110) (by decide +kernel), List.mem_of_getElem? (i := 1317) (by decide +kernel), List.mem_of_getElem? (i := 1318) (by decide +kernel)⟩
theorem lw_p57 : lw_okq (⟨"MistCantonModel", "takeAfter", "(III)I"⟩, 31) := ⟨⟨by decide +kernel, by decide +kernel⟩, List.mem_of_getElem? (i := 1110) (by decide +kernel), List.mem_of_getElem? (i := 1321) (by decide +kernel), List.mem_of_getElem? (i := 1322) (by decide +kernel)⟩
theorem lw_p58 : lw_okq (⟨"MistCantonModel", "takeWord", "(I)V"⟩, 31) := ⟨⟨by decide +kernel, by decide +kernel⟩, List.mem_of_getElem? (i := 1110) (by decide +kernel), List.mem_of_getElem? (i := 1325) (by decide +kernel), List.mem_of_getElem? (i := 1326) (by decide +kernel)⟩
theorem lw_p59 : lw_okq (⟨"MistCantonModel", "hasWord", "(I)Z"⟩, 31) := ⟨⟨by decide +kernel, by decide +kernel⟩, List.mem_of_getElem? (i := 1110) (by decide +kernel), List.mem_of_getElem? (i := 1329) (by decide +kernel), List.mem_of_getElem? (i := 1330) (by decide +kernel)⟩
theorem lw_p60 : lw_okq (⟨"MistCantonModel", "takeNumber", "(II)I"⟩, 31) := ⟨⟨by decide +kernel, by decide +kernel⟩, List.mem_of_getElem? (i := 1110) (by decide +kernel), List.mem_of_getElem? (i := 1333) (by decide +kernel), List.mem_of_getElem? (i := 1334) (by decide +kernel)⟩
theorem lw_p61 : lw_okq (⟨"MistCantonModel", "takeTold", "(ZII)I"⟩, 31) := ⟨⟨by decide +kernel, by decide +kernel⟩, List.mem_of_getElem? (i := 1110) (by decide +kernel), List.mem_of_getElem? (i := 1337) (by decide +kernel), List.mem_of_getElem? (i := 1338) (by decide +kernel)⟩
theorem lw_p62 : lw_okq (⟨"MistCantonModel", "readOnce", "()V"⟩, 31) := ⟨⟨by decide +kernel, by decide +kernel⟩, List.mem_of_getElem? (i := 1110) (by decide +kernel), List.mem_of_getElem? (i := 1344) (by decide +kernel), List.mem_of_getElem? (i := 1345) (by decide +kernel)⟩
theorem lw_p63 : lw_okq (⟨"MistCantonModel", "readSnow", "()V"⟩, 31) := ⟨⟨by decide +kernel, by decide +kernel⟩, List.mem_of_getElem? (i := 1110) (by decide +kernel), List.mem_of_getElem? (i := 1348) (by decide +kernel), List.mem_of_getElem? (i := 1349) (by decide +kernel)⟩
def lw_privs_4 : List (MethodName × Nat) := [(⟨"MistCantonModel", "cutAll", "()V"⟩, 31), (⟨"MistCantonModel", "readLine", "()V"⟩, 31), (⟨"MistCantonModel", "isWord", "(I)Z"⟩, 31), (⟨"MistCantonModel", "readName", "(III)V"⟩, 31), (⟨"MistCantonModel", "wrong", "(I)V"⟩, 31), (⟨"MistCantonModel", "isName", "()Z"⟩, 31), (⟨"MistCantonModel", "wordHere", "(II)I"⟩, 31), (⟨"MistCantonModel", "nameAt", "(Z)I"⟩, 31), (⟨"MistCantonModel", "takeOne", "(II)I"⟩, 31), (⟨"MistCantonModel", "takeAfter", "(III)I"⟩, 31), (⟨"MistCantonModel", "takeWord", "(I)V"⟩, 31), (⟨"MistCantonModel", "hasWord", "(I)Z"⟩, 31), (⟨"MistCantonModel", "takeNumber", "(II)I"⟩, 31), (⟨"MistCantonModel", "takeTold", "(ZII)I"⟩, 31), (⟨"MistCantonModel", "readOnce", "()V"⟩, 31), (⟨"MistCantonModel", "readSnow", "()V"⟩, 31)]
theorem lw_r4 : ∀ q ∈ lw_privs_4, lw_okq q := List.forall_mem_cons.mpr ⟨lw_p48, List.forall_mem_cons.mpr ⟨lw_p49, List.forall_mem_cons.mpr ⟨lw_p50, List.forall_mem_cons.mpr ⟨lw_p51, List.forall_mem_cons.mpr ⟨lw_p52, List.forall_mem_cons.mpr ⟨lw_p53, List.forall_mem_cons.mpr ⟨lw_p54, List.forall_mem_cons.mpr ⟨lw_p55, List.forall_mem_cons.mpr ⟨lw_p56, List.forall_mem_cons.mpr ⟨lw_p57, List.forall_mem_cons.mpr ⟨lw_p58, List.forall_mem_cons.mpr ⟨lw_p59, List.forall_mem_cons.mpr ⟨lw_p60, List.forall_mem_cons.mpr ⟨lw_p61, List.forall_mem_cons.mpr ⟨lw_p62, List.forall_mem_cons.mpr ⟨lw_p63, fun _ h => absurd h List.not_mem_nil⟩⟩⟩⟩⟩⟩⟩⟩⟩⟩⟩⟩⟩⟩⟩⟩
theorem lw_p64 : lw_okq (⟨"MistCantonModel", "whole", "(I)V"⟩, 31) := ⟨⟨by decide +kernel, by decide +kernel⟩, List.mem_of_getElem? (i := 1110) (by decide +kernel), List.mem_of_getElem? (i := 1352) (by decide +kernel), List.mem_of_getElem? (i := 1353) (by decide +kernel)⟩
theorem lw_p65 : lw_okq (⟨"MistCantonModel", "test", "(I)V"⟩, 31) := ⟨⟨by decide +kernel, by decide +kernel⟩, List.mem_of_getElem? (i := 1110) (by decide +kernel), List.mem_of_getElem? (i := 1356) (by decide +kernel), List.mem_of_getElem? (i := 1357) (by decide +kernel)⟩
theorem lw_p66 : lw_okq (⟨"MistCantonModel", "sums", "(I)V"⟩, 31) := ⟨⟨by decide +kernel, by decide +kernel⟩, List.mem_of_getElem? (i := 1110) (by decide +kernel), List.mem_of_getElem? (i := 1360) (by decide +kernel), List.mem_of_getElem? (i := 1361) (by decide +kernel)⟩
theorem lw_p67 : lw_okq (⟨"MistCantonModel", "products", "(I)V"⟩, 31) := ⟨⟨by decide +kernel, by decide +kernel⟩, List.mem_of_getElem? (i := 1110) (by decide +kernel), List.mem_of_getElem? (i := 1364) (by decide +kernel), List.mem_of_getElem? (i := 1365) (by decide +kernel)⟩
theorem lw_p68 : lw_okq (⟨"MistCantonModel", "takePart", "(I)V"⟩, 31) := ⟨⟨by decide +kernel, by decide +kernel⟩, List.mem_of_getElem? (i := 1110) (by decide +kernel), List.mem_of_getElem? (i := 1368) (by decide +kernel), List.mem_of_getElem? (i := 1369) (by decide +kernel)⟩
theorem lw_p69 : lw_okq (⟨"MistCantonModel", "isSign", "(I)Z"⟩, 31) := ⟨⟨by decide +kernel, by decide +kernel⟩, List.mem_of_getElem? (i := 1110) (by decide +kernel), List.mem_of_getElem? (i := 1372) (by decide +kernel), List.mem_of_getElem? (i := 1373) (by decide +kernel)⟩
theorem lw_p70 : lw_okq (⟨"MistCantonModel", "emit", "(II)V"⟩, 31) := ⟨⟨by decide +kernel, by decide +kernel⟩, List.mem_of_getElem? (i := 1110) (by decide +kernel), List.mem_of_getElem? (i := 1376) (by decide +kernel), List.mem_of_getElem? (i := 1377) (by decide +kernel)⟩
theorem lw_p71 : lw_okq (⟨"MistCantonModel", "hasSign", "(I)Z"⟩, 31) := ⟨⟨by decide +kernel, by decide +kernel⟩, List.mem_of_getElem? (i := 1110) (by decide +kernel), List.mem_of_getElem? (i := 1380) (by decide +kernel), List.mem_of_getElem? (i := 1381) (by decide +kernel)⟩
theorem lw_p72 : lw_okq (⟨"MistCantonModel", "takeSign", "(I)V"⟩, 31) := ⟨⟨by decide +kernel, by decide +kernel⟩, List.mem_of_getElem? (i := 1110) (by decide +kernel), List.mem_of_getElem? (i := 1384) (by decide +kernel), List.mem_of_getElem? (i := 1385) (by decide +kernel)⟩
theorem lw_p73 : lw_okq (⟨"MistCantonModel", "isPerson", "(I)Z"⟩, 31) := ⟨⟨by decide +kernel, by decide +kernel⟩, List.mem_of_getElem? (i := 1110) (by decide +kernel), List.mem_of_getElem? (i := 1396) (by decide +kernel), List.mem_of_getElem? (i := 1397) (by decide +kernel)⟩
theorem lw_p74 : lw_okq (⟨"MistCantonModel", "toOne", "(I)I"⟩, 31) := ⟨⟨by decide +kernel, by decide +kernel⟩, List.mem_of_getElem? (i := 1110) (by decide +kernel), List.mem_of_getElem? (i := 1400) (by decide +kernel), List.mem_of_getElem? (i := 1401) (by decide +kernel)⟩
theorem lw_p75 : lw_okq (⟨"MistCantonModel", "offOf", "(II)I"⟩, 31) := ⟨⟨by decide +kernel, by decide +kernel⟩, List.mem_of_getElem? (i := 1110) (by decide +kernel), List.mem_of_getElem? (i := 1404) (by decide +kernel), List.mem_of_getElem? (i := 1405) (by decide +kernel)⟩
theorem lw_p76 : lw_okq (⟨"MistCantonModel", "snowOn", "(I)I"⟩, 31) := ⟨⟨by decide +kernel, by decide +kernel⟩, List.mem_of_getElem? (i := 1110) (by decide +kernel), List.mem_of_getElem? (i := 1408) (by decide +kernel), List.mem_of_getElem? (i := 1409) (by decide +kernel)⟩
theorem lw_p77 : lw_okq (⟨"MistCantonModel", "isEvent", "(I)Z"⟩, 31) := ⟨⟨by decide +kernel, by decide +kernel⟩, List.mem_of_getElem? (i := 1110) (by decide +kernel), List.mem_of_getElem? (i := 1419) (by decide +kernel), List.mem_of_getElem? (i := 1420) (by decide +kernel)⟩
theorem lw_p78 : lw_okq (⟨"MistCantonModel", "invitedTo", "(I)I"⟩, 31) := ⟨⟨by decide +kernel, by decide +kernel⟩, List.mem_of_getElem? (i := 1110) (by decide +kernel), List.mem_of_getElem? (i := 1423) (by decide +kernel), List.mem_of_getElem? (i := 1424) (by decide +kernel)⟩
theorem lw_p79 : lw_okq (⟨"MistCantonModel", "isToCome", "(II)Z"⟩, 31) := ⟨⟨by decide +kernel, by decide +kernel⟩, List.mem_of_getElem? (i := 1110) (by decide +kernel), List.mem_of_getElem? (i := 1427) (by decide +kernel), List.mem_of_getElem? (i := 1428) (by decide +kernel)⟩
def lw_privs_5 : List (MethodName × Nat) := [(⟨"MistCantonModel", "whole", "(I)V"⟩, 31), (⟨"MistCantonModel", "test", "(I)V"⟩, 31), (⟨"MistCantonModel", "sums", "(I)V"⟩, 31), (⟨"MistCantonModel", "products", "(I)V"⟩, 31), (⟨"MistCantonModel", "takePart", "(I)V"⟩, 31), (⟨"MistCantonModel", "isSign", "(I)Z"⟩, 31), (⟨"MistCantonModel", "emit", "(II)V"⟩, 31), (⟨"MistCantonModel", "hasSign", "(I)Z"⟩, 31), (⟨"MistCantonModel", "takeSign", "(I)V"⟩, 31), (⟨"MistCantonModel", "isPerson", "(I)Z"⟩, 31), (⟨"MistCantonModel", "toOne", "(I)I"⟩, 31), (⟨"MistCantonModel", "offOf", "(II)I"⟩, 31), (⟨"MistCantonModel", "snowOn", "(I)I"⟩, 31), (⟨"MistCantonModel", "isEvent", "(I)Z"⟩, 31), (⟨"MistCantonModel", "invitedTo", "(I)I"⟩, 31), (⟨"MistCantonModel", "isToCome", "(II)Z"⟩, 31)]
theorem lw_r5 : ∀ q ∈ lw_privs_5, lw_okq q := List.forall_mem_cons.mpr ⟨lw_p64, List.forall_mem_cons.mpr ⟨lw_p65, List.forall_mem_cons.mpr ⟨lw_p66, List.forall_mem_cons.mpr ⟨lw_p67, List.forall_mem_cons.mpr ⟨lw_p68, List.forall_mem_cons.mpr ⟨lw_p69, List.forall_mem_cons.mpr ⟨lw_p70, List.forall_mem_cons.mpr ⟨lw_p71, List.forall_mem_cons.mpr ⟨lw_p72, List.forall_mem_cons.mpr ⟨lw_p73, List.forall_mem_cons.mpr ⟨lw_p74, List.forall_mem_cons.mpr ⟨lw_p75, List.forall_mem_cons.mpr ⟨lw_p76, List.forall_mem_cons.mpr ⟨lw_p77, List.forall_mem_cons.mpr ⟨lw_p78, List.forall_mem_cons.mpr ⟨lw_p79, fun _ h => absurd h List.not_mem_nil⟩⟩⟩⟩⟩⟩⟩⟩⟩⟩⟩⟩⟩⟩⟩⟩
theorem lw_p80 : lw_okq (⟨"MistCantonModel", "keeps", "()V"⟩, 31) := ⟨⟨by decide +kernel, by decide +kernel⟩, List.mem_of_getElem? (i := 1110) (by decide +kernel), List.mem_of_getElem? (i := 1435) (by decide +kernel), List.mem_of_getElem? (i := 1436) (by decide +kernel)⟩
theorem lw_p81 : lw_okq (⟨"MistCantonModel", "copies", "(III)V"⟩, 31) := ⟨⟨by decide +kernel, by decide +kernel⟩, List.mem_of_getElem? (i := 1110) (by decide +kernel), List.mem_of_getElem? (i := 1439) (by decide +kernel), List.mem_of_getElem? (i := 1440) (by decide +kernel)⟩
theorem lw_p82 : lw_okq (⟨"MistCantonModel", "passes", "(I)I"⟩, 31) := ⟨⟨by decide +kernel, by decide +kernel⟩, List.mem_of_getElem? (i := 1110) (by decide +kernel), List.mem_of_getElem? (i := 1443) (by decide +kernel), List.mem_of_getElem? (i := 1444) (by decide +kernel)⟩
theorem lw_p83 : lw_okq (⟨"MistCantonModel", "passes", "(II)I"⟩, 31) := ⟨⟨by decide +kernel, by decide +kernel⟩, List.mem_of_getElem? (i := 1110) (by decide +kernel), List.mem_of_getElem? (i := 1447) (by decide +kernel), List.mem_of_getElem? (i := 1448) (by decide +kernel)⟩
theorem lw_p84 : lw_okq (⟨"MistCantonModel", "worthAt", "(I)I"⟩, 31) := ⟨⟨by decide +kernel, by decide +kernel⟩, List.mem_of_getElem? (i := 1110) (by decide +kernel), List.mem_of_getElem? (i := 1454) (by decide +kernel), List.mem_of_getElem? (i := 1455) (by decide +kernel)⟩
theorem lw_p85 : lw_okq (⟨"MistCantonModel", "doesCome", "(IIII)Z"⟩, 31) := ⟨⟨by decide +kernel, by decide +kernel⟩, List.mem_of_getElem? (i := 1110) (by decide +kernel), List.mem_of_getElem? (i := 1461) (by decide +kernel), List.mem_of_getElem? (i := 1462) (by decide +kernel)⟩
theorem lw_p86 : lw_okq (⟨"MistCantonModel", "asks", "(II)V"⟩, 31) := ⟨⟨by decide +kernel, by decide +kernel⟩, List.mem_of_getElem? (i := 1110) (by decide +kernel), List.mem_of_getElem? (i := 1473) (by decide +kernel), List.mem_of_getElem? (i := 1474) (by decide +kernel)⟩
theorem lw_p87 : lw_okq (⟨"MistCantonModel", "pairsMet", "(I)I"⟩, 31) := ⟨⟨by decide +kernel, by decide +kernel⟩, List.mem_of_getElem? (i := 1110) (by decide +kernel), List.mem_of_getElem? (i := 1485) (by decide +kernel), List.mem_of_getElem? (i := 1486) (by decide +kernel)⟩
theorem lw_p88 : lw_okq (⟨"MistCantonModel", "sumOf", "(II)I"⟩, 31) := ⟨⟨by decide +kernel, by decide +kernel⟩, List.mem_of_getElem? (i := 1110) (by decide +kernel), List.mem_of_getElem? (i := 1489) (by decide +kernel), List.mem_of_getElem? (i := 1490) (by decide +kernel)⟩
theorem lw_p89 : lw_okq (⟨"MistCantonModel", "triesNow", "()V"⟩, 31) := ⟨⟨by decide +kernel, by decide +kernel⟩, List.mem_of_getElem? (i := 1110) (by decide +kernel), List.mem_of_getElem? (i := 1497) (by decide +kernel), List.mem_of_getElem? (i := 1498) (by decide +kernel)⟩
theorem lw_p90 : lw_okq (⟨"MistCantonModel", "comersOf", "(I)I"⟩, 31) := ⟨⟨by decide +kernel, by decide +kernel⟩, List.mem_of_getElem? (i := 1110) (by decide +kernel), List.mem_of_getElem? (i := 1521) (by decide +kernel), List.mem_of_getElem? (i := 1522) (by decide +kernel)⟩
theorem lw_p91 : lw_okq (⟨"MistCantonModel", "ofOff", "(I)I"⟩, 31) := ⟨⟨by decide +kernel, by decide +kernel⟩, List.mem_of_getElem? (i := 1110) (by decide +kernel), List.mem_of_getElem? (i := 1557) (by decide +kernel), List.mem_of_getElem? (i := 1558) (by decide +kernel)⟩
theorem lw_p92 : lw_okq (⟨"MistCantonModel", "costOf", "(II)I"⟩, 31) := ⟨⟨by decide +kernel, by decide +kernel⟩, List.mem_of_getElem? (i := 1110) (by decide +kernel), List.mem_of_getElem? (i := 1565) (by decide +kernel), List.mem_of_getElem? (i := 1566) (by decide +kernel)⟩
theorem lw_p93 : lw_okq (⟨"MistCantonModel", "lotsNow", "()I"⟩, 31) := ⟨⟨by decide +kernel, by decide +kernel⟩, List.mem_of_getElem? (i := 1110) (by decide +kernel), List.mem_of_getElem? (i := 1580) (by decide +kernel), List.mem_of_getElem? (i := 1581) (by decide +kernel)⟩
theorem lw_p94 : lw_okq (⟨"MistCantonModel", "doesLotCome", "(III)Z"⟩, 31) := ⟨⟨by decide +kernel, by decide +kernel⟩, List.mem_of_getElem? (i := 1110) (by decide +kernel), List.mem_of_getElem? (i := 1584) (by decide +kernel), List.mem_of_getElem? (i := 1585) (by decide +kernel)⟩
theorem lw_p95 : lw_okq (⟨"MistCantonModel", "guessOf", "()I"⟩, 31) := ⟨⟨by decide +kernel, by decide +kernel⟩, List.mem_of_getElem? (i := 1110) (by decide +kernel), List.mem_of_getElem? (i := 1596) (by decide +kernel), List.mem_of_getElem? (i := 1597) (by decide +kernel)⟩
def lw_privs_6 : List (MethodName × Nat) := [(⟨"MistCantonModel", "keeps", "()V"⟩, 31), (⟨"MistCantonModel", "copies", "(III)V"⟩, 31), (⟨"MistCantonModel", "passes", "(I)I"⟩, 31), (⟨"MistCantonModel", "passes", "(II)I"⟩, 31), (⟨"MistCantonModel", "worthAt", "(I)I"⟩, 31), (⟨"MistCantonModel", "doesCome", "(IIII)Z"⟩, 31), (⟨"MistCantonModel", "asks", "(II)V"⟩, 31), (⟨"MistCantonModel", "pairsMet", "(I)I"⟩, 31), (⟨"MistCantonModel", "sumOf", "(II)I"⟩, 31), (⟨"MistCantonModel", "triesNow", "()V"⟩, 31), (⟨"MistCantonModel", "comersOf", "(I)I"⟩, 31), (⟨"MistCantonModel", "ofOff", "(I)I"⟩, 31), (⟨"MistCantonModel", "costOf", "(II)I"⟩, 31), (⟨"MistCantonModel", "lotsNow", "()I"⟩, 31), (⟨"MistCantonModel", "doesLotCome", "(III)Z"⟩, 31), (⟨"MistCantonModel", "guessOf", "()I"⟩, 31)]
theorem lw_r6 : ∀ q ∈ lw_privs_6, lw_okq q := List.forall_mem_cons.mpr ⟨lw_p80, List.forall_mem_cons.mpr ⟨lw_p81, List.forall_mem_cons.mpr ⟨lw_p82, List.forall_mem_cons.mpr ⟨lw_p83, List.forall_mem_cons.mpr ⟨lw_p84, List.forall_mem_cons.mpr ⟨lw_p85, List.forall_mem_cons.mpr ⟨lw_p86, List.forall_mem_cons.mpr ⟨lw_p87, List.forall_mem_cons.mpr ⟨lw_p88, List.forall_mem_cons.mpr ⟨lw_p89, List.forall_mem_cons.mpr ⟨lw_p90, List.forall_mem_cons.mpr ⟨lw_p91, List.forall_mem_cons.mpr ⟨lw_p92, List.forall_mem_cons.mpr ⟨lw_p93, List.forall_mem_cons.mpr ⟨lw_p94, List.forall_mem_cons.mpr ⟨lw_p95, fun _ h => absurd h List.not_mem_nil⟩⟩⟩⟩⟩⟩⟩⟩⟩⟩⟩⟩⟩⟩⟩⟩
theorem lw_p96 : lw_okq (⟨"MistCantonModel", "toHow", "(I)I"⟩, 31) := ⟨⟨by decide +kernel, by decide +kernel⟩, List.mem_of_getElem? (i := 1110) (by decide +kernel), List.mem_of_getElem? (i := 1600) (by decide +kernel), List.mem_of_getElem? (i := 1601) (by decide +kernel)⟩
theorem lw_p97 : lw_okq (⟨"MistCantonModel", "around", "(II)I"⟩, 31) := ⟨⟨by decide +kernel, by decide +kernel⟩, List.mem_of_getElem? (i := 1110) (by decide +kernel), List.mem_of_getElem? (i := 1628) (by decide +kernel), List.mem_of_getElem? (i := 1629) (by decide +kernel)⟩
theorem lw_p98 : lw_okq (⟨"MistCantonModel", "drawsDeed", "()V"⟩, 31) := ⟨⟨by decide +kernel, by decide +kernel⟩, List.mem_of_getElem? (i := 1110) (by decide +kernel), List.mem_of_getElem? (i := 1664) (by decide +kernel), List.mem_of_getElem? (i := 1665) (by decide +kernel)⟩
theorem lw_p99 : lw_okq (⟨"MistCantonModel", "draw", "(I)I"⟩, 31) := ⟨⟨by decide +kernel, by decide +kernel⟩, List.mem_of_getElem? (i := 1110) (by decide +kernel), List.mem_of_getElem? (i := 1668) (by decide +kernel), List.mem_of_getElem? (i := 1669) (by decide +kernel)⟩
def lw_privs_7 : List (MethodName × Nat) := [(⟨"MistCantonModel", "toHow", "(I)I"⟩, 31), (⟨"MistCantonModel", "around", "(II)I"⟩, 31), (⟨"MistCantonModel", "drawsDeed", "()V"⟩, 31), (⟨"MistCantonModel", "draw", "(I)I"⟩, 31)]
theorem lw_r7 : ∀ q ∈ lw_privs_7, lw_okq q := List.forall_mem_cons.mpr ⟨lw_p96, List.forall_mem_cons.mpr ⟨lw_p97, List.forall_mem_cons.mpr ⟨lw_p98, List.forall_mem_cons.mpr ⟨lw_p99, fun _ h => absurd h List.not_mem_nil⟩⟩⟩⟩
def lw_privs : List (MethodName × Nat) := lw_privs_1 ++ (lw_privs_2 ++ (lw_privs_3 ++ (lw_privs_4 ++ (lw_privs_5 ++ (lw_privs_6 ++ (lw_privs_7))))))
def lw_tbl : List Cond := k2_sels lw_privs ++ tables_1
theorem lw_privs_ok : ∀ q ∈ lw_privs, lw_okq q := by
  show ∀ q ∈ lw_privs_1 ++ (lw_privs_2 ++ (lw_privs_3 ++ (lw_privs_4 ++ (lw_privs_5 ++ (lw_privs_6 ++ (lw_privs_7)))))), lw_okq q
  exact List.forall_mem_append.mpr ⟨lw_r1, List.forall_mem_append.mpr ⟨lw_r2, List.forall_mem_append.mpr ⟨lw_r3, List.forall_mem_append.mpr ⟨lw_r4, List.forall_mem_append.mpr ⟨lw_r5, List.forall_mem_append.mpr ⟨lw_r6, lw_r7⟩⟩⟩⟩⟩⟩

def RX0 : String := "MistCanton$Canton"
def TX0 : u_T := fun k => match k with
  | 0 => ("MistCanton$Canton", "persons", "I", false)
  | 1 => ("MistCanton$Canton", "names", "[J", true)
  | 2 => ("MistCanton$Canton", "kinds", "[I", true)
  | 3 => ("MistCanton$Canton", "lots", "[I", true)
  | 4 => ("MistCanton$Canton", "events", "I", false)
  | 5 => ("MistCanton$Canton", "titles", "[J", true)
  | 6 => ("MistCanton$Canton", "weekdays", "[I", true)
  | 7 => ("MistCanton$Canton", "needs", "[I", true)
  | 8 => ("MistCanton$Canton", "guests", "[I", true)
  | 9 => ("MistCanton$Canton", "snowTold", "Z", false)
  | 10 => ("MistCanton$Canton", "snow", "I", false)
  | 11 => ("MistCanton$Canton", "lawTold", "Z", false)
  | _ => ("MistCanton$Canton", "law", "LMistCanton$Law;", true)
def tyX0 : Nat → FieldType := fun k => match k with
  | 0 => .int
  | 1 => .array .long
  | 2 => .array .int
  | 3 => .array .int
  | 4 => .int
  | 5 => .array .long
  | 6 => .array .int
  | 7 => .array .int
  | 8 => .array .int
  | 9 => .boolean
  | 10 => .int
  | 11 => .boolean
  | _ => .object "MistCanton$Law"
theorem nmX0 : ∀ a, a < 13 → ∀ b, b < 13 → a ≠ b → (TX0 a).2.1 ≠ (TX0 b).2.1 := by decide +kernel
theorem tyX0_ok : ∀ k, k < 13 → parseFieldDescriptor (TX0 k).2.2.1 = some (tyX0 k) := by decide +kernel
def RX1 : String := "MistCanton$CantonReader"
def TX1 : u_T := fun k => match k with
  | 0 => ("MistCanton$CantonReader", "tape", "LMistCanton$Tape;", true)
  | _ => ("MistCanton$CantonReader", "lawReader", "LMistCanton$LawReader;", true)
def tyX1 : Nat → FieldType := fun k => match k with
  | 0 => .object "MistCanton$Tape"
  | _ => .object "MistCanton$LawReader"
theorem nmX1 : ∀ a, a < 2 → ∀ b, b < 2 → a ≠ b → (TX1 a).2.1 ≠ (TX1 b).2.1 := by decide +kernel
theorem tyX1_ok : ∀ k, k < 2 → parseFieldDescriptor (TX1 k).2.2.1 = some (tyX1 k) := by decide +kernel
def RX2 : String := "MistCanton$History"
def TX2 : u_T := fun k => match k with
  | 0 => ("MistCanton$History", "ring", "[LMistCanton$State;", true)
  | 1 => ("MistCanton$History", "newest", "I", false)
  | _ => ("MistCanton$History", "length", "I", false)
def tyX2 : Nat → FieldType := fun k => match k with
  | 0 => .array (.object "MistCanton$State")
  | 1 => .int
  | _ => .int
theorem nmX2 : ∀ a, a < 3 → ∀ b, b < 3 → a ≠ b → (TX2 a).2.1 ≠ (TX2 b).2.1 := by decide +kernel
theorem tyX2_ok : ∀ k, k < 3 → parseFieldDescriptor (TX2 k).2.2.1 = some (tyX2 k) := by decide +kernel
def RX3 : String := "MistCanton$Law"
def TX3 : u_T := fun k => match k with
  | 0 => ("MistCanton$Law", "parts", "[I", true)
  | 1 => ("MistCanton$Law", "stack", "[I", true)
  | _ => ("MistCanton$Law", "length", "I", false)
def tyX3 : Nat → FieldType := fun k => match k with
  | 0 => .array .int
  | 1 => .array .int
  | _ => .int
theorem nmX3 : ∀ a, a < 3 → ∀ b, b < 3 → a ≠ b → (TX3 a).2.1 ≠ (TX3 b).2.1 := by decide +kernel
theorem tyX3_ok : ∀ k, k < 3 → parseFieldDescriptor (TX3 k).2.2.1 = some (tyX3 k) := by decide +kernel
def RX4 : String := "MistCanton$LawReader"
def TX4 : u_T := fun k => match k with
  | _ => ("MistCanton$LawReader", "tape", "LMistCanton$Tape;", true)
def tyX4 : Nat → FieldType := fun k => match k with
  | _ => .object "MistCanton$Tape"
theorem nmX4 : ∀ a, a < 1 → ∀ b, b < 1 → a ≠ b → (TX4 a).2.1 ≠ (TX4 b).2.1 := by decide +kernel
theorem tyX4_ok : ∀ k, k < 1 → parseFieldDescriptor (TX4 k).2.2.1 = some (tyX4 k) := by decide +kernel
def RX5 : String := "MistCanton$Mark"
def TX5 : u_T := fun k => match k with
  | 0 => ("MistCanton$Mark", "laid", "Z", false)
  | 1 => ("MistCanton$Mark", "state", "LMistCanton$State;", true)
  | 2 => ("MistCanton$Mark", "sights", "I", false)
  | _ => ("MistCanton$Mark", "sightLots", "I", false)
def tyX5 : Nat → FieldType := fun k => match k with
  | 0 => .boolean
  | 1 => .object "MistCanton$State"
  | 2 => .int
  | _ => .int
theorem nmX5 : ∀ a, a < 4 → ∀ b, b < 4 → a ≠ b → (TX5 a).2.1 ≠ (TX5 b).2.1 := by decide +kernel
theorem tyX5_ok : ∀ k, k < 4 → parseFieldDescriptor (TX5 k).2.2.1 = some (tyX5 k) := by decide +kernel
def RX6 : String := "MistCanton$State"
def TX6 : u_T := fun k => match k with
  | 0 => ("MistCanton$State", "day", "I", false)
  | 1 => ("MistCanton$State", "crimes", "I", false)
  | 2 => ("MistCanton$State", "lots", "[I", true)
  | 3 => ("MistCanton$State", "met", "[I", true)
  | 4 => ("MistCanton$State", "held", "[I", true)
  | _ => ("MistCanton$State", "came", "[I", true)
def tyX6 : Nat → FieldType := fun k => match k with
  | 0 => .int
  | 1 => .int
  | 2 => .array .int
  | 3 => .array .int
  | 4 => .array .int
  | _ => .array .int
theorem nmX6 : ∀ a, a < 6 → ∀ b, b < 6 → a ≠ b → (TX6 a).2.1 ≠ (TX6 b).2.1 := by decide +kernel
theorem tyX6_ok : ∀ k, k < 6 → parseFieldDescriptor (TX6 k).2.2.1 = some (tyX6 k) := by decide +kernel
def RX7 : String := "MistCanton$Tape"
def TX7 : u_T := fun k => match k with
  | 0 => ("MistCanton$Tape", "signs", "[C", true)
  | 1 => ("MistCanton$Tape", "length", "I", false)
  | 2 => ("MistCanton$Tape", "kind", "I", false)
  | 3 => ("MistCanton$Tape", "place", "I", false)
  | 4 => ("MistCanton$Tape", "behind", "I", false)
  | 5 => ("MistCanton$Tape", "word", "J", false)
  | 6 => ("MistCanton$Tape", "number", "I", false)
  | _ => ("MistCanton$Tape", "fault", "I", false)
def tyX7 : Nat → FieldType := fun k => match k with
  | 0 => .array .char
  | 1 => .int
  | 2 => .int
  | 3 => .int
  | 4 => .int
  | 5 => .long
  | 6 => .int
  | _ => .int
theorem nmX7 : ∀ a, a < 8 → ∀ b, b < 8 → a ≠ b → (TX7 a).2.1 ≠ (TX7 b).2.1 := by decide +kernel
theorem tyX7_ok : ∀ k, k < 8 → parseFieldDescriptor (TX7 k).2.2.1 = some (tyX7 k) := by decide +kernel
def RX8 : String := "MistCanton$Week"
def TX8 : u_T := fun k => match k with
  | 0 => ("MistCanton$Week", "acts", "[I", true)
  | 1 => ("MistCanton$Week", "persons", "[I", true)
  | 2 => ("MistCanton$Week", "lots", "[I", true)
  | _ => ("MistCanton$Week", "length", "I", false)
def tyX8 : Nat → FieldType := fun k => match k with
  | 0 => .array .int
  | 1 => .array .int
  | 2 => .array .int
  | _ => .int
theorem nmX8 : ∀ a, a < 4 → ∀ b, b < 4 → a ≠ b → (TX8 a).2.1 ≠ (TX8 b).2.1 := by decide +kernel
theorem tyX8_ok : ∀ k, k < 4 → parseFieldDescriptor (TX8 k).2.2.1 = some (tyX8 k) := by decide +kernel
def RX9 : String := "MistCanton$WeekReader"
def TX9 : u_T := fun k => match k with
  | _ => ("MistCanton$WeekReader", "tape", "LMistCanton$Tape;", true)
def tyX9 : Nat → FieldType := fun k => match k with
  | _ => .object "MistCanton$Tape"
theorem nmX9 : ∀ a, a < 1 → ∀ b, b < 1 → a ≠ b → (TX9 a).2.1 ≠ (TX9 b).2.1 := by decide +kernel
theorem tyX9_ok : ∀ k, k < 1 → parseFieldDescriptor (TX9 k).2.2.1 = some (tyX9 k) := by decide +kernel
def RX10 : String := "MistCanton"
def TX10 : u_T := fun k => match k with
  | 0 => ("MistCanton", "tape", "LMistCanton$Tape;", true)
  | 1 => ("MistCanton", "cantonReader", "LMistCanton$CantonReader;", true)
  | 2 => ("MistCanton", "weekReader", "LMistCanton$WeekReader;", true)
  | 3 => ("MistCanton", "told", "LMistCanton$Canton;", false)
  | 4 => ("MistCanton", "spareCanton", "LMistCanton$Canton;", false)
  | 5 => ("MistCanton", "toldWeek", "LMistCanton$Week;", false)
  | 6 => ("MistCanton", "spareWeek", "LMistCanton$Week;", false)
  | 7 => ("MistCanton", "now", "LMistCanton$State;", true)
  | 8 => ("MistCanton", "ahead", "LMistCanton$State;", true)
  | 9 => ("MistCanton", "unlike", "[I", true)
  | 10 => ("MistCanton", "history", "LMistCanton$History;", true)
  | 11 => ("MistCanton", "marks", "[LMistCanton$Mark;", true)
  | 12 => ("MistCanton", "sights", "I", false)
  | _ => ("MistCanton", "sightLots", "I", false)
def tyX10 : Nat → FieldType := fun k => match k with
  | 0 => .object "MistCanton$Tape"
  | 1 => .object "MistCanton$CantonReader"
  | 2 => .object "MistCanton$WeekReader"
  | 3 => .object "MistCanton$Canton"
  | 4 => .object "MistCanton$Canton"
  | 5 => .object "MistCanton$Week"
  | 6 => .object "MistCanton$Week"
  | 7 => .object "MistCanton$State"
  | 8 => .object "MistCanton$State"
  | 9 => .array .int
  | 10 => .object "MistCanton$History"
  | 11 => .array (.object "MistCanton$Mark")
  | 12 => .int
  | _ => .int
theorem nmX10 : ∀ a, a < 14 → ∀ b, b < 14 → a ≠ b → (TX10 a).2.1 ≠ (TX10 b).2.1 := by decide +kernel
theorem tyX10_ok : ∀ k, k < 14 → parseFieldDescriptor (TX10 k).2.2.1 = some (tyX10 k) := by decide +kernel
def RX11 : String := "MistCantonModel"
def TX11 : u_T := fun k => match k with
  | 0 => ("MistCantonModel", "thrown", "I", false)
  | 1 => ("MistCantonModel", "tape", "[I", true)
  | 2 => ("MistCantonModel", "taped", "I", false)
  | 3 => ("MistCantonModel", "size", "I", false)
  | 4 => ("MistCantonModel", "sort", "[I", true)
  | 5 => ("MistCantonModel", "place", "[I", true)
  | 6 => ("MistCantonModel", "value", "[J", true)
  | 7 => ("MistCantonModel", "at", "I", false)
  | 8 => ("MistCantonModel", "fault", "I", false)
  | 9 => ("MistCantonModel", "words", "[J", true)
  | 10 => ("MistCantonModel", "cantons", "[I", true)
  | 11 => ("MistCantonModel", "op", "[I", true)
  | 12 => ("MistCantonModel", "arg", "[I", true)
  | 13 => ("MistCantonModel", "codes", "I", false)
  | 14 => ("MistCantonModel", "names", "[J", true)
  | 15 => ("MistCantonModel", "readNames", "[J", true)
  | 16 => ("MistCantonModel", "nameOf", "[I", true)
  | 17 => ("MistCantonModel", "readNameOf", "[I", true)
  | 18 => ("MistCantonModel", "namesMany", "I", false)
  | 19 => ("MistCantonModel", "readMany", "I", false)
  | 20 => ("MistCantonModel", "once", "I", false)
  | 21 => ("MistCantonModel", "lines", "[I", true)
  | 22 => ("MistCantonModel", "facts", "[I", true)
  | 23 => ("MistCantonModel", "pile", "[I", true)
  | 24 => ("MistCantonModel", "state", "[I", true)
  | 25 => ("MistCantonModel", "undos", "I", false)
  | 26 => ("MistCantonModel", "isMarked", "[Z", true)
  | 27 => ("MistCantonModel", "ons", "[I", true)
  | 28 => ("MistCantonModel", "goers", "I", false)
  | 29 => ("MistCantonModel", "alike", "[I", true)
  | _ => ("MistCantonModel", "g", "J", false)
def tyX11 : Nat → FieldType := fun k => match k with
  | 0 => .int
  | 1 => .array .int
  | 2 => .int
  | 3 => .int
  | 4 => .array .int
  | 5 => .array .int
  | 6 => .array .long
  | 7 => .int
  | 8 => .int
  | 9 => .array .long
  | 10 => .array .int
  | 11 => .array .int
  | 12 => .array .int
  | 13 => .int
  | 14 => .array .long
  | 15 => .array .long
  | 16 => .array .int
  | 17 => .array .int
  | 18 => .int
  | 19 => .int
  | 20 => .int
  | 21 => .array .int
  | 22 => .array .int
  | 23 => .array .int
  | 24 => .array .int
  | 25 => .int
  | 26 => .array .boolean
  | 27 => .array .int
  | 28 => .int
  | 29 => .array .int
  | _ => .long
theorem nmX11 : ∀ a, a < 31 → ∀ b, b < 31 → a ≠ b → (TX11 a).2.1 ≠ (TX11 b).2.1 := by decide +kernel
theorem tyX11_ok : ∀ k, k < 31 → parseFieldDescriptor (TX11 k).2.2.1 = some (tyX11 k) := by decide +kernel
abbrev vwCl : List vw_C := [(RX0, TX0, 13), (RX1, TX1, 2), (RX2, TX2, 3), (RX3, TX3, 3), (RX4, TX4, 1), (RX5, TX5, 4), (RX6, TX6, 6), (RX7, TX7, 8), (RX8, TX8, 4), (RX9, TX9, 1), (RX10, TX10, 14), (RX11, TX11, 31)]
def am_kds : List (List Nat) := [[0, 2, 2, 2, 0, 2, 2, 2, 2, 0, 0, 0, 2], [2, 2], [2, 0, 0], [2, 2, 0], [2], [0, 2, 0, 0], [0, 0, 2, 2, 2, 2], [2, 0, 0, 0, 0, 1, 0, 0], [2, 2, 2, 0], [2], [2, 2, 2, 2, 2, 2, 2, 2, 2, 2, 2, 2, 0, 0], [0, 2, 0, 0, 2, 2, 2, 0, 0, 2, 2, 2, 2, 0, 2, 2, 2, 2, 0, 0, 0, 2, 2, 2, 2, 0, 2, 2, 0, 2, 1]]
def am_kd (ci k : Nat) : Nat := (am_kds.getD ci []).getD k 0
/-- a word of the tables by its kind -/
def am_isCode : Cond → Option (MethodName × ByteArray × Nat × Option FieldType)
  | .code y b n r => some (y, b, n, r)
  | _ => none
def am_isML : Cond → Option (String × Nat × MethodName)
  | .methodLink a i y => some (a, i, y)
  | _ => none
def am_isFL : Cond → Option (String × Nat × String × String × String)
  | .fieldLink a i b c d => some (a, i, b, c, d)
  | _ => none
def am_isCL : Cond → Option (String × Nat × Int64)
  | .constantLong a i v => some (a, i, v)
  | _ => none
def am_isCI : Cond → Option (String × Nat × Int32)
  | .constant a i v => some (a, i, v)
  | _ => none
def am_isSt : Cond → Option MethodName
  | .static y => some y
  | _ => none
def am_isIn : Cond → Option MethodName
  | .instanceMethod y => some y
  | _ => none
def am_isSe : Cond → Option MethodName
  | .selects c y z => bif (decide (c = y.cls) && decide (y = z)) then some y else none
  | _ => none
def am_isIi : Cond → Option String
  | .initialized c => some c
  | _ => none
/-- all methods of the tables, numbered -/
def am_mi_0 : List (MethodName × ByteArray × Nat × Option FieldType) := [(⟨"MistCanton", "<init>", "()V"⟩, prog_1_method_1_code, 2, (Option.none : Option Jvm.ClassFile.FieldType)),
  (⟨"java/lang/Object", "<init>", "()V"⟩, object_method_1_code, 1, (Option.none : Option Jvm.ClassFile.FieldType)),
  (⟨"MistCanton$Tape", "<init>", "()V"⟩, prog_9_method_1_code, 1, (Option.none : Option Jvm.ClassFile.FieldType)),
  (⟨"MistCanton$CantonReader", "<init>", "(LMistCanton$Tape;)V"⟩, prog_3_method_1_code, 2, (Option.none : Option Jvm.ClassFile.FieldType)),
  (⟨"MistCanton$LawReader", "<init>", "(LMistCanton$Tape;)V"⟩, prog_6_method_1_code, 2, (Option.none : Option Jvm.ClassFile.FieldType)),
  (⟨"MistCanton$WeekReader", "<init>", "(LMistCanton$Tape;)V"⟩, prog_11_method_1_code, 2, (Option.none : Option Jvm.ClassFile.FieldType)),
  (⟨"MistCanton$Canton", "<init>", "()V"⟩, prog_2_method_1_code, 1, (Option.none : Option Jvm.ClassFile.FieldType)),
  (⟨"MistCanton$Law", "<init>", "()V"⟩, prog_5_method_1_code, 1, (Option.none : Option Jvm.ClassFile.FieldType)),
  (⟨"MistCanton$Week", "<init>", "()V"⟩, prog_10_method_1_code, 1, (Option.none : Option Jvm.ClassFile.FieldType)),
  (⟨"MistCanton$State", "<init>", "()V"⟩, prog_8_method_1_code, 1, (Option.none : Option Jvm.ClassFile.FieldType)),
  (⟨"MistCanton$History", "<init>", "()V"⟩, prog_4_method_1_code, 2, (Option.none : Option Jvm.ClassFile.FieldType)),
  (⟨"MistCanton$Mark", "<init>", "()V"⟩, prog_7_method_1_code, 1, (Option.none : Option Jvm.ClassFile.FieldType)),
  (⟨"MistCanton", "feed", "(JJJ)I"⟩, prog_1_method_2_code, 7, (Option.some Jvm.ClassFile.FieldType.int)),
  (⟨"MistCanton$Tape", "append", "(J)V"⟩, prog_9_method_2_code, 6, (Option.none : Option Jvm.ClassFile.FieldType)),
  (⟨"MistCanton", "canton", "()I"⟩, prog_1_method_3_code, 3, (Option.some Jvm.ClassFile.FieldType.int)),
  (⟨"MistCanton$CantonReader", "readInto", "(LMistCanton$Canton;)I"⟩, prog_3_method_2_code, 4, (Option.some Jvm.ClassFile.FieldType.int)),
  (⟨"MistCanton$Canton", "clear", "()V"⟩, prog_2_method_2_code, 1, (Option.none : Option Jvm.ClassFile.FieldType)),
  (⟨"MistCanton$Tape", "begin", "()V"⟩, prog_9_method_3_code, 1, (Option.none : Option Jvm.ClassFile.FieldType)),
  (⟨"MistCanton$Tape", "step", "()V"⟩, prog_9_method_4_code, 1, (Option.none : Option Jvm.ClassFile.FieldType)),
  (⟨"MistCanton$Tape", "stepWord", "()V"⟩, prog_9_method_5_code, 1, (Option.none : Option Jvm.ClassFile.FieldType)),
  (⟨"MistCanton$Tape", "stepNumber", "()V"⟩, prog_9_method_6_code, 1, (Option.none : Option Jvm.ClassFile.FieldType)),
  (⟨"java/lang/String", "indexOf", "(I)I"⟩, prog_22_method_79_code, 2, (Option.some Jvm.ClassFile.FieldType.int)),
  (⟨"java/lang/String", "indexOf", "(II)I"⟩, prog_22_method_80_code, 3, (Option.some Jvm.ClassFile.FieldType.int)),
  (⟨"java/lang/String", "isLatin1", "()Z"⟩, prog_22_method_154_code, 1, (Option.some Jvm.ClassFile.FieldType.boolean)),
  (⟨"java/lang/String", "length", "()I"⟩, prog_22_method_54_code, 1, (Option.some Jvm.ClassFile.FieldType.int)),
  (⟨"java/lang/String", "coder", "()B"⟩, prog_22_method_152_code, 1, (Option.some Jvm.ClassFile.FieldType.byte)),
  (⟨"java/lang/StringLatin1", "indexOf", "([BIII)I"⟩, prog_23_method_22_code, 4, (Option.some Jvm.ClassFile.FieldType.int)),
  (⟨"java/lang/StringLatin1", "canEncode", "(I)Z"⟩, prog_23_method_4_code, 1, (Option.some Jvm.ClassFile.FieldType.boolean)),
  (⟨"java/lang/Math", "max", "(II)I"⟩, prog_20_method_65_code, 2, (Option.some Jvm.ClassFile.FieldType.int)),
  (⟨"java/lang/Math", "min", "(II)I"⟩, prog_20_method_69_code, 2, (Option.some Jvm.ClassFile.FieldType.int)),
  (⟨"java/lang/StringLatin1", "indexOfChar", "([BIII)I"⟩, prog_23_method_23_code, 6, (Option.some Jvm.ClassFile.FieldType.int)),
  (⟨"java/lang/StringUTF16", "indexOf", "([BIII)I"⟩, prog_24_method_40_code, 4, (Option.some Jvm.ClassFile.FieldType.int)),
  (⟨"java/lang/StringUTF16", "indexOfChar", "([BIII)I"⟩, prog_24_method_47_code, 4, (Option.some Jvm.ClassFile.FieldType.int)),
  (⟨"java/lang/StringUTF16", "checkBoundsBeginEnd", "(II[B)V"⟩, prog_24_method_93_code, 3, (Option.none : Option Jvm.ClassFile.FieldType)),
  (⟨"java/lang/StringUTF16", "length", "([B)I"⟩, prog_24_method_6_code, 1, (Option.some Jvm.ClassFile.FieldType.int)),
  (⟨"java/lang/String", "checkBoundsBeginEnd", "(III)V"⟩, prog_22_method_158_code, 3, (Option.none : Option Jvm.ClassFile.FieldType)),
  (⟨"jdk/internal/util/Preconditions", "checkFromToIndex", "(IIILjava/util/function/BiFunction;)I"⟩, prog_29_method_12_code, 4, (Option.some Jvm.ClassFile.FieldType.int)),
  (⟨"java/lang/StringUTF16", "indexOfCharUnsafe", "([BIII)I"⟩, prog_24_method_48_code, 5, (Option.some Jvm.ClassFile.FieldType.int)),
  (⟨"java/lang/StringUTF16", "getChar", "([BI)C"⟩, prog_24_method_5_code, 2, (Option.some Jvm.ClassFile.FieldType.char)),
  (⟨"java/lang/StringUTF16", "indexOfSupplementary", "([BIII)I"⟩, prog_24_method_49_code, 7, (Option.some Jvm.ClassFile.FieldType.int))]
def am_mi_1 : List (MethodName × ByteArray × Nat × Option FieldType) := [(⟨"java/lang/Character", "isValidCodePoint", "(I)Z"⟩, prog_16_method_11_code, 2, (Option.some Jvm.ClassFile.FieldType.boolean)),
  (⟨"java/lang/Character", "highSurrogate", "(I)C"⟩, prog_16_method_28_code, 1, (Option.some Jvm.ClassFile.FieldType.char)),
  (⟨"java/lang/Character", "lowSurrogate", "(I)C"⟩, prog_16_method_29_code, 1, (Option.some Jvm.ClassFile.FieldType.char)),
  (⟨"MistCanton$CantonReader", "readLine", "(LMistCanton$Canton;)Z"⟩, prog_3_method_3_code, 2, (Option.some Jvm.ClassFile.FieldType.boolean)),
  (⟨"MistCanton$Tape", "isWord", "(Ljava/lang/String;)Z"⟩, prog_9_method_7_code, 5, (Option.some Jvm.ClassFile.FieldType.boolean)),
  (⟨"java/lang/String", "charAt", "(I)C"⟩, prog_22_method_56_code, 2, (Option.some Jvm.ClassFile.FieldType.char)),
  (⟨"java/lang/StringLatin1", "charAt", "([BI)C"⟩, prog_23_method_2_code, 2, (Option.some Jvm.ClassFile.FieldType.char)),
  (⟨"java/lang/String", "checkIndex", "(II)V"⟩, prog_22_method_155_code, 2, (Option.none : Option Jvm.ClassFile.FieldType)),
  (⟨"jdk/internal/util/Preconditions", "checkIndex", "(IILjava/util/function/BiFunction;)I"⟩, prog_29_method_11_code, 3, (Option.some Jvm.ClassFile.FieldType.int)),
  (⟨"java/lang/StringUTF16", "charAt", "([BI)C"⟩, prog_24_method_83_code, 2, (Option.some Jvm.ClassFile.FieldType.char)),
  (⟨"java/lang/StringUTF16", "checkIndex", "(I[B)V"⟩, prog_24_method_91_code, 2, (Option.none : Option Jvm.ClassFile.FieldType)),
  (⟨"MistCanton$CantonReader", "readPerson", "(LMistCanton$Canton;)Z"⟩, prog_3_method_5_code, 4, (Option.some Jvm.ClassFile.FieldType.boolean)),
  (⟨"MistCanton$Tape", "refuse", "(I)Z"⟩, prog_9_method_10_code, 2, (Option.some Jvm.ClassFile.FieldType.boolean)),
  (⟨"MistCanton$CantonReader", "findFreshName", "(LMistCanton$Canton;)Z"⟩, prog_3_method_4_code, 3, (Option.some Jvm.ClassFile.FieldType.boolean)),
  (⟨"MistCanton$Tape", "isName", "()Z"⟩, prog_9_method_9_code, 4, (Option.some Jvm.ClassFile.FieldType.boolean)),
  (⟨"MistCanton$Canton", "personNamed", "(J)I"⟩, prog_2_method_3_code, 4, (Option.some Jvm.ClassFile.FieldType.int)),
  (⟨"MistCanton$Canton", "eventNamed", "(J)I"⟩, prog_2_method_4_code, 4, (Option.some Jvm.ClassFile.FieldType.int)),
  (⟨"MistCanton$CantonReader", "kindAtHand", "()I"⟩, prog_3_method_6_code, 1, (Option.some Jvm.ClassFile.FieldType.int)),
  (⟨"MistCanton$Tape", "takeWord", "(Ljava/lang/String;)Z"⟩, prog_9_method_11_code, 2, (Option.some Jvm.ClassFile.FieldType.boolean)),
  (⟨"MistCanton$Tape", "findNumber", "(II)Z"⟩, prog_9_method_13_code, 3, (Option.some Jvm.ClassFile.FieldType.boolean)),
  (⟨"MistCanton", "isWithin", "(III)Z"⟩, prog_1_method_11_code, 3, (Option.some Jvm.ClassFile.FieldType.boolean)),
  (⟨"MistCanton$Tape", "takeSign", "(C)Z"⟩, prog_9_method_12_code, 2, (Option.some Jvm.ClassFile.FieldType.boolean)),
  (⟨"MistCanton$Tape", "isSign", "(C)Z"⟩, prog_9_method_8_code, 2, (Option.some Jvm.ClassFile.FieldType.boolean)),
  (⟨"MistCanton$CantonReader", "readEvent", "(LMistCanton$Canton;)Z"⟩, prog_3_method_7_code, 3, (Option.some Jvm.ClassFile.FieldType.boolean)),
  (⟨"MistCanton$CantonReader", "readComes", "(LMistCanton$Canton;)Z"⟩, prog_3_method_8_code, 4, (Option.some Jvm.ClassFile.FieldType.boolean)),
  (⟨"MistCanton", "hasBit", "(II)Z"⟩, prog_1_method_12_code, 2, (Option.some Jvm.ClassFile.FieldType.boolean)),
  (⟨"MistCanton$CantonReader", "readSnow", "(LMistCanton$Canton;)Z"⟩, prog_3_method_9_code, 4, (Option.some Jvm.ClassFile.FieldType.boolean)),
  (⟨"MistCanton$CantonReader", "readSnowDay", "(LMistCanton$Canton;)Z"⟩, prog_3_method_10_code, 3, (Option.some Jvm.ClassFile.FieldType.boolean)),
  (⟨"MistCanton$Canton", "snows", "(I)Z"⟩, prog_2_method_5_code, 2, (Option.some Jvm.ClassFile.FieldType.boolean)),
  (⟨"java/lang/Integer", "bitCount", "(I)I"⟩, prog_19_method_49_code, 1, (Option.some Jvm.ClassFile.FieldType.int)),
  (⟨"MistCanton$LawReader", "readGoes", "(LMistCanton$Canton;)Z"⟩, prog_6_method_2_code, 2, (Option.some Jvm.ClassFile.FieldType.boolean)),
  (⟨"MistCanton$LawReader", "readLaw", "(LMistCanton$Law;I)Z"⟩, prog_6_method_3_code, 6, (Option.some Jvm.ClassFile.FieldType.boolean)),
  (⟨"MistCanton$LawReader", "readTest", "(LMistCanton$Law;I)Z"⟩, prog_6_method_4_code, 5, (Option.some Jvm.ClassFile.FieldType.boolean)),
  (⟨"MistCanton$LawReader", "readSum", "(LMistCanton$Law;I)Z"⟩, prog_6_method_5_code, 6, (Option.some Jvm.ClassFile.FieldType.boolean)),
  (⟨"MistCanton$LawReader", "readProduct", "(LMistCanton$Law;I)Z"⟩, prog_6_method_6_code, 5, (Option.some Jvm.ClassFile.FieldType.boolean)),
  (⟨"MistCanton$LawReader", "readPart", "(LMistCanton$Law;I)Z"⟩, prog_6_method_7_code, 7, (Option.some Jvm.ClassFile.FieldType.boolean)),
  (⟨"MistCanton$LawReader", "factAtHand", "()I"⟩, prog_6_method_8_code, 1, (Option.some Jvm.ClassFile.FieldType.int)),
  (⟨"MistCanton$Law", "add", "(I)V"⟩, prog_5_method_2_code, 2, (Option.none : Option Jvm.ClassFile.FieldType)),
  (⟨"MistCanton", "beginAnew", "()V"⟩, prog_1_method_5_code, 2, (Option.none : Option Jvm.ClassFile.FieldType)),
  (⟨"MistCanton$State", "begin", "(LMistCanton$Canton;)V"⟩, prog_8_method_2_code, 3, (Option.none : Option Jvm.ClassFile.FieldType))]
def am_mi_2 : List (MethodName × ByteArray × Nat × Option FieldType) := [(⟨"MistCanton", "week", "()I"⟩, prog_1_method_4_code, 3, (Option.some Jvm.ClassFile.FieldType.int)),
  (⟨"MistCanton$WeekReader", "readInto", "(LMistCanton$Week;LMistCanton$Canton;)I"⟩, prog_11_method_2_code, 5, (Option.some Jvm.ClassFile.FieldType.int)),
  (⟨"MistCanton$WeekReader", "readLine", "(LMistCanton$Week;LMistCanton$Canton;)Z"⟩, prog_11_method_3_code, 5, (Option.some Jvm.ClassFile.FieldType.boolean)),
  (⟨"MistCanton$WeekReader", "actAtHand", "()I"⟩, prog_11_method_4_code, 1, (Option.some Jvm.ClassFile.FieldType.int)),
  (⟨"MistCanton$WeekReader", "readPerson", "(LMistCanton$Week;LMistCanton$Canton;)Z"⟩, prog_11_method_5_code, 4, (Option.some Jvm.ClassFile.FieldType.boolean)),
  (⟨"MistCanton$WeekReader", "readLot", "(LMistCanton$Week;)Z"⟩, prog_11_method_6_code, 2, (Option.some Jvm.ClassFile.FieldType.boolean)),
  (⟨"MistCanton", "person", "(II)I"⟩, prog_1_method_6_code, 3, (Option.some Jvm.ClassFile.FieldType.int)),
  (⟨"MistCanton", "isPerson", "(I)Z"⟩, prog_1_method_9_code, 2, (Option.some Jvm.ClassFile.FieldType.boolean)),
  (⟨"MistCanton$Canton", "weekdayTo", "(ILMistCanton$State;Z)I"⟩, prog_2_method_7_code, 5, (Option.some Jvm.ClassFile.FieldType.int)),
  (⟨"MistCanton$Canton", "offOf", "(ILMistCanton$State;)I"⟩, prog_2_method_6_code, 3, (Option.some Jvm.ClassFile.FieldType.int)),
  (⟨"java/lang/Math", "floorMod", "(II)I"⟩, prog_20_method_50_code, 3, (Option.some Jvm.ClassFile.FieldType.int)),
  (⟨"MistCanton$Canton", "eventsOf", "(I)I"⟩, prog_2_method_8_code, 4, (Option.some Jvm.ClassFile.FieldType.int)),
  (⟨"MistCanton", "event", "(II)I"⟩, prog_1_method_7_code, 3, (Option.some Jvm.ClassFile.FieldType.int)),
  (⟨"MistCanton", "isEvent", "(I)Z"⟩, prog_1_method_10_code, 2, (Option.some Jvm.ClassFile.FieldType.boolean)),
  (⟨"MistCanton", "count", "(I)I"⟩, prog_1_method_8_code, 2, (Option.some Jvm.ClassFile.FieldType.int)),
  (⟨"MistCanton$State", "heldInAll", "()I"⟩, prog_8_method_7_code, 3, (Option.some Jvm.ClassFile.FieldType.int)),
  (⟨"MistCanton$State", "pairsMet", "()I"⟩, prog_8_method_8_code, 3, (Option.some Jvm.ClassFile.FieldType.int)),
  (⟨"MistCanton", "day", "()I"⟩, prog_1_method_13_code, 1, (Option.some Jvm.ClassFile.FieldType.int)),
  (⟨"MistCanton$History", "keep", "(LMistCanton$State;)V"⟩, prog_4_method_2_code, 2, (Option.none : Option Jvm.ClassFile.FieldType)),
  (⟨"MistCanton$State", "copy", "(LMistCanton$State;)V"⟩, prog_8_method_3_code, 3, (Option.none : Option Jvm.ClassFile.FieldType)),
  (⟨"MistCanton$Canton", "passDay", "(LMistCanton$State;Z)I"⟩, prog_2_method_11_code, 5, (Option.some Jvm.ClassFile.FieldType.int)),
  (⟨"MistCanton$Canton", "gather", "(LMistCanton$State;Z)V"⟩, prog_2_method_12_code, 6, (Option.none : Option Jvm.ClassFile.FieldType)),
  (⟨"MistCanton$Canton", "drawing", "(II)I"⟩, prog_2_method_13_code, 5, (Option.some Jvm.ClassFile.FieldType.int)),
  (⟨"MistCanton$Canton", "isDayOf", "(III)Z"⟩, prog_2_method_14_code, 3, (Option.some Jvm.ClassFile.FieldType.boolean)),
  (⟨"MistCanton$Canton", "goesOut", "(ILMistCanton$State;Z)Z"⟩, prog_2_method_15_code, 5, (Option.some Jvm.ClassFile.FieldType.boolean)),
  (⟨"MistCanton$Law", "value", "(IIII)I"⟩, prog_5_method_3_code, 8, (Option.some Jvm.ClassFile.FieldType.int)),
  (⟨"MistCanton$Law", "fact", "(IIIII)I"⟩, prog_5_method_4_code, 5, (Option.some Jvm.ClassFile.FieldType.int)),
  (⟨"MistCanton$Law", "joined", "(III)I"⟩, prog_5_method_5_code, 3, (Option.some Jvm.ClassFile.FieldType.int)),
  (⟨"MistCanton$State", "introduce", "(I)V"⟩, prog_8_method_5_code, 3, (Option.none : Option Jvm.ClassFile.FieldType)),
  (⟨"MistCanton", "lot", "(II)I"⟩, prog_1_method_14_code, 4, (Option.some Jvm.ClassFile.FieldType.int)),
  (⟨"MistCanton", "ask", "(I)I"⟩, prog_1_method_15_code, 2, (Option.some Jvm.ClassFile.FieldType.int)),
  (⟨"MistCanton$State", "answer", "(I)V"⟩, prog_8_method_4_code, 2, (Option.none : Option Jvm.ClassFile.FieldType)),
  (⟨"MistCanton", "undo", "()Z"⟩, prog_1_method_16_code, 1, (Option.some Jvm.ClassFile.FieldType.boolean)),
  (⟨"MistCanton$History", "bringBack", "(LMistCanton$State;)Z"⟩, prog_4_method_3_code, 2, (Option.some Jvm.ClassFile.FieldType.boolean)),
  (⟨"MistCanton", "mark", "(IZ)Z"⟩, prog_1_method_17_code, 4, (Option.some Jvm.ClassFile.FieldType.boolean)),
  (⟨"MistCanton$Mark", "lay", "(LMistCanton$State;II)V"⟩, prog_7_method_2_code, 4, (Option.none : Option Jvm.ClassFile.FieldType)),
  (⟨"MistCanton", "judged", "(I)I"⟩, prog_1_method_18_code, 6, (Option.some Jvm.ClassFile.FieldType.int)),
  (⟨"MistCanton", "followLine", "(I)I"⟩, prog_1_method_19_code, 3, (Option.some Jvm.ClassFile.FieldType.int)),
  (⟨"MistCanton", "passAhead", "()I"⟩, prog_1_method_20_code, 1, (Option.some Jvm.ClassFile.FieldType.int)),
  (⟨"MistCanton", "attends", "(II)I"⟩, prog_1_method_21_code, 4, (Option.some Jvm.ClassFile.FieldType.int))]
def am_mi_3 : List (MethodName × ByteArray × Nat × Option FieldType) := [(⟨"MistCanton", "next", "(II)I"⟩, prog_1_method_22_code, 4, (Option.some Jvm.ClassFile.FieldType.int)),
  (⟨"MistCanton", "quorum", "(I)I"⟩, prog_1_method_23_code, 3, (Option.some Jvm.ClassFile.FieldType.int)),
  (⟨"MistCanton", "held", "(II)I"⟩, prog_1_method_24_code, 3, (Option.some Jvm.ClassFile.FieldType.int)),
  (⟨"MistCanton", "timesHeld", "(II)I"⟩, prog_1_method_25_code, 4, (Option.some Jvm.ClassFile.FieldType.int)),
  (⟨"MistCanton", "last", "(I)I"⟩, prog_1_method_26_code, 4, (Option.some Jvm.ClassFile.FieldType.int)),
  (⟨"MistCanton", "meet", "(II)I"⟩, prog_1_method_27_code, 4, (Option.some Jvm.ClassFile.FieldType.int)),
  (⟨"MistCanton", "idle", "(I)I"⟩, prog_1_method_28_code, 4, (Option.some Jvm.ClassFile.FieldType.int)),
  (⟨"MistCanton$State", "comings", "()I"⟩, prog_8_method_9_code, 3, (Option.some Jvm.ClassFile.FieldType.int)),
  (⟨"MistCanton", "busy", "()I"⟩, prog_1_method_29_code, 5, (Option.some Jvm.ClassFile.FieldType.int)),
  (⟨"MistCanton", "family", "(I)I"⟩, prog_1_method_30_code, 4, (Option.some Jvm.ClassFile.FieldType.int)),
  (⟨"MistCanton", "lonely", "()I"⟩, prog_1_method_31_code, 3, (Option.some Jvm.ClassFile.FieldType.int)),
  (⟨"MistCanton", "move", "(I)I"⟩, prog_1_method_32_code, 7, (Option.some Jvm.ClassFile.FieldType.int)),
  (⟨"MistCanton", "twins", "()I"⟩, prog_1_method_33_code, 4, (Option.some Jvm.ClassFile.FieldType.int)),
  (⟨"MistCanton$State", "othersThan", "(I)I"⟩, prog_8_method_6_code, 4, (Option.some Jvm.ClassFile.FieldType.int)),
  (⟨"MistCanton", "chance", "(III)I"⟩, prog_1_method_34_code, 6, (Option.some Jvm.ClassFile.FieldType.int)),
  (⟨"MistCanton", "isHeldUnder", "(III)Z"⟩, prog_1_method_35_code, 5, (Option.some Jvm.ClassFile.FieldType.boolean)),
  (⟨"MistCanton", "weight", "(III)I"⟩, prog_1_method_36_code, 5, (Option.some Jvm.ClassFile.FieldType.int)),
  (⟨"MistCanton", "years", "(III)I"⟩, prog_1_method_37_code, 7, (Option.some Jvm.ClassFile.FieldType.int)),
  (⟨"MistCanton", "drawLots", "(J)J"⟩, prog_1_method_38_code, 7, (Option.some Jvm.ClassFile.FieldType.long)),
  (⟨"MistCanton", "drawn", "(J)J"⟩, prog_1_method_39_code, 2, (Option.some Jvm.ClassFile.FieldType.long)),
  (⟨"MistCanton", "below", "(JI)I"⟩, prog_1_method_40_code, 3, (Option.some Jvm.ClassFile.FieldType.int)),
  (⟨"MistCanton", "group", "(I)I"⟩, prog_1_method_41_code, 5, (Option.some Jvm.ClassFile.FieldType.int)),
  (⟨"MistCanton", "personsOf", "(I)I"⟩, prog_1_method_42_code, 4, (Option.some Jvm.ClassFile.FieldType.int)),
  (⟨"MistCanton", "least", "(II)I"⟩, prog_1_method_43_code, 7, (Option.some Jvm.ClassFile.FieldType.int)),
  (⟨"MistCanton", "costOf", "(II)I"⟩, prog_1_method_44_code, 7, (Option.some Jvm.ClassFile.FieldType.int)),
  (⟨"MistCanton", "guestsAt", "(III)I"⟩, prog_1_method_45_code, 7, (Option.some Jvm.ClassFile.FieldType.int)),
  (⟨"java/lang/Math", "abs", "(I)I"⟩, prog_20_method_59_code, 1, (Option.some Jvm.ClassFile.FieldType.int)),
  (⟨"MistCanton", "leads", "(I)I"⟩, prog_1_method_46_code, 2, (Option.some Jvm.ClassFile.FieldType.int)),
  (⟨"MistCanton", "see", "(IIZ)Z"⟩, prog_1_method_47_code, 5, (Option.some Jvm.ClassFile.FieldType.boolean)),
  (⟨"MistCanton$Canton", "lotsComing", "(II)I"⟩, prog_2_method_10_code, 6, (Option.some Jvm.ClassFile.FieldType.int)),
  (⟨"MistCanton", "lots", "()I"⟩, prog_1_method_48_code, 1, (Option.some Jvm.ClassFile.FieldType.int)),
  (⟨"MistCanton", "look", "()I"⟩, prog_1_method_49_code, 8, (Option.some Jvm.ClassFile.FieldType.int)),
  (⟨"MistCanton", "guess", "()I"⟩, prog_1_method_51_code, 5, (Option.some Jvm.ClassFile.FieldType.int)),
  (⟨"MistCanton", "personsAt", "(I)I"⟩, prog_1_method_50_code, 5, (Option.some Jvm.ClassFile.FieldType.int)),
  (⟨"MistCanton", "wrong", "()I"⟩, prog_1_method_52_code, 2, (Option.some Jvm.ClassFile.FieldType.int)),
  (⟨"MistCanton", "spread", "()I"⟩, prog_1_method_53_code, 3, (Option.some Jvm.ClassFile.FieldType.int)),
  (⟨"MistCanton", "pairs", "()I"⟩, prog_1_method_54_code, 4, (Option.some Jvm.ClassFile.FieldType.int)),
  (⟨"MistCanton", "right", "()I"⟩, prog_1_method_55_code, 1, (Option.some Jvm.ClassFile.FieldType.int)),
  (⟨"MistCanton", "steady", "()I"⟩, prog_1_method_56_code, 5, (Option.some Jvm.ClassFile.FieldType.int)),
  (⟨"MistCanton", "daysRight", "(I)I"⟩, prog_1_method_57_code, 4, (Option.some Jvm.ClassFile.FieldType.int))]
def am_mi_4 : List (MethodName × ByteArray × Nat × Option FieldType) := [(⟨"MistCanton", "through", "(II)I"⟩, prog_1_method_58_code, 5, (Option.some Jvm.ClassFile.FieldType.int)),
  (⟨"MistCanton", "withTheirs", "(I)I"⟩, prog_1_method_59_code, 4, (Option.some Jvm.ClassFile.FieldType.int)),
  (⟨"MistCanton", "wedded", "()I"⟩, prog_1_method_60_code, 3, (Option.some Jvm.ClassFile.FieldType.int)),
  (⟨"MistCanton", "circles", "()I"⟩, prog_1_method_61_code, 4, (Option.some Jvm.ClassFile.FieldType.int)),
  (⟨"MistCanton", "circleOf", "(I)I"⟩, prog_1_method_62_code, 4, (Option.some Jvm.ClassFile.FieldType.int)),
  (⟨"MistCanton", "shared", "(II)I"⟩, prog_1_method_63_code, 3, (Option.some Jvm.ClassFile.FieldType.int)),
  (⟨"MistCanton", "cover", "()I"⟩, prog_1_method_64_code, 4, (Option.some Jvm.ClassFile.FieldType.int)),
  (⟨"MistCanton$Canton", "guestsOf", "(I)I"⟩, prog_2_method_9_code, 4, (Option.some Jvm.ClassFile.FieldType.int)),
  (⟨"MistCanton", "rests", "(IIII)I"⟩, prog_1_method_65_code, 9, (Option.some Jvm.ClassFile.FieldType.int)),
  (⟨"java/lang/Throwable", "<init>", "()V"⟩, prog_25_method_1_code, 1, (Option.none : Option Jvm.ClassFile.FieldType)),
  (⟨"java/util/NoSuchElementException", "<init>", "(Ljava/lang/String;)V"⟩, prog_28_method_4_code, 2, (Option.none : Option Jvm.ClassFile.FieldType)),
  (⟨"java/lang/RuntimeException", "<init>", "(Ljava/lang/String;)V"⟩, prog_21_method_2_code, 2, (Option.none : Option Jvm.ClassFile.FieldType)),
  (⟨"java/lang/Exception", "<init>", "(Ljava/lang/String;)V"⟩, prog_18_method_2_code, 2, (Option.none : Option Jvm.ClassFile.FieldType)),
  (⟨"java/lang/Throwable", "<init>", "(Ljava/lang/String;)V"⟩, prog_25_method_2_code, 2, (Option.none : Option Jvm.ClassFile.FieldType)),
  (⟨"MistCanton", "staysWith", "(IIIII)Z"⟩, prog_1_method_66_code, 5, (Option.some Jvm.ClassFile.FieldType.boolean)),
  (⟨"MistCanton", "gain", "(IIIII)I"⟩, prog_1_method_67_code, 5, (Option.some Jvm.ClassFile.FieldType.int)),
  (⟨"MistCantonModel", "thrown", "()I"⟩, prog_13_method_1_code, 1, (Option.some Jvm.ClassFile.FieldType.int)),
  (⟨"MistCantonModel", "feed", "(JJJ)I"⟩, prog_13_method_2_code, 7, (Option.some Jvm.ClassFile.FieldType.int)),
  (⟨"MistCantonModel", "lay", "(J)V"⟩, prog_13_method_3_code, 5, (Option.none : Option Jvm.ClassFile.FieldType)),
  (⟨"MistCantonModel", "<init>", "()V"⟩, prog_13_method_4_code, 1, (Option.none : Option Jvm.ClassFile.FieldType)),
  (⟨"MistCantonModel", "standsAsAlways", "(I)V"⟩, prog_13_method_18_code, 3, (Option.none : Option Jvm.ClassFile.FieldType)),
  (⟨"MistCantonModel", "begins", "()V"⟩, prog_13_method_43_code, 2, (Option.none : Option Jvm.ClassFile.FieldType)),
  (⟨"MistCantonModel", "onsAsTold", "()V"⟩, prog_13_method_42_code, 2, (Option.none : Option Jvm.ClassFile.FieldType)),
  (⟨"MistCantonModel", "events", "()I"⟩, prog_13_method_46_code, 1, (Option.some Jvm.ClassFile.FieldType.int)),
  (⟨"MistCantonModel", "eventOf", "(II)I"⟩, prog_13_method_48_code, 3, (Option.some Jvm.ClassFile.FieldType.int)),
  (⟨"MistCantonModel", "starts", "(I)V"⟩, prog_13_method_41_code, 3, (Option.none : Option Jvm.ClassFile.FieldType)),
  (⟨"MistCantonModel", "persons", "()I"⟩, prog_13_method_45_code, 1, (Option.some Jvm.ClassFile.FieldType.int)),
  (⟨"MistCantonModel", "personOf", "(II)I"⟩, prog_13_method_47_code, 3, (Option.some Jvm.ClassFile.FieldType.int)),
  (⟨"MistCantonModel", "canton", "()I"⟩, prog_13_method_26_code, 2, (Option.some Jvm.ClassFile.FieldType.int)),
  (⟨"MistCantonModel", "cutAll", "()V"⟩, prog_13_method_9_code, 7, (Option.none : Option Jvm.ClassFile.FieldType)),
  (⟨"MistCantonModel", "isLetter", "(I)Z"⟩, prog_13_method_5_code, 1, (Option.some Jvm.ClassFile.FieldType.boolean)),
  (⟨"MistCantonModel", "rank", "(I)I"⟩, prog_13_method_7_code, 1, (Option.some Jvm.ClassFile.FieldType.int)),
  (⟨"MistCantonModel", "isDigit", "(I)Z"⟩, prog_13_method_6_code, 1, (Option.some Jvm.ClassFile.FieldType.boolean)),
  (⟨"MistCantonModel", "isSignOf", "(I)Z"⟩, prog_13_method_8_code, 1, (Option.some Jvm.ClassFile.FieldType.boolean)),
  (⟨"MistCantonModel", "readLine", "()V"⟩, prog_13_method_27_code, 4, (Option.none : Option Jvm.ClassFile.FieldType)),
  (⟨"MistCantonModel", "isWord", "(I)Z"⟩, prog_13_method_12_code, 2, (Option.some Jvm.ClassFile.FieldType.boolean)),
  (⟨"MistCantonModel", "readName", "(III)V"⟩, prog_13_method_28_code, 5, (Option.none : Option Jvm.ClassFile.FieldType)),
  (⟨"MistCantonModel", "wrong", "(I)V"⟩, prog_13_method_10_code, 2, (Option.none : Option Jvm.ClassFile.FieldType)),
  (⟨"MistCantonModel", "isName", "()Z"⟩, prog_13_method_23_code, 1, (Option.some Jvm.ClassFile.FieldType.boolean)),
  (⟨"MistCantonModel", "wordHere", "(II)I"⟩, prog_13_method_21_code, 5, (Option.some Jvm.ClassFile.FieldType.int))]
def am_mi_5 : List (MethodName × ByteArray × Nat × Option FieldType) := [(⟨"MistCantonModel", "nameAt", "(Z)I"⟩, prog_13_method_24_code, 3, (Option.some Jvm.ClassFile.FieldType.int)),
  (⟨"MistCantonModel", "takeOne", "(II)I"⟩, prog_13_method_22_code, 4, (Option.some Jvm.ClassFile.FieldType.int)),
  (⟨"MistCantonModel", "takeAfter", "(III)I"⟩, prog_13_method_20_code, 4, (Option.some Jvm.ClassFile.FieldType.int)),
  (⟨"MistCantonModel", "takeWord", "(I)V"⟩, prog_13_method_16_code, 2, (Option.none : Option Jvm.ClassFile.FieldType)),
  (⟨"MistCantonModel", "hasWord", "(I)Z"⟩, prog_13_method_15_code, 3, (Option.some Jvm.ClassFile.FieldType.boolean)),
  (⟨"MistCantonModel", "takeNumber", "(II)I"⟩, prog_13_method_19_code, 3, (Option.some Jvm.ClassFile.FieldType.int)),
  (⟨"MistCantonModel", "takeTold", "(ZII)I"⟩, prog_13_method_25_code, 5, (Option.some Jvm.ClassFile.FieldType.int)),
  (⟨"MistCantonModel", "within", "(III)Z"⟩, prog_13_method_17_code, 3, (Option.some Jvm.ClassFile.FieldType.boolean)),
  (⟨"MistCantonModel", "readOnce", "()V"⟩, prog_13_method_29_code, 2, (Option.none : Option Jvm.ClassFile.FieldType)),
  (⟨"MistCantonModel", "readSnow", "()V"⟩, prog_13_method_30_code, 3, (Option.none : Option Jvm.ClassFile.FieldType)),
  (⟨"MistCantonModel", "whole", "(I)V"⟩, prog_13_method_33_code, 3, (Option.none : Option Jvm.ClassFile.FieldType)),
  (⟨"MistCantonModel", "test", "(I)V"⟩, prog_13_method_34_code, 3, (Option.none : Option Jvm.ClassFile.FieldType)),
  (⟨"MistCantonModel", "sums", "(I)V"⟩, prog_13_method_35_code, 3, (Option.none : Option Jvm.ClassFile.FieldType)),
  (⟨"MistCantonModel", "products", "(I)V"⟩, prog_13_method_36_code, 2, (Option.none : Option Jvm.ClassFile.FieldType)),
  (⟨"MistCantonModel", "takePart", "(I)V"⟩, prog_13_method_37_code, 4, (Option.none : Option Jvm.ClassFile.FieldType)),
  (⟨"MistCantonModel", "isSign", "(I)Z"⟩, prog_13_method_11_code, 2, (Option.some Jvm.ClassFile.FieldType.boolean)),
  (⟨"MistCantonModel", "emit", "(II)V"⟩, prog_13_method_32_code, 3, (Option.none : Option Jvm.ClassFile.FieldType)),
  (⟨"MistCantonModel", "hasSign", "(I)Z"⟩, prog_13_method_14_code, 3, (Option.some Jvm.ClassFile.FieldType.boolean)),
  (⟨"MistCantonModel", "takeSign", "(I)V"⟩, prog_13_method_13_code, 2, (Option.none : Option Jvm.ClassFile.FieldType)),
  (⟨"MistCantonModel", "week", "()I"⟩, prog_13_method_31_code, 4, (Option.some Jvm.ClassFile.FieldType.int)),
  (⟨"MistCantonModel", "person", "(II)I"⟩, prog_13_method_63_code, 3, (Option.some Jvm.ClassFile.FieldType.int)),
  (⟨"MistCantonModel", "isPerson", "(I)Z"⟩, prog_13_method_49_code, 2, (Option.some Jvm.ClassFile.FieldType.boolean)),
  (⟨"MistCantonModel", "toOne", "(I)I"⟩, prog_13_method_62_code, 2, (Option.some Jvm.ClassFile.FieldType.int)),
  (⟨"MistCantonModel", "offOf", "(II)I"⟩, prog_13_method_53_code, 3, (Option.some Jvm.ClassFile.FieldType.int)),
  (⟨"MistCantonModel", "snowOn", "(I)I"⟩, prog_13_method_52_code, 2, (Option.some Jvm.ClassFile.FieldType.int)),
  (⟨"MistCantonModel", "dayTo", "(III)I"⟩, prog_13_method_54_code, 3, (Option.some Jvm.ClassFile.FieldType.int)),
  (⟨"MistCantonModel", "event", "(II)I"⟩, prog_13_method_64_code, 3, (Option.some Jvm.ClassFile.FieldType.int)),
  (⟨"MistCantonModel", "isEvent", "(I)Z"⟩, prog_13_method_50_code, 2, (Option.some Jvm.ClassFile.FieldType.boolean)),
  (⟨"MistCantonModel", "invitedTo", "(I)I"⟩, prog_13_method_56_code, 4, (Option.some Jvm.ClassFile.FieldType.int)),
  (⟨"MistCantonModel", "isToCome", "(II)Z"⟩, prog_13_method_55_code, 3, (Option.some Jvm.ClassFile.FieldType.boolean)),
  (⟨"MistCantonModel", "day", "()I"⟩, prog_13_method_65_code, 1, (Option.some Jvm.ClassFile.FieldType.int)),
  (⟨"MistCantonModel", "keeps", "()V"⟩, prog_13_method_44_code, 2, (Option.none : Option Jvm.ClassFile.FieldType)),
  (⟨"MistCantonModel", "copies", "(III)V"⟩, prog_13_method_40_code, 5, (Option.none : Option Jvm.ClassFile.FieldType)),
  (⟨"MistCantonModel", "passes", "(I)I"⟩, prog_13_method_59_code, 2, (Option.some Jvm.ClassFile.FieldType.int)),
  (⟨"MistCantonModel", "passes", "(II)I"⟩, prog_13_method_58_code, 8, (Option.some Jvm.ClassFile.FieldType.int)),
  (⟨"MistCantonModel", "bits", "(I)I"⟩, prog_13_method_51_code, 3, (Option.some Jvm.ClassFile.FieldType.int)),
  (⟨"MistCantonModel", "worthAt", "(I)I"⟩, prog_13_method_38_code, 5, (Option.some Jvm.ClassFile.FieldType.int)),
  (⟨"MistCantonModel", "both", "(III)I"⟩, prog_13_method_39_code, 3, (Option.some Jvm.ClassFile.FieldType.int)),
  (⟨"MistCantonModel", "doesCome", "(IIII)Z"⟩, prog_13_method_57_code, 8, (Option.some Jvm.ClassFile.FieldType.boolean)),
  (⟨"MistCantonModel", "lot", "(II)I"⟩, prog_13_method_66_code, 4, (Option.some Jvm.ClassFile.FieldType.int))]
def am_mi_6 : List (MethodName × ByteArray × Nat × Option FieldType) := [(⟨"MistCantonModel", "ask", "(I)I"⟩, prog_13_method_68_code, 2, (Option.some Jvm.ClassFile.FieldType.int)),
  (⟨"MistCantonModel", "asks", "(II)V"⟩, prog_13_method_67_code, 3, (Option.none : Option Jvm.ClassFile.FieldType)),
  (⟨"MistCantonModel", "undo", "()Z"⟩, prog_13_method_69_code, 1, (Option.some Jvm.ClassFile.FieldType.boolean)),
  (⟨"MistCantonModel", "judged", "(I)I"⟩, prog_13_method_70_code, 9, (Option.some Jvm.ClassFile.FieldType.int)),
  (⟨"MistCantonModel", "pairsMet", "(I)I"⟩, prog_13_method_61_code, 4, (Option.some Jvm.ClassFile.FieldType.int)),
  (⟨"MistCantonModel", "sumOf", "(II)I"⟩, prog_13_method_60_code, 5, (Option.some Jvm.ClassFile.FieldType.int)),
  (⟨"MistCantonModel", "attends", "(II)I"⟩, prog_13_method_72_code, 4, (Option.some Jvm.ClassFile.FieldType.int)),
  (⟨"MistCantonModel", "triesNow", "()V"⟩, prog_13_method_71_code, 1, (Option.none : Option Jvm.ClassFile.FieldType)),
  (⟨"MistCantonModel", "next", "(II)I"⟩, prog_13_method_73_code, 4, (Option.some Jvm.ClassFile.FieldType.int)),
  (⟨"MistCantonModel", "quorum", "(I)I"⟩, prog_13_method_74_code, 3, (Option.some Jvm.ClassFile.FieldType.int)),
  (⟨"MistCantonModel", "held", "(II)I"⟩, prog_13_method_75_code, 4, (Option.some Jvm.ClassFile.FieldType.int)),
  (⟨"MistCantonModel", "meet", "(II)I"⟩, prog_13_method_76_code, 4, (Option.some Jvm.ClassFile.FieldType.int)),
  (⟨"MistCantonModel", "idle", "(I)I"⟩, prog_13_method_78_code, 4, (Option.some Jvm.ClassFile.FieldType.int)),
  (⟨"MistCantonModel", "comersOf", "(I)I"⟩, prog_13_method_77_code, 4, (Option.some Jvm.ClassFile.FieldType.int)),
  (⟨"MistCantonModel", "busy", "()I"⟩, prog_13_method_79_code, 5, (Option.some Jvm.ClassFile.FieldType.int)),
  (⟨"MistCantonModel", "family", "(I)I"⟩, prog_13_method_80_code, 4, (Option.some Jvm.ClassFile.FieldType.int)),
  (⟨"MistCantonModel", "lonely", "()I"⟩, prog_13_method_81_code, 3, (Option.some Jvm.ClassFile.FieldType.int)),
  (⟨"MistCantonModel", "move", "(I)I"⟩, prog_13_method_82_code, 6, (Option.some Jvm.ClassFile.FieldType.int)),
  (⟨"MistCantonModel", "last", "(I)I"⟩, prog_13_method_83_code, 4, (Option.some Jvm.ClassFile.FieldType.int)),
  (⟨"MistCantonModel", "twins", "()I"⟩, prog_13_method_84_code, 4, (Option.some Jvm.ClassFile.FieldType.int)),
  (⟨"MistCantonModel", "steady", "()I"⟩, prog_13_method_85_code, 7, (Option.some Jvm.ClassFile.FieldType.int)),
  (⟨"MistCantonModel", "group", "(I)I"⟩, prog_13_method_87_code, 5, (Option.some Jvm.ClassFile.FieldType.int)),
  (⟨"MistCantonModel", "ofOff", "(I)I"⟩, prog_13_method_86_code, 4, (Option.some Jvm.ClassFile.FieldType.int)),
  (⟨"MistCantonModel", "least", "(II)I"⟩, prog_13_method_90_code, 8, (Option.some Jvm.ClassFile.FieldType.int)),
  (⟨"MistCantonModel", "costOf", "(II)I"⟩, prog_13_method_89_code, 9, (Option.some Jvm.ClassFile.FieldType.int)),
  (⟨"MistCantonModel", "apart", "(II)I"⟩, prog_13_method_88_code, 2, (Option.some Jvm.ClassFile.FieldType.int)),
  (⟨"MistCantonModel", "see", "(IIZ)Z"⟩, prog_13_method_91_code, 5, (Option.some Jvm.ClassFile.FieldType.boolean)),
  (⟨"MistCantonModel", "lots", "()I"⟩, prog_13_method_94_code, 1, (Option.some Jvm.ClassFile.FieldType.int)),
  (⟨"MistCantonModel", "lotsNow", "()I"⟩, prog_13_method_93_code, 6, (Option.some Jvm.ClassFile.FieldType.int)),
  (⟨"MistCantonModel", "doesLotCome", "(III)Z"⟩, prog_13_method_92_code, 5, (Option.some Jvm.ClassFile.FieldType.boolean)),
  (⟨"MistCantonModel", "look", "()I"⟩, prog_13_method_95_code, 9, (Option.some Jvm.ClassFile.FieldType.int)),
  (⟨"MistCantonModel", "guess", "()I"⟩, prog_13_method_98_code, 1, (Option.some Jvm.ClassFile.FieldType.int)),
  (⟨"MistCantonModel", "guessOf", "()I"⟩, prog_13_method_97_code, 4, (Option.some Jvm.ClassFile.FieldType.int)),
  (⟨"MistCantonModel", "toHow", "(I)I"⟩, prog_13_method_96_code, 4, (Option.some Jvm.ClassFile.FieldType.int)),
  (⟨"MistCantonModel", "wrong", "()I"⟩, prog_13_method_99_code, 3, (Option.some Jvm.ClassFile.FieldType.int)),
  (⟨"MistCantonModel", "leads", "(I)I"⟩, prog_13_method_100_code, 2, (Option.some Jvm.ClassFile.FieldType.int)),
  (⟨"MistCantonModel", "spread", "()I"⟩, prog_13_method_101_code, 3, (Option.some Jvm.ClassFile.FieldType.int)),
  (⟨"MistCantonModel", "pairs", "()I"⟩, prog_13_method_102_code, 3, (Option.some Jvm.ClassFile.FieldType.int)),
  (⟨"MistCantonModel", "right", "()I"⟩, prog_13_method_103_code, 3, (Option.some Jvm.ClassFile.FieldType.int)),
  (⟨"MistCantonModel", "through", "(II)I"⟩, prog_13_method_105_code, 4, (Option.some Jvm.ClassFile.FieldType.int))]
def am_mi_7 : List (MethodName × ByteArray × Nat × Option FieldType) := [(⟨"MistCantonModel", "around", "(II)I"⟩, prog_13_method_104_code, 7, (Option.some Jvm.ClassFile.FieldType.int)),
  (⟨"MistCantonModel", "wedded", "()I"⟩, prog_13_method_106_code, 3, (Option.some Jvm.ClassFile.FieldType.int)),
  (⟨"MistCantonModel", "circles", "()I"⟩, prog_13_method_107_code, 3, (Option.some Jvm.ClassFile.FieldType.int)),
  (⟨"MistCantonModel", "cover", "()I"⟩, prog_13_method_108_code, 5, (Option.some Jvm.ClassFile.FieldType.int)),
  (⟨"MistCantonModel", "shared", "(II)I"⟩, prog_13_method_109_code, 3, (Option.some Jvm.ClassFile.FieldType.int)),
  (⟨"MistCantonModel", "chance", "(III)I"⟩, prog_13_method_110_code, 14, (Option.some Jvm.ClassFile.FieldType.int)),
  (⟨"MistCantonModel", "rests", "(IIII)I"⟩, prog_13_method_112_code, 12, (Option.some Jvm.ClassFile.FieldType.int)),
  (⟨"MistCantonModel", "getsBy", "(IIIII)I"⟩, prog_13_method_111_code, 5, (Option.some Jvm.ClassFile.FieldType.int)),
  (⟨"MistCantonModel", "years", "(III)I"⟩, prog_13_method_115_code, 5, (Option.some Jvm.ClassFile.FieldType.int)),
  (⟨"MistCantonModel", "drawsDeed", "()V"⟩, prog_13_method_114_code, 3, (Option.none : Option Jvm.ClassFile.FieldType)),
  (⟨"MistCantonModel", "draw", "(I)I"⟩, prog_13_method_113_code, 2, (Option.some Jvm.ClassFile.FieldType.int)),
  (⟨"MistCantonModel", "mark", "(IZ)Z"⟩, prog_13_method_116_code, 3, (Option.some Jvm.ClassFile.FieldType.boolean)),
  (⟨"MistCantonModel", "count", "(I)I"⟩, prog_13_method_117_code, 2, (Option.some Jvm.ClassFile.FieldType.int))]
def am_mi : List (MethodName × ByteArray × Nat × Option FieldType) := am_mi_0 ++ (am_mi_1 ++ (am_mi_2 ++ (am_mi_3 ++ (am_mi_4 ++ (am_mi_5 ++ (am_mi_6 ++ (am_mi_7)))))))
set_option maxRecDepth 100000 in
set_option maxHeartbeats 4000000 in
theorem am_mi_eq : lw_tbl.filterMap am_isCode = am_mi := by rfl
def am_ml : List (String × Nat × Nat) := [("MistCantonLaw", 15, 0), ("MistCanton", 1, 1), ("MistCanton", 9, 2), ("MistCanton$Tape", 3, 1), ("MistCanton", 18, 3), ("MistCanton$CantonReader", 3, 1), ("MistCanton$CantonReader", 17, 4), ("MistCanton$LawReader", 3, 1), ("MistCanton", 27, 5), ("MistCanton$WeekReader", 3, 1), ("MistCanton", 34, 6), ("MistCanton$Canton", 3, 1), ("MistCanton$Canton", 36, 7), ("MistCanton$Law", 3, 1), ("MistCanton", 44, 8), ("MistCanton$Week", 3, 1), ("MistCanton", 54, 9), ("MistCanton$State", 3, 1), ("MistCanton", 68, 10), ("MistCanton$History", 3, 1), ("MistCanton$History", 17, 9), ("MistCanton", 79, 11), ("MistCanton$Mark", 1, 1), ("MistCanton$Mark", 9, 9), ("MistCantonLaw", 21, 12), ("MistCanton", 87, 13), ("MistCantonLaw", 26, 14), ("MistCanton", 94, 15), ("MistCanton$CantonReader", 24, 16), ("MistCanton$CantonReader", 29, 17), ("MistCanton$Tape", 27, 18), ("MistCanton$Tape", 36, 19), ("MistCanton$Tape", 39, 20), ("MistCanton$Tape", 44, 21), ("java/lang/String", 633, 22), ("java/lang/String", 492, 23), ("java/lang/String", 505, 24), ("java/lang/String", 335, 25), ("java/lang/String", 637, 26), ("java/lang/StringLatin1", 88, 27), ("java/lang/StringLatin1", 92, 28), ("java/lang/StringLatin1", 38, 29), ("java/lang/StringLatin1", 95, 30), ("java/lang/String", 640, 31), ("java/lang/StringUTF16", 224, 28), ("java/lang/StringUTF16", 183, 29), ("java/lang/StringUTF16", 228, 32), ("java/lang/StringUTF16", 96, 33), ("java/lang/StringUTF16", 48, 34), ("java/lang/StringUTF16", 241, 35), ("java/lang/String", 1062, 36), ("java/lang/StringUTF16", 244, 37), ("java/lang/StringUTF16", 71, 38), ("java/lang/StringUTF16", 232, 39), ("java/lang/StringUTF16", 164, 40), ("java/lang/StringUTF16", 157, 41), ("java/lang/StringUTF16", 161, 42), ("MistCanton$CantonReader", 38, 43), ("MistCanton$CantonReader", 47, 44), ("MistCanton$Tape", 57, 24), ("MistCanton$Tape", 60, 45), ("java/lang/String", 495, 46), ("java/lang/StringLatin1", 9, 47), ("java/lang/String", 1059, 48), ("java/lang/String", 498, 49), ("java/lang/StringUTF16", 67, 50), ("java/lang/StringUTF16", 414, 47), ("MistCanton$CantonReader", 51, 51), ("MistCanton$CantonReader", 74, 52), ("MistCanton$CantonReader", 96, 18), ("MistCanton$CantonReader", 99, 53), ("MistCanton$CantonReader", 78, 54), ("MistCanton$CantonReader", 86, 55), ("MistCanton$CantonReader", 90, 56), ("MistCanton$CantonReader", 106, 57), ("MistCanton$CantonReader", 116, 58), ("MistCanton$Tape", 66, 44), ("MistCanton$Tape", 70, 52), ("MistCanton$CantonReader", 119, 59), ("MistCanton$CantonReader", 129, 61), ("MistCanton$Tape", 74, 62), ("MistCanton$CantonReader", 56, 63), ("MistCanton$CantonReader", 61, 64), ("MistCanton$CantonReader", 66, 66), ("MistCanton$CantonReader", 166, 67), ("MistCanton$CantonReader", 169, 68), ("MistCanton$CantonReader", 174, 69), ("MistCanton$CantonReader", 71, 70), ("MistCanton$LawReader", 23, 52), ("MistCanton$LawReader", 27, 18), ("MistCanton$LawReader", 34, 71), ("MistCanton$LawReader", 42, 72), ("MistCanton$LawReader", 59, 73), ("MistCanton$LawReader", 65, 74), ("MistCanton$LawReader", 68, 75), ("MistCanton$LawReader", 71, 76), ("MistCanton$LawReader", 47, 44), ("MistCanton$LawReader", 62, 62), ("MistCanton$LawReader", 55, 77), ("MistCanton$LawReader", 38, 61), ("MistCanton", 98, 78), ("MistCanton", 104, 79), ("MistCantonLaw", 31, 80), ("MistCanton", 101, 81), ("MistCanton$WeekReader", 21, 17), ("MistCanton$WeekReader", 29, 82), ("MistCanton$WeekReader", 36, 83), ("MistCanton$WeekReader", 70, 44), ("MistCanton$WeekReader", 40, 52), ("MistCanton$WeekReader", 54, 18), ("MistCanton$WeekReader", 57, 84), ("MistCanton$WeekReader", 78, 54), ("MistCanton$WeekReader", 86, 55), ("MistCanton$WeekReader", 60, 85), ("MistCanton$WeekReader", 92, 59), ("MistCanton$WeekReader", 64, 61), ("MistCantonLaw", 35, 86), ("MistCanton", 114, 87), ("MistCanton", 127, 68), ("MistCanton", 130, 88), ("MistCanton$Canton", 68, 89), ("MistCanton$Canton", 75, 90), ("MistCanton", 134, 91), ("MistCantonLaw", 40, 92), ("MistCanton", 141, 93), ("MistCantonLaw", 206, 94), ("MistCanton", 165, 95), ("MistCanton", 169, 96), ("MistCanton$State", 38, 69), ("MistCantonLaw", 44, 97), ("MistCanton", 175, 98), ("MistCanton$History", 22, 99), ("MistCanton$History", 29, 29), ("MistCanton", 179, 100), ("MistCanton$Canton", 85, 101), ("MistCanton$Canton", 105, 88), ("MistCanton$Canton", 109, 102), ("MistCanton$Canton", 116, 103), ("MistCanton$Canton", 112, 104), ("MistCanton$Canton", 96, 69), ("MistCanton$Canton", 123, 105), ("MistCanton$Law", 22, 106), ("MistCanton$Law", 26, 107), ("MistCanton$Canton", 92, 108), ("MistCantonLaw", 48, 109), ("MistCanton", 183, 60), ("MistCantonLaw", 52, 110), ("MistCanton", 187, 111), ("MistCantonLaw", 57, 112), ("MistCanton", 191, 113), ("MistCantonLaw", 201, 114), ("MistCanton", 195, 115), ("MistCanton$Mark", 20, 99), ("MistCanton", 202, 99), ("MistCantonLaw", 62, 116), ("MistCanton", 207, 117), ("MistCanton", 216, 118), ("MistCantonLaw", 66, 119), ("MistCantonLaw", 70, 120), ("MistCanton", 219, 65), ("MistCantonLaw", 74, 121), ("MistCantonLaw", 78, 122), ("MistCanton", 223, 123), ("MistCantonLaw", 175, 124), ("MistCantonLaw", 82, 125), ("MistCantonLaw", 86, 126), ("MistCanton", 227, 127), ("MistCantonLaw", 90, 128), ("MistCantonLaw", 135, 129), ("MistCantonLaw", 159, 130), ("MistCantonLaw", 167, 131), ("MistCantonLaw", 171, 132), ("MistCanton", 230, 133), ("MistCanton", 233, 69), ("MistCantonLaw", 183, 134), ("MistCanton", 238, 135), ("MistCanton", 241, 136), ("MistCantonLaw", 197, 137), ("MistCanton", 245, 138), ("MistCanton", 249, 139), ("MistCanton", 252, 140), ("MistCantonLaw", 94, 141), ("MistCanton", 264, 142), ("MistCanton", 267, 89), ("MistCantonLaw", 98, 143), ("MistCanton", 271, 144), ("MistCanton", 274, 145), ("MistCanton", 282, 146), ("MistCanton", 277, 29), ("MistCantonLaw", 123, 147), ("MistCantonLaw", 102, 148), ("MistCanton", 285, 149), ("MistCanton$Canton", 81, 68), ("MistCantonLaw", 107, 150), ("MistCantonLaw", 111, 151), ("MistCanton", 288, 28), ("MistCantonLaw", 115, 152), ("MistCanton", 291, 153), ("MistCantonLaw", 119, 154), ("MistCanton", 294, 152), ("MistCanton", 297, 90), ("MistCantonLaw", 127, 155), ("MistCantonLaw", 131, 156), ("MistCantonLaw", 163, 157), ("MistCantonLaw", 179, 158), ("MistCanton", 300, 159), ("MistCantonLaw", 139, 160), ("MistCanton", 303, 161), ("MistCantonLaw", 143, 162), ("MistCantonLaw", 147, 163), ("MistCanton", 306, 164), ("MistCantonLaw", 155, 165), ("MistCantonLaw", 151, 166), ("MistCanton", 309, 167), ("MistCantonLaw", 188, 999), ("MistCantonLaw", 7, 168), ("java/lang/Throwable", 1, 1), ("java/lang/Throwable", 27, 999), ("java/lang/Throwable", 202, 999), ("MistCanton", 316, 170), ("java/util/NoSuchElementException", 13, 171), ("java/lang/RuntimeException", 7, 172), ("java/lang/Exception", 7, 173), ("MistCanton", 319, 174), ("MistCanton", 325, 175), ("MistCantonLaw", 194, 176), ("MistCantonLaw", 25, 177), ("MistCantonModel", 7, 178), ("MistCantonLaw", 18, 179), ("MistCantonModel", 18, 1), ("MistCantonModel", 122, 180), ("MistCantonModel", 126, 181), ("MistCantonModel", 272, 182), ("MistCantonModel", 266, 183), ("MistCantonModel", 269, 184), ("MistCantonModel", 275, 185), ("MistCantonModel", 259, 186), ("MistCantonModel", 263, 187), ("MistCantonLaw", 30, 188), ("MistCantonModel", 198, 189), ("MistCantonModel", 129, 190), ("MistCantonModel", 138, 191), ("MistCantonModel", 142, 192), ("MistCantonModel", 149, 193), ("MistCantonModel", 207, 194), ("MistCantonModel", 164, 195), ("MistCantonModel", 213, 196), ("MistCantonModel", 161, 197), ("MistCantonModel", 186, 198), ("MistCantonModel", 177, 199), ("MistCantonModel", 190, 200), ("MistCantonModel", 217, 201), ("MistCantonModel", 220, 202), ("MistCantonModel", 170, 203), ("MistCantonModel", 167, 204), ("MistCantonModel", 173, 205), ("MistCantonModel", 224, 206), ("MistCantonModel", 194, 207), ("MistCantonModel", 228, 208), ("MistCantonModel", 231, 209), ("MistCantonModel", 234, 210), ("MistCantonModel", 241, 211), ("MistCantonModel", 244, 212), ("MistCantonModel", 250, 213), ("MistCantonModel", 253, 214), ("MistCantonModel", 158, 215), ("MistCantonModel", 237, 216), ("MistCantonModel", 247, 217), ("MistCantonModel", 210, 218), ("MistCantonLaw", 34, 219), ("MistCantonLaw", 39, 220), ("MistCantonModel", 313, 221), ("MistCantonModel", 316, 222), ("MistCantonModel", 288, 223), ("MistCantonModel", 307, 224), ("MistCantonModel", 291, 225), ("MistCantonLaw", 43, 226), ("MistCantonModel", 319, 227), ("MistCantonModel", 322, 228), ("MistCantonModel", 284, 229), ("MistCantonLaw", 47, 230), ("MistCantonModel", 325, 231), ("MistCantonModel", 281, 232), ("MistCantonModel", 328, 233), ("MistCantonModel", 310, 234), ("MistCantonModel", 297, 235), ("MistCantonModel", 300, 236), ("MistCantonModel", 256, 237), ("MistCantonModel", 303, 238), ("MistCantonLaw", 51, 239), ("MistCantonLaw", 56, 240), ("MistCantonModel", 330, 241), ("MistCantonLaw", 61, 242), ("MistCantonLaw", 65, 243), ("MistCantonModel", 333, 244), ("MistCantonModel", 336, 245), ("MistCantonLaw", 69, 246), ("MistCantonModel", 339, 247), ("MistCantonLaw", 73, 248), ("MistCantonLaw", 77, 249), ("MistCantonLaw", 81, 250), ("MistCantonLaw", 85, 251), ("MistCantonLaw", 89, 252), ("MistCantonModel", 342, 253), ("MistCantonLaw", 93, 254), ("MistCantonLaw", 138, 255), ("MistCantonLaw", 162, 256), ("MistCantonLaw", 170, 257), ("MistCantonLaw", 178, 258), ("MistCantonLaw", 174, 259), ("MistCantonLaw", 182, 260), ("MistCantonLaw", 97, 261), ("MistCantonModel", 345, 262), ("MistCantonLaw", 101, 263), ("MistCantonModel", 351, 264), ("MistCantonModel", 348, 265), ("MistCantonLaw", 106, 266), ("MistCantonLaw", 110, 267), ("MistCantonModel", 357, 268), ("MistCantonModel", 354, 269), ("MistCantonLaw", 114, 270), ("MistCantonLaw", 118, 271), ("MistCantonModel", 363, 272), ("MistCantonModel", 360, 273), ("MistCantonLaw", 122, 274), ("MistCantonLaw", 126, 275), ("MistCantonLaw", 130, 276), ("MistCantonLaw", 134, 277), ("MistCantonLaw", 166, 278), ("MistCantonLaw", 142, 279), ("MistCantonModel", 366, 280), ("MistCantonLaw", 146, 281), ("MistCantonLaw", 150, 282), ("MistCantonLaw", 154, 283), ("MistCantonLaw", 158, 284), ("MistCantonLaw", 187, 285), ("MistCantonLaw", 193, 286), ("MistCantonModel", 371, 287), ("MistCantonLaw", 200, 288), ("MistCantonModel", 390, 289), ("MistCantonModel", 387, 290), ("MistCantonLaw", 205, 291), ("MistCantonLaw", 209, 292)]
def am_y (n : Nat) : MethodName := match am_mi[n]? with
  | some q => q.1
  | none => ⟨"", "", ""⟩
def am_fl : List (String × Nat × String × String × String) := [("MistCanton$Tape", 9, "MistCanton$Tape", "signs", "[C"), ("MistCanton", 91, "MistCanton$Tape", "length", "I"), ("MistCanton$Tape", 17, "MistCanton$Tape", "length", "I"), ("MistCanton$CantonReader", 34, "MistCanton$Tape", "kind", "I"), ("MistCanton$WeekReader", 26, "MistCanton$Tape", "kind", "I"), ("MistCanton$Tape", 33, "MistCanton$Tape", "kind", "I"), ("MistCanton$LawReader", 75, "MistCanton$Tape", "kind", "I"), ("MistCanton$Tape", 30, "MistCanton$Tape", "place", "I"), ("MistCanton$Tape", 24, "MistCanton$Tape", "behind", "I"), ("MistCanton$CantonReader", 82, "MistCanton$Tape", "word", "J"), ("MistCanton$Tape", 50, "MistCanton$Tape", "word", "J"), ("MistCanton$WeekReader", 82, "MistCanton$Tape", "word", "J"), ("MistCanton$CantonReader", 126, "MistCanton$Tape", "number", "I"), ("MistCanton$Tape", 54, "MistCanton$Tape", "number", "I"), ("MistCanton$WeekReader", 96, "MistCanton$Tape", "number", "I"), ("MistCanton$LawReader", 81, "MistCanton$Tape", "number", "I"), ("MistCanton$CantonReader", 42, "MistCanton$Tape", "fault", "I"), ("MistCanton$WeekReader", 33, "MistCanton$Tape", "fault", "I"), ("MistCanton$Tape", 21, "MistCanton$Tape", "fault", "I"), ("MistCanton$LawReader", 9, "MistCanton$LawReader", "tape", "LMistCanton$Tape;"), ("MistCanton$CantonReader", 9, "MistCanton$CantonReader", "tape", "LMistCanton$Tape;"), ("MistCanton$CantonReader", 20, "MistCanton$CantonReader", "lawReader", "LMistCanton$LawReader;"), ("MistCanton$WeekReader", 9, "MistCanton$WeekReader", "tape", "LMistCanton$Tape;"), ("MistCanton$Law", 9, "MistCanton$Law", "parts", "[I"), ("MistCanton$Law", 15, "MistCanton$Law", "stack", "[I"), ("MistCanton$Law", 18, "MistCanton$Law", "length", "I"), ("MistCanton$Canton", 58, "MistCanton$Law", "length", "I"), ("MistCanton$Canton", 41, "MistCanton$Canton", "persons", "I"), ("MistCanton$CantonReader", 93, "MistCanton$Canton", "persons", "I"), ("MistCanton", 159, "MistCanton$Canton", "persons", "I"), ("MistCanton$Canton", 9, "MistCanton$Canton", "names", "[J"), ("MistCanton$CantonReader", 102, "MistCanton$Canton", "names", "[J"), ("MistCanton$Canton", 15, "MistCanton$Canton", "kinds", "[I"), ("MistCanton$CantonReader", 110, "MistCanton$Canton", "kinds", "[I"), ("MistCanton", 118, "MistCanton$Canton", "kinds", "[I"), ("MistCanton$Canton", 19, "MistCanton$Canton", "lots", "[I"), ("MistCanton$State", 31, "MistCanton$Canton", "lots", "[I"), ("MistCanton$CantonReader", 123, "MistCanton$Canton", "lots", "[I"), ("MistCanton$Canton", 45, "MistCanton$Canton", "events", "I"), ("MistCanton$CantonReader", 141, "MistCanton$Canton", "events", "I"), ("MistCanton", 162, "MistCanton$Canton", "events", "I"), ("MistCanton$Canton", 22, "MistCanton$Canton", "titles", "[J"), ("MistCanton$CantonReader", 144, "MistCanton$Canton", "titles", "[J"), ("MistCanton$Canton", 25, "MistCanton$Canton", "weekdays", "[I"), ("MistCanton", 144, "MistCanton$Canton", "weekdays", "[I"), ("MistCanton$CantonReader", 149, "MistCanton$Canton", "weekdays", "[I"), ("MistCanton$Canton", 28, "MistCanton$Canton", "needs", "[I"), ("MistCanton", 147, "MistCanton$Canton", "needs", "[I"), ("MistCanton$CantonReader", 154, "MistCanton$Canton", "needs", "[I"), ("MistCanton$Canton", 31, "MistCanton$Canton", "guests", "[I"), ("MistCanton", 150, "MistCanton$Canton", "guests", "[I"), ("MistCanton$CantonReader", 156, "MistCanton$Canton", "guests", "[I"), ("MistCanton$Canton", 48, "MistCanton$Canton", "snowTold", "Z"), ("MistCanton$CantonReader", 162, "MistCanton$Canton", "snowTold", "Z"), ("MistCanton$Canton", 52, "MistCanton$Canton", "snow", "I"), ("MistCanton$CantonReader", 172, "MistCanton$Canton", "snow", "I"), ("MistCanton$LawReader", 15, "MistCanton$Canton", "lawTold", "Z"), ("MistCanton$Canton", 55, "MistCanton$Canton", "lawTold", "Z"), ("MistCanton$Canton", 37, "MistCanton$Canton", "law", "LMistCanton$Law;"), ("MistCanton$LawReader", 30, "MistCanton$Canton", "law", "LMistCanton$Law;"), ("MistCanton$Week", 9, "MistCanton$Week", "acts", "[I"), ("MistCanton$WeekReader", 44, "MistCanton$Week", "acts", "[I"), ("MistCanton", 212, "MistCanton$Week", "acts", "[I"), ("MistCanton$Week", 15, "MistCanton$Week", "persons", "[I"), ("MistCanton$WeekReader", 48, "MistCanton$Week", "persons", "[I"), ("MistCanton", 210, "MistCanton$Week", "persons", "[I"), ("MistCanton$Week", 18, "MistCanton$Week", "lots", "[I"), ("MistCanton$WeekReader", 51, "MistCanton$Week", "lots", "[I"), ("MistCanton", 215, "MistCanton$Week", "lots", "[I"), ("MistCanton$WeekReader", 15, "MistCanton$Week", "length", "I"), ("MistCanton", 108, "MistCanton$Week", "length", "I"), ("MistCanton$State", 24, "MistCanton$State", "day", "I"), ("MistCanton", 124, "MistCanton$State", "day", "I"), ("MistCanton$Canton", 72, "MistCanton$State", "day", "I"), ("MistCanton$State", 28, "MistCanton$State", "crimes", "I"), ("MistCanton", 172, "MistCanton$State", "crimes", "I"), ("MistCanton$State", 9, "MistCanton$State", "lots", "[I"), ("MistCanton$Canton", 65, "MistCanton$State", "lots", "[I"), ("MistCanton", 121, "MistCanton$State", "lots", "[I"), ("MistCanton$State", 15, "MistCanton$State", "met", "[I"), ("MistCanton", 138, "MistCanton$State", "met", "[I"), ("MistCanton$Canton", 120, "MistCanton$State", "met", "[I"), ("MistCanton$State", 18, "MistCanton$State", "held", "[I"), ("MistCanton", 153, "MistCanton$State", "held", "[I"), ("MistCanton$Canton", 102, "MistCanton$State", "held", "[I"), ("MistCanton$State", 21, "MistCanton$State", "came", "[I"), ("MistCanton", 156, "MistCanton$State", "came", "[I"), ("MistCanton$Canton", 89, "MistCanton$State", "came", "[I"), ("MistCanton$History", 11, "MistCanton$History", "ring", "[LMistCanton$State;"), ("MistCanton$History", 18, "MistCanton$History", "newest", "I"), ("MistCanton$History", 26, "MistCanton$History", "length", "I"), ("MistCanton", 109, "MistCanton$History", "length", "I"), ("MistCanton$Mark", 16, "MistCanton$Mark", "laid", "Z"), ("MistCanton", 110, "MistCanton$Mark", "laid", "Z"), ("MistCanton$Mark", 10, "MistCanton$Mark", "state", "LMistCanton$State;"), ("MistCanton", 199, "MistCanton$Mark", "state", "LMistCanton$State;"), ("MistCanton$Mark", 24, "MistCanton$Mark", "sights", "I"), ("MistCanton", 205, "MistCanton$Mark", "sights", "I"), ("MistCanton$Mark", 28, "MistCanton$Mark", "sightLots", "I"), ("MistCanton", 206, "MistCanton$Mark", "sightLots", "I"), ("MistCanton", 10, "MistCanton", "tape", "LMistCanton$Tape;"), ("MistCanton", 21, "MistCanton", "cantonReader", "LMistCanton$CantonReader;"), ("MistCanton", 28, "MistCanton", "weekReader", "LMistCanton$WeekReader;"), ("MistCanton", 35, "MistCanton", "told", "LMistCanton$Canton;"), ("MistCanton", 39, "MistCanton", "spareCanton", "LMistCanton$Canton;"), ("MistCanton", 45, "MistCanton", "toldWeek", "LMistCanton$Week;"), ("MistCanton", 49, "MistCanton", "spareWeek", "LMistCanton$Week;"), ("MistCanton", 55, "MistCanton", "now", "LMistCanton$State;"), ("MistCanton", 59, "MistCanton", "ahead", "LMistCanton$State;"), ("MistCanton", 62, "MistCanton", "unlike", "[I"), ("MistCanton", 69, "MistCanton", "history", "LMistCanton$History;"), ("MistCanton", 75, "MistCanton", "marks", "[LMistCanton$Mark;"), ("MistCanton", 80, "MistCanton", "sights", "I"), ("MistCanton", 84, "MistCanton", "sightLots", "I"), ("java/lang/String", 38, "java/lang/String", "COMPACT_STRINGS", "Z"), ("java/lang/String", 1053, "jdk/internal/util/Preconditions", "SIOOBE_FORMATTER", "Ljava/util/function/BiFunction;"), ("java/lang/StringUTF16", 44, "java/lang/StringUTF16", "$assertionsDisabled", "Z"), ("java/lang/StringUTF16", 59, "java/lang/StringUTF16", "HI_BYTE_SHIFT", "I"), ("java/lang/StringUTF16", 63, "java/lang/StringUTF16", "LO_BYTE_SHIFT", "I"), ("java/lang/Throwable", 198, "java/lang/Throwable", "backtrace", "Ljava/lang/Object;"), ("java/lang/Throwable", 13, "java/lang/Throwable", "UNASSIGNED_STACK", "[Ljava/lang/StackTraceElement;"), ("java/lang/Throwable", 20, "java/lang/Throwable", "SUPPRESSED_SENTINEL", "Ljava/util/List;"), ("java/lang/Throwable", 198, "java/lang/Throwable", "backtrace", "Ljava/lang/Object;"), ("java/lang/Throwable", 31, "java/lang/Throwable", "detailMessage", "Ljava/lang/String;"), ("java/lang/Throwable", 7, "java/lang/Throwable", "cause", "Ljava/lang/Throwable;"), ("java/lang/Throwable", 17, "java/lang/Throwable", "stackTrace", "[Ljava/lang/StackTraceElement;"), ("java/lang/Throwable", 24, "java/lang/Throwable", "suppressedExceptions", "Ljava/util/List;"), ("MistCantonModel", 1, "MistCantonModel", "thrown", "I"), ("MistCantonModel", 14, "MistCantonModel", "tape", "[I"), ("MistCantonModel", 11, "MistCantonModel", "taped", "I"), ("MistCantonModel", 133, "MistCantonModel", "size", "I"), ("MistCantonModel", 24, "MistCantonModel", "sort", "[I"), ("MistCantonModel", 27, "MistCantonModel", "place", "[I"), ("MistCantonModel", 30, "MistCantonModel", "value", "[J"), ("MistCantonModel", 152, "MistCantonModel", "at", "I"), ("MistCantonModel", 155, "MistCantonModel", "fault", "I"), ("MistCantonModel", 76, "MistCantonModel", "words", "[J"), ("MistCantonModel", 79, "MistCantonModel", "cantons", "[I"), ("MistCantonModel", 82, "MistCantonModel", "op", "[I"), ("MistCantonModel", 85, "MistCantonModel", "arg", "[I"), ("MistCantonModel", 201, "MistCantonModel", "codes", "I"), ("MistCantonModel", 88, "MistCantonModel", "names", "[J"), ("MistCantonModel", 91, "MistCantonModel", "readNames", "[J"), ("MistCantonModel", 94, "MistCantonModel", "nameOf", "[I"), ("MistCantonModel", 97, "MistCantonModel", "readNameOf", "[I"), ("MistCantonModel", 183, "MistCantonModel", "namesMany", "I"), ("MistCantonModel", 180, "MistCantonModel", "readMany", "I"), ("MistCantonModel", 204, "MistCantonModel", "once", "I"), ("MistCantonModel", 100, "MistCantonModel", "lines", "[I"), ("MistCantonModel", 103, "MistCantonModel", "facts", "[I"), ("MistCantonModel", 106, "MistCantonModel", "pile", "[I"), ("MistCantonModel", 109, "MistCantonModel", "state", "[I"), ("MistCantonModel", 278, "MistCantonModel", "undos", "I"), ("MistCantonModel", 112, "MistCantonModel", "isMarked", "[Z"), ("MistCantonModel", 116, "MistCantonModel", "ons", "[I"), ("MistCantonModel", 294, "MistCantonModel", "goers", "I"), ("MistCantonModel", 119, "MistCantonModel", "alike", "[I"), ("MistCantonModel", 375, "MistCantonModel", "g", "J"), ("java/lang/String", 15, "java/lang/String", "coder", "B"), ("java/lang/String", 9, "java/lang/String", "value", "[B")]
set_option maxRecDepth 100000 in
theorem am_fl_eq : lw_tbl.filterMap am_isFL = am_fl := by decide +kernel
def am_cl : List (String × Nat × Int64) := [("MistCanton$Tape", 15, 255), ("MistCanton", 256, 1103515245), ("MistCanton", 258, 12345), ("MistCanton", 260, 2147483648), ("MistCanton", 262, 65536), ("MistCantonModel", 34, 1119812451), ("MistCantonModel", 36, 17003), ("MistCantonModel", 38, 10492554), ("MistCantonModel", 40, 569), ("MistCantonModel", 42, 26498531), ("MistCantonModel", 44, 6400279), ("MistCantonModel", 46, 982151), ("MistCantonModel", 48, 375310), ("MistCantonModel", 50, 5538), ("MistCantonModel", 52, 2083), ("MistCantonModel", 54, 30596128), ("MistCantonModel", 56, 43567634), ("MistCantonModel", 58, 37900956), ("MistCantonModel", 60, 488058286), ("MistCantonModel", 62, 19741), ("MistCantonModel", 64, 1891), ("MistCantonModel", 66, 573), ("MistCantonModel", 68, 20763), ("MistCantonModel", 70, 1172060), ("MistCantonModel", 72, 18002), ("MistCantonModel", 74, 43523993), ("MistCantonModel", 136, 37), ("MistCantonModel", 145, 10), ("MistCantonModel", 147, 48), ("MistCantonModel", 369, 1000000), ("MistCantonModel", 379, 1103515245), ("MistCantonModel", 381, 12345), ("MistCantonModel", 383, 2147483648), ("MistCantonModel", 385, 65536), ("MistCantonLaw", 19, 4294967295)]
set_option maxRecDepth 100000 in
theorem am_cl_eq : lw_tbl.filterMap am_isCL = am_cl := by decide +kernel
def am_ci : List (String × Nat × Int32) := [("java/lang/StringUTF16", 227, 65536), ("java/lang/Character", 110, 55232), ("java/lang/Character", 76, 56320), ("java/lang/Integer", 265, 1431655765), ("java/lang/Integer", 266, 858993459), ("java/lang/Integer", 267, 252645135)]
set_option maxRecDepth 100000 in
theorem am_ci_eq : lw_tbl.filterMap am_isCI = am_ci := by decide +kernel
/-- nest links: (own, index, method); the host is MistCanton -/
def am_nl : List (String × Nat × Nat) := [("MistCanton$Tape", 78, 60), ("MistCanton$CantonReader", 159, 65), ("MistCanton$Canton", 61, 65), ("MistCanton$State", 34, 65)]
def am_mlq : List (String × Nat × MethodName) := lw_tbl.filterMap am_isML
set_option maxRecDepth 100000 in
set_option maxHeartbeats 4000000 in
theorem am_ml_eq : (am_ml.zip am_mlq).all (fun q => decide (q.1.1 = q.2.1) && (decide (q.1.2.1 = q.2.2.1) && (decide (am_y q.1.2.2 = q.2.2.2) || decide (q.1.2.2 = 999)))) = true ∧ am_ml.length = am_mlq.length := by decide +kernel
/-- constructors (number, parameters) -/
def am_ils : List (Nat × Nat) := [(0, 0), (2, 0), (3, 1), (4, 1), (5, 1), (6, 0), (7, 0), (8, 0), (9, 0), (10, 0), (11, 0), (179, 0)]
def am_isCk : Cond → Option (String × Nat × String)
  | .classLink a i b => some (a, i, b)
  | _ => none
def am_ck : List (String × Nat × String) := [("MistCantonLaw", 8, "MistCanton"), ("MistCanton", 7, "MistCanton$Tape"), ("MistCanton", 16, "MistCanton$CantonReader"), ("MistCanton$CantonReader", 15, "MistCanton$LawReader"), ("MistCanton", 25, "MistCanton$WeekReader"), ("MistCanton", 32, "MistCanton$Canton"), ("MistCanton$Canton", 34, "MistCanton$Law"), ("MistCanton", 42, "MistCanton$Week"), ("MistCanton", 52, "MistCanton$State"), ("MistCanton", 66, "MistCanton$History"), ("MistCanton$History", 9, "MistCanton$State"), ("MistCanton", 73, "MistCanton$Mark"), ("MistCanton$Mark", 7, "MistCanton$State"), ("MistCantonLaw", 13, "java/util/NoSuchElementException"), ("MistCanton", 312, "java/util/NoSuchElementException"), ("MistCantonLaw", 16, "MistCantonModel")]
set_option maxRecDepth 100000 in
theorem am_ck_eq : lw_tbl.filterMap am_isCk = am_ck := by decide +kernel
def am_isIa : Cond → Option (String × Nat)
  | .instantiable a i => some (a, i)
  | _ => none
/-- methods called on an object (number, parameters, class), and static ones (number, parameters) -/
def am_vls : List (Nat × Nat × Nat) := [(12, 3, 10), (13, 1, 7), (14, 0, 10), (15, 1, 1), (16, 0, 0), (17, 0, 7), (18, 0, 7), (19, 0, 7), (20, 0, 7), (43, 1, 1), (44, 1, 7), (51, 1, 1), (52, 1, 7), (53, 1, 1), (54, 0, 7), (55, 1, 0), (56, 1, 0), (57, 0, 1), (58, 1, 7), (59, 2, 7), (61, 1, 7), (62, 1, 7), (63, 1, 1), (64, 1, 1), (66, 1, 1), (67, 1, 1), (68, 1, 0), (70, 1, 4), (71, 2, 4), (72, 2, 4), (73, 2, 4), (74, 2, 4), (75, 2, 4), (76, 0, 4), (77, 1, 3), (78, 0, 10), (79, 1, 6), (80, 0, 10), (81, 2, 9), (82, 2, 9), (83, 0, 9), (84, 2, 9), (85, 1, 9), (86, 2, 10), (87, 1, 10), (88, 3, 0), (89, 2, 0), (91, 1, 0), (92, 2, 10), (93, 1, 10), (94, 1, 10), (95, 0, 6), (96, 0, 6), (97, 0, 10), (98, 1, 2), (99, 1, 6), (100, 2, 0), (101, 2, 0), (102, 2, 0), (104, 3, 0), (105, 4, 3), (108, 1, 6), (109, 2, 10), (110, 1, 10), (111, 1, 6), (112, 0, 10), (113, 1, 2), (114, 2, 10), (115, 3, 5), (116, 1, 10), (117, 1, 10), (118, 0, 10), (119, 2, 10), (120, 2, 10), (121, 1, 10), (122, 2, 10), (123, 2, 10), (124, 1, 10), (125, 2, 10), (126, 1, 10), (127, 0, 6), (128, 0, 10), (129, 1, 10), (130, 0, 10), (131, 1, 10), (132, 0, 10), (133, 1, 6), (134, 3, 10), (135, 3, 10), (137, 3, 10), (138, 1, 10), (141, 1, 10), (142, 1, 10), (143, 2, 10), (144, 2, 10), (145, 3, 10), (147, 1, 10), (148, 3, 10), (149, 2, 0), (150, 0, 10), (151, 0, 10), (152, 0, 10), (153, 1, 10), (154, 0, 10), (155, 0, 10), (156, 0, 10), (157, 0, 10), (158, 0, 10), (159, 1, 10), (160, 2, 10), (161, 1, 10), (162, 0, 10), (163, 0, 10), (164, 1, 10), (165, 2, 10), (166, 0, 10), (167, 1, 0), (168, 4, 10), (176, 0, 11), (177, 3, 11), (178, 1, 11), (180, 1, 11), (181, 0, 11), (182, 0, 11), (183, 0, 11), (184, 2, 11), (185, 1, 11), (186, 0, 11), (187, 2, 11), (188, 0, 11), (189, 0, 11), (194, 0, 11), (195, 1, 11), (196, 3, 11), (197, 1, 11), (198, 0, 11), (199, 2, 11), (200, 1, 11), (201, 2, 11), (202, 3, 11), (203, 1, 11), (204, 1, 11), (205, 2, 11), (206, 3, 11), (208, 0, 11), (209, 0, 11), (210, 1, 11), (211, 1, 11), (212, 1, 11), (213, 1, 11), (214, 1, 11), (215, 1, 11), (216, 2, 11), (217, 1, 11), (218, 1, 11), (219, 0, 11), (220, 2, 11), (221, 1, 11), (222, 1, 11), (223, 2, 11), (224, 1, 11), (226, 2, 11), (227, 1, 11), (228, 1, 11), (229, 2, 11), (230, 0, 11), (231, 0, 11), (232, 3, 11), (233, 1, 11), (234, 2, 11), (236, 1, 11), (238, 4, 11), (239, 2, 11), (240, 1, 11), (241, 2, 11), (242, 0, 11), (243, 1, 11), (244, 1, 11), (245, 2, 11), (246, 2, 11), (247, 0, 11), (248, 2, 11), (249, 1, 11), (250, 2, 11), (251, 2, 11), (252, 1, 11), (253, 1, 11), (254, 0, 11), (255, 1, 11), (256, 0, 11), (257, 1, 11), (258, 1, 11), (259, 0, 11), (260, 0, 11), (261, 1, 11), (262, 1, 11), (263, 2, 11), (264, 2, 11), (266, 3, 11), (267, 0, 11), (268, 0, 11), (269, 3, 11), (270, 0, 11), (271, 0, 11), (272, 0, 11), (273, 1, 11), (274, 0, 11), (275, 1, 11), (276, 0, 11), (277, 0, 11), (278, 0, 11), (279, 2, 11), (280, 2, 11), (281, 0, 11), (282, 0, 11), (283, 0, 11), (284, 2, 11), (285, 3, 11), (286, 4, 11), (288, 3, 11), (289, 0, 11), (290, 1, 11), (291, 2, 11), (292, 1, 11)]
/-- String constants: where they stand; how long; their bytes -/
def am_stt : List (String × Nat × String) := [("MistCanton$Tape", 42, "()<=+-*;"), ("MistCanton$CantonReader", 45, "person"), ("MistCanton$Tape", 64, "person lot event on needs comes snow goes day ask plain widow thief gaoler not and or "), ("MistCanton$CantonReader", 133, "plain"), ("MistCanton$CantonReader", 135, "widow"), ("MistCanton$CantonReader", 137, "thief"), ("MistCanton$CantonReader", 139, "gaoler"), ("MistCanton$CantonReader", 114, "lot"), ("MistCanton$CantonReader", 54, "event"), ("MistCanton$CantonReader", 147, "on"), ("MistCanton$CantonReader", 152, "needs"), ("MistCanton$CantonReader", 59, "comes"), ("MistCanton$CantonReader", 64, "snow"), ("MistCanton$CantonReader", 69, "goes"), ("MistCanton$LawReader", 84, "off"), ("MistCanton$LawReader", 86, "week"), ("MistCanton$LawReader", 88, "met"), ("MistCanton$LawReader", 90, "white"), ("MistCanton$LawReader", 79, "not"), ("MistCanton$LawReader", 45, "and"), ("MistCanton$LawReader", 53, "or"), ("MistCanton$WeekReader", 68, "day"), ("MistCanton$WeekReader", 74, "lot"), ("MistCanton$WeekReader", 76, "ask"), ("MistCanton", 314, "a stake is 0 to 9"), ("MistCanton", 323, "no such rest")]
def am_sln : List Nat := [8, 6, 86, 5, 5, 5, 6, 3, 5, 2, 5, 5, 4, 4, 3, 4, 3, 5, 3, 3, 2, 3, 3, 3, 17, 12]
def am_sby : List (List Int32) := [[40, 41, 60, 61, 43, 45, 42, 59], [112, 101, 114, 115, 111, 110], [112, 101, 114, 115, 111, 110, 32, 108, 111, 116, 32, 101, 118, 101, 110, 116, 32, 111, 110, 32, 110, 101, 101, 100, 115, 32, 99, 111, 109, 101, 115, 32, 115, 110, 111, 119, 32, 103, 111, 101, 115, 32, 100, 97, 121, 32, 97, 115, 107, 32, 112, 108, 97, 105, 110, 32, 119, 105, 100, 111, 119, 32, 116, 104, 105, 101, 102, 32, 103, 97, 111, 108, 101, 114, 32, 110, 111, 116, 32, 97, 110, 100, 32, 111, 114, 32], [112, 108, 97, 105, 110], [119, 105, 100, 111, 119], [116, 104, 105, 101, 102], [103, 97, 111, 108, 101, 114], [108, 111, 116], [101, 118, 101, 110, 116], [111, 110], [110, 101, 101, 100, 115], [99, 111, 109, 101, 115], [115, 110, 111, 119], [103, 111, 101, 115], [111, 102, 102], [119, 101, 101, 107], [109, 101, 116], [119, 104, 105, 116, 101], [110, 111, 116], [97, 110, 100], [111, 114], [100, 97, 121], [108, 111, 116], [97, 115, 107], [97, 32, 115, 116, 97, 107, 101, 32, 105, 115, 32, 48, 32, 116, 111, 32, 57], [110, 111, 32, 115, 117, 99, 104, 32, 114, 101, 115, 116]]
def am_svl : List (Nat × Nat) := [(21, 1), (22, 2), (23, 0), (24, 0), (25, 0), (45, 1)]
def am_sls : List (Nat × Nat) := [(26, 4), (27, 1), (28, 2), (29, 2), (30, 4), (31, 4), (32, 4), (33, 3), (34, 1), (35, 3), (36, 4), (37, 4), (38, 2), (39, 4), (40, 1), (41, 1), (42, 1), (46, 2), (47, 2), (48, 3), (49, 2), (50, 2), (60, 3), (65, 2), (69, 1), (90, 2), (103, 3), (106, 5), (107, 3), (136, 3), (139, 1), (140, 2), (146, 1), (174, 5), (175, 5), (190, 1), (191, 1), (192, 1), (193, 1), (207, 3), (225, 3), (235, 1), (237, 3), (265, 2), (287, 5)]
end
section
/-! THE ABSTRACT MACHINE: one heap of ints, longs, references by object number and place (and the script's length); the rules of one instruction as a predicate; wp as the least predicate that is closed under them -/
abbrev am_V : Type := List (Nat × Value)
/-- ints, longs, references; the script's length; how many objects there are -/
abbrev am_H : Type := (Nat → Nat → Int32) × (Nat → Nat → Int64) × (Nat → Nat → Option Nat) × Nat × Nat
abbrev am_R : Type := Instr × Nat × Nat × Nat × Nat × Nat
abbrev am_Q : Type := Option Value → am_H → Prop
abbrev am_P : Type := Nat → List Value → am_H → am_Q → Prop
def am_wI (h : am_H) (o k : Nat) (v : Int32) : am_H := (fun a b => if a = o ∧ b = k then v else h.1 a b, h.2.1, h.2.2.1, h.2.2.2)
def am_wL (h : am_H) (o k : Nat) (v : Int64) : am_H := (h.1, fun a b => if a = o ∧ b = k then v else h.2.1 a b, h.2.2.1, h.2.2.2)
def am_wR (h : am_H) (o k : Nat) (v : Option Nat) : am_H := (h.1, h.2.1, fun a b => if a = o ∧ b = k then v else h.2.2.1 a b, h.2.2.2)
def am_lk : am_V → Nat → Option Value
  | [], _ => none
  | q :: r, i => bif Nat.beq q.1 i then some q.2 else am_lk r i
def am_s1 (lv : am_V) (i : Nat) (v : Value) : am_V := (i, v) :: lv.filter (fun q => !(q.1 == i) && !(q.1 + 1 == i && q.2.category == 2))
def am_s2 (lv : am_V) (i : Nat) (v : Value) : am_V := (i, v) :: lv.filter (fun q => !(q.1 == i) && (!(q.1 == i + 1) && !(q.1 + 1 == i && q.2.category == 2)))
def am_rf (r : Option Nat) : Value := match r with
  | some a => .ref a
  | none => .null
def am_pI (st : List Value) (k : Int32 → List Value → Prop) : Prop := match st with
  | .int x :: r => k x r
  | _ => False
def am_pL (st : List Value) (k : Int64 → List Value → Prop) : Prop := match st with
  | .long x :: r => k x r
  | _ => False
def am_pR (st : List Value) (k : Nat → List Value → Prop) : Prop := match st with
  | .ref x :: r => k x r
  | _ => False
def am_pV (st : List Value) (k : Value → List Value → Prop) : Prop := match st with
  | v :: r => k v r
  | [] => False
def am_li (lv : am_V) (i : Nat) (k : Int32 → Prop) : Prop := match am_lk lv i with
  | some (.int x) => k x
  | _ => False
def am_ll (lv : am_V) (i : Nat) (k : Int64 → Prop) : Prop := match am_lk lv i with
  | some (.long x) => k x
  | _ => False
def am_la (lv : am_V) (i : Nat) (k : Nat → Prop) : Prop := match am_lk lv i with
  | some (.ref x) => k x
  | _ => False
def am_pop : Nat → List Value → List Value → Option (List Value × List Value)
  | 0, acc, st => some (acc, st)
  | n + 1, acc, v :: st => am_pop n (v :: acc) st
  | _ + 1, _, [] => none
def am_c (c : Jvm.ClassFile.Cond) (x y : Int32) : Prop := match c with
  | .eq => x = y
  | .ne => ¬ x = y
  | .lt => x < y
  | .ge => y ≤ x
  | .gt => y < x
  | .le => x ≤ y
def am_gv (h : am_H) (ci k o : Nat) : Value := match am_kd ci k with
  | 0 => .int (h.1 o k)
  | 1 => .long (h.2.1 o k)
  | _ => am_rf (h.2.2.1 o k)
def am_fty (ci k : Nat) : FieldType := match vwCl[ci]? with
  | some q => (parseFieldDescriptor (q.2.1 k).2.2.1).getD .int
  | none => .int
def am_kl (c : Nat) : Int64 := match am_cl[c]? with
  | some q => q.2.2
  | none => 0
def am_ki (c : Nat) : Int32 := match am_ci[c]? with
  | some q => q.2.2
  | none => 0
/-- the shape of each object: (number of its class, 0), or (12 chars, 13 ints, 14 longs, 15 booleans, 16 Marks, 17 States, the length) -/
def am_st1 : List (Nat × Nat) := [(6, 0), (13, 6), (13, 6), (13, 5), (13, 5)]
def am_ca1 : List (Nat × Nat) := [(0, 0), (14, 6), (13, 6), (13, 6), (14, 5), (13, 5), (13, 5), (13, 5), (3, 0), (13, 1000), (13, 32)]
def am_we1 : List (Nat × Nat) := [(8, 0), (13, 40), (13, 40), (13, 40)]
def am_shl : List (Nat × Nat) := [(10, 0), (7, 0), (12, 1000), (1, 0), (4, 0), (9, 0)] ++ (am_ca1 ++ (am_ca1 ++ (am_we1 ++ (am_we1 ++ (am_st1 ++ (am_st1 ++ ([(13, 6), (2, 0), (17, 16)] ++ (
  am_st1 ++ (am_st1 ++ (am_st1 ++ (am_st1 ++ (am_st1 ++ (am_st1 ++ (am_st1 ++ (am_st1 ++ (am_st1 ++ (am_st1 ++ (am_st1 ++ (am_st1 ++ (am_st1 ++ (am_st1 ++ (am_st1 ++ (am_st1 ++ (
  [(16, 4)] ++ ((5, 0) :: (am_st1 ++ ((5, 0) :: (am_st1 ++ ((5, 0) :: (am_st1 ++ ((5, 0) :: (am_st1 ++
  [(11, 0), (13, 1000), (13, 1002), (13, 1002), (14, 1002), (14, 21), (13, 80), (13, 2200), (13, 2200), (14, 11), (14, 11), (13, 11), (13, 11), (13, 250), (13, 4), (13, 1100), (13, 1127), (15, 4), (13, 5), (13, 6), (14, 1)]
  ))))))))))))))))))))))))))))))))
def am_so (h : am_H) (o : Nat) : Option (Nat × Nat) := bif Nat.blt o h.2.2.2.2 then am_shl[o]? else none
def am_sh (h : am_H) (o : Nat) : Option (Nat × Nat) := bif Nat.beq o 3000000 then some (13, h.2.2.2.1) else am_so h o
/-- a receiver: one of the objects, or a String constant -/
def am_rc (h : am_H) (o d : Nat) : Prop := (¬ d = 20 ∧ am_sh h o = some (d, 0)) ∨ (d = 20 ∧ ∃ q : Nat, q < 26 ∧ o = 4000000 + q)
/-- the next object, all 0 and null -/
def am_nx (h : am_H) : am_H := (fun a b => if a = h.2.2.2.2 then 0 else h.1 a b, fun a b => if a = h.2.2.2.2 then 0 else h.2.1 a b, fun a b => if a = h.2.2.2.2 then none else h.2.2.1 a b, h.2.2.2.1, h.2.2.2.2 + 1)
/-- how many objects a constructor makes -/
def am_al (n : Nat) : Nat := ([153, 0, 1, 1, 0, 0, 10, 2, 3, 4, 81, 5] : List Nat).getD n (bif Nat.beq n 179 then 19 else 0)
def am_stp (cp : am_P) (nL lim : Nat) (rt : Option FieldType) (pc : Nat) (r : am_R) (lv : am_V) (st : List Value) (h : am_H) (K : Nat → am_V → List Value → am_H → Prop) (Q : am_Q) : Prop :=
  match r with
  | (i, nx, a, b, c, d) => match i with
    | .iconst n => K nx lv (.int (Int32.ofInt n) :: st) h
    | .bipush n => K nx lv (.int (Int8.ofInt n).toInt32 :: st) h
    | .sipush n => K nx lv (.int (Int16.ofInt n).toInt32 :: st) h
    | .lconst n => K nx lv (.long (Int64.ofNat n) :: st) h
    | .ldc2_w _ => K nx lv (.long (am_kl c) :: st) h
    | .ldc_w _ => bif Nat.beq b 1 then K nx lv (.ref (4000000 + c) :: st) h else K nx lv (.int (am_ki c) :: st) h
    | .ldc _ => bif Nat.beq b 1 then K nx lv (.ref (4000000 + c) :: st) h else K nx lv (.int (am_ki c) :: st) h
    | .getstatic _ => bif Nat.beq b 1 then K nx lv (.ref 6000000 :: st) h else K nx lv (.int 1 :: st) h
    | .i2b => am_pI st fun x r => K nx lv (.int x.toInt8.toInt32 :: r) h
    | .iload_n k => am_li lv k.val fun x => K nx lv (.int x :: st) h
    | .iload k => am_li lv k fun x => K nx lv (.int x :: st) h
    | .lload_n k => am_ll lv k.val fun x => K nx lv (.long x :: st) h
    | .lload k => am_ll lv k fun x => K nx lv (.long x :: st) h
    | .aload_n k => am_la lv k.val fun x => K nx lv (.ref x :: st) h
    | .aload k => am_la lv k fun x => K nx lv (.ref x :: st) h
    | .istore_n k => am_pI st fun x r => k.val < nL ∧ K nx (am_s1 lv k.val (.int x)) r h
    | .istore k => am_pI st fun x r => k < nL ∧ K nx (am_s1 lv k (.int x)) r h
    | .lstore_n k => am_pL st fun x r => k.val + 1 < nL ∧ K nx (am_s2 lv k.val (.long x)) r h
    | .lstore k => am_pL st fun x r => k + 1 < nL ∧ K nx (am_s2 lv k (.long x)) r h
    | .astore_n k => am_pR st fun x r => k.val < nL ∧ K nx (am_s1 lv k.val (.ref x)) r h
    | .astore k => am_pR st fun x r => k < nL ∧ K nx (am_s1 lv k (.ref x)) r h
    | .iinc k n => am_li lv k fun x => k < nL ∧ K nx (am_s1 lv k (.int (x + Int32.ofInt n))) st h
    | .iadd => am_pI st fun y r => am_pI r fun x r => K nx lv (.int (x + y) :: r) h
    | .isub => am_pI st fun y r => am_pI r fun x r => K nx lv (.int (x - y) :: r) h
    | .imul => am_pI st fun y r => am_pI r fun x r => K nx lv (.int (x * y) :: r) h
    | .iand => am_pI st fun y r => am_pI r fun x r => K nx lv (.int (x &&& y) :: r) h
    | .ior => am_pI st fun y r => am_pI r fun x r => K nx lv (.int (x ||| y) :: r) h
    | .ixor => am_pI st fun y r => am_pI r fun x r => K nx lv (.int (x ^^^ y) :: r) h
    | .idiv => am_pI st fun y r => am_pI r fun x r => ¬ y = 0 ∧ K nx lv (.int (x / y) :: r) h
    | .irem => am_pI st fun y r => am_pI r fun x r => ¬ y = 0 ∧ K nx lv (.int (x - x / y * y) :: r) h
    | .ineg => am_pI st fun x r => K nx lv (.int (-x) :: r) h
    | .ishl => am_pI st fun y r => am_pI r fun x r => K nx lv (.int (x <<< (y &&& 31)) :: r) h
    | .ishr => am_pI st fun y r => am_pI r fun x r => K nx lv (.int (x >>> (y &&& 31)) :: r) h
    | .iushr => am_pI st fun y r => am_pI r fun x r => K nx lv (.int (x.toUInt32 >>> (y.toUInt32 &&& Int32.toUInt32 31)).toInt32 :: r) h
    | .ladd => am_pL st fun y r => am_pL r fun x r => K nx lv (.long (x + y) :: r) h
    | .lsub => am_pL st fun y r => am_pL r fun x r => K nx lv (.long (x - y) :: r) h
    | .lmul => am_pL st fun y r => am_pL r fun x r => K nx lv (.long (x * y) :: r) h
    | .land => am_pL st fun y r => am_pL r fun x r => K nx lv (.long (x &&& y) :: r) h
    | .lor => am_pL st fun y r => am_pL r fun x r => K nx lv (.long (x ||| y) :: r) h
    | .ldiv => am_pL st fun y r => am_pL r fun x r => ¬ y = 0 ∧ K nx lv (.long (x / y) :: r) h
    | .lrem => am_pL st fun y r => am_pL r fun x r => ¬ y = 0 ∧ K nx lv (.long (x - x / y * y) :: r) h
    | .lshl => am_pI st fun y r => am_pL r fun x r => K nx lv (.long (x <<< (y.toInt64 &&& 63)) :: r) h
    | .lshr => am_pI st fun y r => am_pL r fun x r => K nx lv (.long (x >>> (y.toInt64 &&& 63)) :: r) h
    | .lushr => am_pI st fun y r => am_pL r fun x r => K nx lv (.long (x.toUInt64 >>> (y.toInt64.toUInt64 &&& Int64.toUInt64 63)).toInt64 :: r) h
    | .lcmp => am_pL st fun y r => am_pL r fun x r => K nx lv (.int (lg_cmp x y) :: r) h
    | .i2l => am_pI st fun x r => K nx lv (.long x.toInt64 :: r) h
    | .l2i => am_pL st fun x r => K nx lv (.int x.toInt32 :: r) h
    | .i2c => am_pI st fun x r => K nx lv (.int (x.toUInt32 % 65536).toInt32 :: r) h
    | .dup => am_pV st fun v r => v.category = 1 ∧ K nx lv (v :: v :: r) h
    | .dup2 => am_pV st fun v r => am_pV r fun w r => v.category = 1 ∧ w.category = 1 ∧ K nx lv (v :: w :: v :: w :: r) h
    | .pop => am_pV st fun v r => v.category = 1 ∧ K nx lv r h
    | .goto _ => K a lv st h
    | .if_icmp q _ => am_pI st fun y r => am_pI r fun x r => (am_c q x y → K a lv r h) ∧ (¬ am_c q x y → K nx lv r h)
    | .ifCond q _ => am_pI st fun x r => (am_c q x 0 → K a lv r h) ∧ (¬ am_c q x 0 → K nx lv r h)
    | .tableswitch df lo hi os => am_pI st fun x r => ((x.toInt < lo ∨ hi < x.toInt) → K ((pc : Int) + df).toNat lv r h) ∧ (∀ j : Nat, x.toInt = lo + j → lo + j ≤ hi → K ((pc : Int) + (os[j]?).getD 0).toNat lv r h)
    | .lookupswitch df ps => am_pI st fun x r => K ((pc : Int) + Op.lookupswitch.offset ps.toList df x.toInt).toNat lv r h
    | .getfield _ => bif Nat.beq b 20 then am_pR st fun o r => ∃ q : Nat, q < 26 ∧ o = 4000000 + q ∧ K nx lv ((bif Nat.beq a 0 then .ref (5000000 + q) else .int 0) :: r) h else am_pR st fun o r => am_sh h o = some (b, 0) ∧ K nx lv (am_gv h b a o :: r) h
    | .putfield _ => match am_kd b a with
      | 0 => am_pI st fun x r => am_pR r fun o r => am_sh h o = some (b, 0) ∧ narrow (am_fty b a) (.int x) = .int x ∧ fits (am_fty b a) (.int x) = true ∧ K nx lv r (am_wI h o a x)
      | 1 => am_pL st fun x r => am_pR r fun o r => am_sh h o = some (b, 0) ∧ K nx lv r (am_wL h o a x)
      | _ => am_pR st fun x r => am_pR r fun o r => am_sh h o = some (b, 0) ∧ K nx lv r (am_wR h o a (some x))
    | .iaload => am_pI st fun i r => am_pR r fun o r => ∃ j n : Nat, am_sh h o = some (13, n) ∧ j < n ∧ i = nI j ∧ K nx lv (.int (h.1 o j) :: r) h
    | .caload => am_pI st fun i r => am_pR r fun o r => ∃ j n : Nat, am_sh h o = some (12, n) ∧ j < n ∧ i = nI j ∧ K nx lv (.int (h.1 o j) :: r) h
    | .baload => am_pI st fun i r => am_pR r fun o r => (∃ j n : Nat, am_sh h o = some (15, n) ∧ j < n ∧ i = nI j ∧ K nx lv (.int (h.1 o j) :: r) h) ∨ (∃ q j : Nat, q < 26 ∧ o = 5000000 + q ∧ j < am_sln.getD q 0 ∧ i = nI j ∧ K nx lv (.int ((am_sby.getD q []).getD j 0) :: r) h)
    | .laload => am_pI st fun i r => am_pR r fun o r => ∃ j n : Nat, am_sh h o = some (14, n) ∧ j < n ∧ i = nI j ∧ K nx lv (.long (h.2.1 o j) :: r) h
    | .aaload => am_pI st fun i r => am_pR r fun o r => ∃ j n : Nat, (am_sh h o = some (16, n) ∨ am_sh h o = some (17, n)) ∧ j < n ∧ i = nI j ∧ K nx lv (am_rf (h.2.2.1 o j) :: r) h
    | .iastore => am_pI st fun x r => am_pI r fun i r => am_pR r fun o r => ∃ j n : Nat, am_so h o = some (13, n) ∧ j < n ∧ i = nI j ∧ K nx lv r (am_wI h o j x)
    | .castore => am_pI st fun x r => am_pI r fun i r => am_pR r fun o r => ∃ j n : Nat, am_so h o = some (12, n) ∧ j < n ∧ i = nI j ∧ K nx lv r (am_wI h o j (vp_nar .char x))
    | .bastore => am_pI st fun x r => am_pI r fun i r => am_pR r fun o r => ∃ j n : Nat, am_so h o = some (15, n) ∧ j < n ∧ i = nI j ∧ K nx lv r (am_wI h o j (vp_nar .boolean x))
    | .lastore => am_pL st fun x r => am_pI r fun i r => am_pR r fun o r => ∃ j n : Nat, am_so h o = some (14, n) ∧ j < n ∧ i = nI j ∧ K nx lv r (am_wL h o j x)
    | .aastore => am_pR st fun x r => am_pI r fun i r => am_pR r fun o r => ∃ j n : Nat, ((am_so h o = some (16, n) ∧ am_so h x = some (5, 0)) ∨ (am_so h o = some (17, n) ∧ am_so h x = some (6, 0))) ∧ j < n ∧ i = nI j ∧ K nx lv r (am_wR h o j (some x))
    | .new _ => am_shl[h.2.2.2.2]? = some (b, 0) ∧ h.2.2.2.2 + 1 ≤ lim ∧ K nx lv (.ref h.2.2.2.2 :: st) (am_nx h)
    | .newarray _ => am_pI st fun i r => ∃ n : Nat, am_shl[h.2.2.2.2]? = some (b, n) ∧ i = nI n ∧ h.2.2.2.2 + 1 ≤ lim ∧ K nx lv (.ref h.2.2.2.2 :: r) (am_nx h)
    | .anewarray _ => am_pI st fun i r => ∃ n : Nat, am_shl[h.2.2.2.2]? = some (b, n) ∧ i = nI n ∧ h.2.2.2.2 + 1 ≤ lim ∧ K nx lv (.ref h.2.2.2.2 :: r) (am_nx h)
    | .arraylength => am_pR st fun o r => (∃ t n : Nat, am_sh h o = some (t, n) ∧ 12 ≤ t ∧ K nx lv (.int (nI n) :: r) h) ∨ (∃ q : Nat, q < 26 ∧ o = 5000000 + q ∧ K nx lv (.int (nI (am_sln.getD q 0)) :: r) h)
    | .invokevirtual _ => match am_pop b [] st with
      | some (As, .ref o :: r) => am_rc h o d ∧ (r.map fun v => v.category).sum ≤ 8 ∧ h.2.2.2.2 + am_al a ≤ lim ∧ cp a (.ref o :: As) h (fun v h' => K nx lv (v.toList ++ r) h')
      | _ => False
    | .invokespecial _ => match am_pop b [] st with
      | some (As, .ref o :: r) => (r.map fun v => v.category).sum ≤ 8 ∧ (bif Nat.beq a 1 then As = [] ∧ K nx lv r h else h.2.2.2.2 + am_al a ≤ lim ∧ cp a (.ref o :: As) h (fun v h' => K nx lv (v.toList ++ r) h'))
      | _ => False
    | .invokestatic _ => match am_pop b [] st with
      | some (As, r) => (r.map fun v => v.category).sum ≤ 8 ∧ h.2.2.2.2 + am_al a ≤ lim ∧ cp a As h (fun v h' => K nx lv (v.toList ++ r) h')
      | _ => False
    | .ireturn => match st with
      | [.int x] => (∃ ty, rt = some ty ∧ narrow ty (.int x) = .int x) ∧ Q (some (.int x)) h
      | _ => False
    | .lreturn => match st with
      | [.long x] => rt = some .long ∧ Q (some (.long x)) h
      | _ => False
    | .return_ => match st with
      | [] => rt = none ∧ Q none h
      | _ => False
    | _ => False
/-- wp: least predicate closed under the rules, weakening built in; E: exits -/
def am_X (cp : am_P) (nL lim : Nat) (rt : Option FieldType) (cod : Nat → Option am_R) (E : Nat → am_V → List Value → am_H → Prop) (Q : am_Q) (pc : Nat) (lv : am_V) (st : List Value) (h : am_H) : Prop :=
  ∀ P : Nat → am_V → List Value → am_H → Prop, (∀ pc lv st h, E pc lv st h → P pc lv st h) → (∀ pc lv st h r K0 Q0, cod pc = some r → am_stp cp nL lim rt pc r lv st h K0 Q0 → (∀ pc lv st h, K0 pc lv st h → P pc lv st h) → (∀ v h, Q0 v h → Q v h) → P pc lv st h) → P pc lv st h
def am_W (cp : am_P) (nL lim : Nat) (rt : Option FieldType) (cod : Nat → Option am_R) (Q : am_Q) (pc : Nat) (lv : am_V) (st : List Value) (h : am_H) : Prop := am_X cp nL lim rt cod (fun _ _ _ _ => False) Q pc lv st h
theorem am_xstep {cp : am_P} {nL lim : Nat} {rt : Option FieldType} {cod : Nat → Option am_R} {E : Nat → am_V → List Value → am_H → Prop} {Q : am_Q} {pc : Nat} {lv : am_V} {st : List Value} {h : am_H} {r : am_R} (hc : cod pc = some r) (hs : am_stp cp nL lim rt pc r lv st h (am_X cp nL lim rt cod E Q) Q) : am_X cp nL lim rt cod E Q pc lv st h :=
  fun P hE hP => hP _ _ _ _ r _ Q hc hs (fun _ _ _ _ k => k P hE hP) (fun _ _ q => q)
theorem am_xexit {cp : am_P} {nL lim : Nat} {rt : Option FieldType} {cod : Nat → Option am_R} {E : Nat → am_V → List Value → am_H → Prop} {Q : am_Q} {pc : Nat} {lv : am_V} {st : List Value} {h : am_H} (he : E pc lv st h) : am_X cp nL lim rt cod E Q pc lv st h :=
  fun _ hE _ => hE _ _ _ _ he
theorem am_step {cp : am_P} {nL lim : Nat} {rt : Option FieldType} {cod : Nat → Option am_R} {Q : am_Q} {pc : Nat} {lv : am_V} {st : List Value} {h : am_H} {r : am_R} (hc : cod pc = some r) (hs : am_stp cp nL lim rt pc r lv st h (am_W cp nL lim rt cod Q) Q) : am_W cp nL lim rt cod Q pc lv st h := am_xstep hc hs
theorem am_X.mono {cp : am_P} {nL lim : Nat} {rt : Option FieldType} {cod : Nat → Option am_R} {E E' : Nat → am_V → List Value → am_H → Prop} {Q Q' : am_Q} {pc : Nat} {lv : am_V} {st : List Value} {h : am_H} (hE : ∀ pc lv st h, E pc lv st h → am_X cp nL lim rt cod E' Q' pc lv st h) (hQ : ∀ v h, Q v h → Q' v h) (k : am_X cp nL lim rt cod E Q pc lv st h) : am_X cp nL lim rt cod E' Q' pc lv st h :=
  fun P hE' hP => k P (fun pc lv st h he => hE pc lv st h he P hE' hP) fun pc lv st h r K0 Q0 hc hs hk hq => hP pc lv st h r K0 Q0 hc hs hk fun v h x => hQ v h (hq v h x)
theorem am_W.mono {cp : am_P} {nL lim : Nat} {rt : Option FieldType} {cod : Nat → Option am_R} {Q Q' : am_Q} {pc : Nat} {lv : am_V} {st : List Value} {h : am_H} (hQ : ∀ v h, Q v h → Q' v h) (k : am_W cp nL lim rt cod Q pc lv st h) : am_W cp nL lim rt cod Q' pc lv st h :=
  am_X.mono (fun _ _ _ _ q => q.elim) hQ k
/-- the locals at a method's entry -/
def am_nL (n : Nat) : Nat := match am_mi[n]? with
  | some q => q.2.2.1
  | none => 0
def am_rt (n : Nat) : Option FieldType := match am_mi[n]? with
  | some q => q.2.2.2
  | none => none
def am_by (n : Nat) : ByteArray := match am_mi[n]? with
  | some q => q.2.1
  | none => ⟨#[]⟩
/-- calls of depth at most d -/
def am_call (cods : Nat → Nat → Option am_R) : Nat → am_P
  | 0 => fun _ _ _ _ => False
  | d + 1 => fun n args h Q => am_call cods d n args h Q ∨ ((lg_sl args).length ≤ am_nL n ∧ am_W (am_call cods d) (am_nL n) (h.2.2.2.2 + am_al n) (am_rt n) (cods n) (fun v h' => h'.2.2.2.2 = h.2.2.2.2 + am_al n ∧ Q v h') 0 (lv_args 0 args) [] h)
theorem am_call.up {cods : Nat → Nat → Option am_R} {d e n : Nat} {args : List Value} {h : am_H} {Q : am_Q} (k : am_call cods d n args h Q) (hd : d ≤ e) : am_call cods e n args h Q := by
  induction hd with
  | refl => exact k
  | step _ ih => exact Or.inl ih
theorem am_call.mono {cods : Nat → Nat → Option am_R} {d n : Nat} {args : List Value} {h : am_H} {Q Q' : am_Q} (hQ : ∀ v h, Q v h → Q' v h) (k : am_call cods d n args h Q) : am_call cods d n args h Q' := by
  induction d with
  | zero => exact k
  | succ d ih => exact k.elim (fun k => Or.inl (ih k)) (fun k => Or.inr ⟨k.1, k.2.mono (fun v h q => ⟨q.1, hQ v h q.2⟩)⟩)
end
section
/-! WORDS, ROWS, WORLD: what the tables give, when a row is right, the cells that an abstract heap stands for -/
theorem am_mem_of {α : Type} {f : Cond → Option α} {L : List α} (h : lw_tbl.filterMap f = L) {k : Nat} {x : α} (hk : L[k]? = some x) : ∃ w, w ∈ lw_tbl ∧ f w = some x := by
  have h1 := List.mem_of_getElem? hk
  rw [← h] at h1
  exact List.mem_filterMap.mp h1
theorem am_mem_in {α : Type} {f : Cond → Option α} {x : α} (h1 : x ∈ lw_tbl.filterMap f) : ∃ w, w ∈ lw_tbl ∧ f w = some x := List.mem_filterMap.mp h1
def am_gw : List Cond := lw_tbl.filter goodWord
theorem am_gw_of {w : Cond} (h : w ∈ lw_tbl) (hg : goodWord w = true) : w ∈ am_gw := List.mem_filter.mpr ⟨h, hg⟩
theorem am_gw_code {n : Nat} {q : MethodName × ByteArray × Nat × Option FieldType} (h : am_mi[n]? = some q) : Cond.code q.1 q.2.1 q.2.2.1 q.2.2.2 ∈ am_gw := by
  obtain ⟨w, h1, h2⟩ := am_mem_of am_mi_eq h
  unfold am_isCode at h2
  split at h2
  · cases h2
    exact am_gw_of h1 rfl
  · cases h2
theorem am_gw_fl {k : Nat} {a b c d : String} {i : Nat} (h : am_fl[k]? = some (a, i, b, c, d)) : Cond.fieldLink a i b c d ∈ am_gw := by
  obtain ⟨w, h1, h2⟩ := am_mem_of am_fl_eq h
  unfold am_isFL at h2
  split at h2
  · cases h2
    exact am_gw_of h1 rfl
  · cases h2
theorem am_gw_cl {k : Nat} {a : String} {i : Nat} {v : Int64} (h : am_cl[k]? = some (a, i, v)) : Cond.constantLong a i v ∈ am_gw := by
  obtain ⟨w, h1, h2⟩ := am_mem_of am_cl_eq h
  unfold am_isCL at h2
  split at h2
  · cases h2
    exact am_gw_of h1 rfl
  · cases h2
theorem am_gw_ci {k : Nat} {a : String} {i : Nat} {v : Int32} (h : am_ci[k]? = some (a, i, v)) : Cond.constant a i v ∈ am_gw := by
  obtain ⟨w, h1, h2⟩ := am_mem_of am_ci_eq h
  unfold am_isCI at h2
  split at h2
  · cases h2
    exact am_gw_of h1 rfl
  · cases h2
theorem am_gw_ml {k n : Nat} {a : String} {i : Nat} (h : am_ml[k]? = some (a, i, n)) (hn : ¬ n = 999) : Cond.methodLink a i (am_y n) ∈ am_gw := by
  have hk : k < am_ml.length := (List.getElem?_eq_some_iff.mp h).1
  have hk2 : k < am_mlq.length := am_ml_eq.2 ▸ hk
  have hz : (am_ml.zip am_mlq)[k]? = some ((a, i, n), am_mlq[k]) := by
    rw [List.getElem?_zip_eq_some]
    exact ⟨h, List.getElem?_eq_getElem hk2⟩
  have h1 := List.all_eq_true.mp am_ml_eq.1 _ (List.mem_of_getElem? hz)
  simp only [Bool.and_eq_true, decide_eq_true_eq, Bool.or_eq_true] at h1
  obtain ⟨e1, e2, e3⟩ := h1
  have e3 := e3.resolve_right hn
  obtain ⟨w, w1, w2⟩ := am_mem_in (f := am_isML) (x := am_mlq[k]) (List.getElem_mem hk2)
  unfold am_isML at w2
  split at w2
  · have w2 := (Option.some.inj w2)
    rw [← w2] at e1 e2 e3
    rw [e1, e2, e3]
    exact am_gw_of w1 rfl
  · cases w2
def am_stw : List MethodName := lw_tbl.filterMap am_isSt
def am_inw : List MethodName := lw_tbl.filterMap am_isIn
def am_sew : List MethodName := lw_tbl.filterMap am_isSe
def am_iiw : List String := lw_tbl.filterMap am_isIi
theorem am_gw_st {y : MethodName} (h : y ∈ am_stw) : Cond.static y ∈ am_gw := by
  obtain ⟨w, h1, h2⟩ := am_mem_in h
  unfold am_isSt at h2
  split at h2
  · cases h2
    exact am_gw_of h1 rfl
  · cases h2
theorem am_gw_in {y : MethodName} (h : y ∈ am_inw) : Cond.instanceMethod y ∈ am_gw := by
  obtain ⟨w, h1, h2⟩ := am_mem_in h
  unfold am_isIn at h2
  split at h2
  · cases h2
    exact am_gw_of h1 rfl
  · cases h2
theorem am_gw_ii {y : String} (h : y ∈ am_iiw) : Cond.initialized y ∈ am_gw := by
  obtain ⟨w, h1, h2⟩ := am_mem_in h
  unfold am_isIi at h2
  split at h2
  · cases h2
    exact am_gw_of h1 rfl
  · cases h2
theorem am_gw_se {y : MethodName} (h : y ∈ am_sew) : Cond.selects y.cls y y ∈ am_gw := by
  obtain ⟨w, h1, h2⟩ := am_mem_in h
  unfold am_isSe at h2
  split at h2
  · rename_i c y' z
    by_cases hc : (decide (c = y'.cls) && decide (y' = z)) = true
    · rw [hc] at h2
      simp only [Bool.and_eq_true, decide_eq_true_eq] at hc
      obtain ⟨rfl, rfl⟩ := hc
      cases h2
      exact am_gw_of h1 rfl
    · rw [Bool.not_eq_true] at hc
      rw [hc] at h2
      cases h2
  · cases h2
/-- the length of an instruction; 0 for a switch -/
def am_len : Instr → Nat
  | .bipush _ | .ldc _ | .iload _ | .lload _ | .aload _ | .istore _ | .lstore _ | .astore _ | .newarray _ => 2
  | .sipush _ | .ldc_w _ | .ldc2_w _ | .iinc _ _ | .goto _ | .if_icmp _ _ | .ifCond _ _ | .getfield _ | .putfield _ | .getstatic _ | .invokevirtual _ | .invokestatic _ | .invokespecial _ | .new _ | .anewarray _ => 3
  | .tableswitch _ _ _ _ | .lookupswitch _ _ => 0
  | _ => 1
def am_nf (ci : Nat) : Nat := (am_kds.getD ci []).length
def am_fd (ci k : Nat) : String × String × String × Bool := match vwCl[ci]? with
  | some q => q.2.1 k
  | none => ("", "", "", false)
def am_cn (ci : Nat) : String := match vwCl[ci]? with
  | some q => q.1
  | none => ""
def am_prm (y : MethodName) : Option Nat := (parseMethodDescriptor y.desc).map (fun d => d.parameters.length)
def am_hd (y : MethodName) : Bool := decide (y.cls ≠ "java/lang/invoke/MethodHandle") && decide (y.cls ≠ "java/lang/invoke/VarHandle")
def am_tc : List FieldType := [.char, .int, .long, .boolean]
def am_atc : ArrayType → Nat
  | .char => 12
  | .int => 13
  | .long => 14
  | .boolean => 15
  | _ => 99
def am_ex (ini : Bool) (own : String) (pc : Nat) (i : Instr) (a b c d : Nat) : Bool := match i with
  | .goto o | .if_icmp _ o | .ifCond _ o => decide ((pc : Int) + o = (a : Int))
  | .getstatic k => (Nat.beq b 0 && decide (am_fl[c]? = some (own, k, "java/lang/String", "COMPACT_STRINGS", "Z"))) || (Nat.beq b 1 && decide (am_fl[c]? = some (own, k, "jdk/internal/util/Preconditions", "SIOOBE_FORMATTER", "Ljava/util/function/BiFunction;")))
  | .getfield k => bif Nat.beq b 20 then (Nat.beq a 0 && decide (am_fl[c]? = some (own, k, "java/lang/String", "value", "[B"))) || (Nat.beq a 1 && decide (am_fl[c]? = some (own, k, "java/lang/String", "coder", "B"))) else decide (am_fl[c]? = some (own, k, (am_fd b a).1, (am_fd b a).2.1, (am_fd b a).2.2.1)) && (decide (b < 12) && decide (a < am_nf b))
  | .putfield k => decide (am_fl[c]? = some (own, k, (am_fd b a).1, (am_fd b a).2.1, (am_fd b a).2.2.1)) && (decide (b < 12) && (decide (a < am_nf b) && (!(am_fd b a).2.2.2 || (ini && decide ((am_fd b a).1 = own)))))
  | .ldc2_w k => decide ((am_cl[c]?).map (fun q => (q.1, q.2.1)) = some (own, k))
  | .ldc k => bif Nat.beq b 1 then decide ((am_stt[c]?).map (fun q => (q.1, q.2.1)) = some (own, k)) else decide ((am_ci[c]?).map (fun q => (q.1, q.2.1)) = some (own, k))
  | .ldc_w k => !(Nat.beq b 1) && decide ((am_ci[c]?).map (fun q => (q.1, q.2.1)) = some (own, k))
  | .new k => decide (am_ck[c]? = some (own, k, am_cn b)) && (decide (b < 12) && decide (am_cn b ∈ am_iiw))
  | .newarray t => Nat.beq b (am_atc t) && Nat.ble b 15
  | .anewarray k => (Nat.beq b 16 && decide (am_ck[c]? = some (own, k, "MistCanton$Mark"))) || (Nat.beq b 17 && decide (am_ck[c]? = some (own, k, "MistCanton$State")))
  | .invokespecial k => decide (am_ml[c]? = some (own, k, a)) && ((Nat.beq a 1 && Nat.beq b 0) || decide ((a, b) ∈ am_ils))
  | .invokevirtual k => decide (am_ml[c]? = some (own, k, a)) && (bif Nat.beq d 20 then decide ((a, b) ∈ am_svl) else decide ((a, b, d) ∈ am_vls))
  | .invokestatic k => (bif Nat.beq d 1 then decide (am_nl[c]? = some (own, k, a)) else decide (am_ml[c]? = some (own, k, a))) && decide ((a, b) ∈ am_sls)
  | _ => true
def am_okB (ini : Bool) (own : String) (cc : ByteArray) (pc : Nat) (r : am_R) : Bool := match r with
  | (i, nx, a, b, c, d) => match i with
    | .tableswitch df lo hi os => (match decode cc pc with
      | .ok (i', _) => decide (i' = .tableswitch df lo hi os)
      | _ => false) && (decide (0 ≤ (pc : Int) + df) && (os.toList.all (fun o => decide (0 ≤ (pc : Int) + o)) && decide ((os.size : Int) = hi - lo + 1)))
    | .lookupswitch df ps => (match decode cc pc with
      | .ok (i', _) => decide (i' = .lookupswitch df ps)
      | _ => false) && (decide (0 ≤ (pc : Int) + df) && (ps.toList.all (fun o => decide (0 ≤ (pc : Int) + o.2)) && (ps.toList.zip (ps.toList.drop 1)).all (fun (a, next) => a.1 < next.1)))
    | i => decide (decode cc pc = .ok (i, am_len i)) && (decide (nx = pc + am_len i) && am_ex ini own pc i a b c d)
/-- what the tables say of the methods that are called -/
def am_mok (n : Nat) : Bool := decide ((am_y n).cls ∈ am_iiw) && (decide (n < am_mi.length) && (decide (am_nL n ≤ 21) && (am_hd (am_y n) && !(Nat.beq n 999))))
theorem am_vls_ok : am_vls.all (fun q => decide (am_y q.1 ∈ am_inw) && (decide (am_y q.1 ∈ am_sew) && (decide (am_prm (am_y q.1) = some q.2.1) && (decide (am_cn q.2.2 = (am_y q.1).cls) && (decide (q.2.2 < 12) && am_mok q.1))))) = true := by decide +kernel
theorem am_svl_ok : am_svl.all (fun q => decide (am_y q.1 ∈ am_inw) && (decide (am_y q.1 ∈ am_sew) && (decide (am_prm (am_y q.1) = some q.2) && (decide ((am_y q.1).cls = "java/lang/String") && am_mok q.1)))) = true := by decide +kernel
theorem am_sls_ok : am_sls.all (fun q => decide (am_y q.1 ∈ am_stw) && (decide (am_prm (am_y q.1) = some q.2) && am_mok q.1)) = true := by decide +kernel
theorem am_ils_ok : am_ils.all (fun q => decide (am_y q.1 ∈ am_inw) && (decide (am_prm (am_y q.1) = some q.2) && (decide ((am_y q.1).name = "<init>") && (decide (am_rt q.1 = none) && am_mok q.1)))) = true := by decide +kernel
theorem am_iaw_ok : (List.range 12).all (fun ci => decide ((am_cn ci, am_nf ci) ∈ lw_tbl.filterMap am_isIa)) = true := by decide +kernel
theorem am_gw_ck {k : Nat} {a b : String} {i : Nat} (h : am_ck[k]? = some (a, i, b)) : Cond.classLink a i b ∈ am_gw := by
  obtain ⟨w, h1, h2⟩ := am_mem_of am_ck_eq h
  unfold am_isCk at h2
  split at h2
  · cases h2
    exact am_gw_of h1 rfl
  · cases h2
theorem am_gw_ia {a : String} {i : Nat} (h : (a, i) ∈ lw_tbl.filterMap am_isIa) : Cond.instantiable a i ∈ am_gw := by
  obtain ⟨w, h1, h2⟩ := am_mem_in h
  unfold am_isIa at h2
  split at h2
  · cases h2
    exact am_gw_of h1 rfl
  · cases h2
/-- values and cells -/
def am_cv (ad : Nat → Nat) : Value → Value
  | .ref a => .ref (ad a)
  | v => v
theorem am_cv_cat (ad : Nat → Nat) (v : Value) : (am_cv ad v).category = v.category := by cases v <;> rfl
def am_cl2 (ad : Nat → Nat) (lv : am_V) : am_V := lv.map (fun q => (q.1, am_cv ad q.2))
def am_cell (cA : Nat → ClassId) (ad : Nat → Nat) (h : am_H) (o : Nat) (e : Nat × Nat) : va_E :=
  if e.1 < 12 then .inr (e.1, (List.range (am_nf e.1)).map (fun k => am_cv ad (am_gv h e.1 k o)))
  else if e.1 = 14 then .inl (cA 14, e.2, .inr (.inl (h.2.1 o)))
  else if e.1 = 16 ∨ e.1 = 17 then .inl (cA e.1, e.2, .inr (.inr (.inr (.inr (fun j => (h.2.2.1 o j).map ad)))))
  else .inl (cA e.1, e.2, .inl (h.1 o))
def am_cc (cA : Nat → ClassId) (ad : Nat → Nat) (h : am_H) : va_W := (List.range h.2.2.2.2).map (fun o => (ad o, am_cell cA ad h o (am_shl.getD o (99, 0))))
theorem am_so_lt {h : am_H} {o : Nat} {e : Nat × Nat} (he : am_so h o = some e) : o < h.2.2.2.2 ∧ am_shl[o]? = some e := by
  unfold am_so at he
  cases hq : Nat.blt o h.2.2.2.2 with
  | true =>
    rw [hq] at he
    exact ⟨Nat.le_of_ble_eq_true hq, he⟩
  | false =>
    rw [hq] at he
    cases he
theorem am_cc_at {cA : Nat → ClassId} {ad : Nat → Nat} {h : am_H} {o : Nat} {e : Nat × Nat} (he : am_so h o = some e) : (am_cc cA ad h)[o]? = some (ad o, am_cell cA ad h o e) := by
  obtain ⟨hlt, he⟩ := am_so_lt he
  obtain ⟨hlt2, hv⟩ := List.getElem?_eq_some_iff.mp he
  simp [am_cc, hlt, hlt2, hv]
theorem am_cc_in {cA : Nat → ClassId} {ad : Nat → Nat} {h : am_H} {o : Nat} {q : Nat × va_E} (hq : (am_cc cA ad h)[o]? = some q) : o < h.2.2.2.2 ∧ q.1 = ad o := by
  unfold am_cc at hq
  rw [List.getElem?_map] at hq
  cases hr : (List.range h.2.2.2.2)[o]? with
  | none => rw [hr] at hq; cases hq
  | some x =>
    rw [hr] at hq
    obtain ⟨h1, h2⟩ := List.getElem?_eq_some_iff.mp hr
    have h3 : x = o := by rw [← h2]; simp
    cases hq
    exact ⟨by simpa using h1, by rw [h3]⟩
theorem am_cc_D {cA : Nat → ClassId} {ad : Nat → Nat} {base : Nat} {h : am_H} (hc : h.2.2.2.2 ≤ am_shl.length) (had : ∀ o, o < am_shl.length → ad o = base + o) : va_D (fun q => base ≤ q) (am_cc cA ad h) := by
  refine ⟨fun i j p q hi hj e => ?_, fun k q hk => ?_⟩
  · obtain ⟨a1, a2⟩ := am_cc_in hi
    obtain ⟨b1, b2⟩ := am_cc_in hj
    rw [a2, b2, had i (by omega), had j (by omega)] at e
    omega
  · obtain ⟨a1, a2⟩ := am_cc_in hk
    show base ≤ q.1
    rw [a2, had k (by omega)]
    omega
theorem am_cc_set {cA : Nat → ClassId} {ad : Nat → Nat} {h h' : am_H} {o : Nat} {e : Nat × Nat} (he : am_so h o = some e) (hn : h'.2.2.2.2 = h.2.2.2.2) (hs : ∀ o' e', o' ≠ o → am_cell cA ad h' o' e' = am_cell cA ad h o' e') :
    am_cc cA ad h' = (am_cc cA ad h).set o (ad o, am_cell cA ad h' o e) := by
  have he' : am_so h' o = some e := by unfold am_so; rw [hn]; exact he
  have hlt : o < h.2.2.2.2 := (am_so_lt he).1
  apply List.ext_getElem?
  intro k
  by_cases hk : k = o
  · subst hk
    rw [am_cc_at he', List.getElem?_set_self (by simp [am_cc, hlt])]
  · rw [List.getElem?_set_ne (fun q => hk q.symm)]
    simp only [am_cc, List.getElem?_map, hn]
    cases hr : (List.range h.2.2.2.2)[k]? with
    | none => rfl
    | some x =>
      obtain ⟨h1, h2⟩ := List.getElem?_eq_some_iff.mp hr
      have h3 : x = k := by rw [← h2]; simp
      subst h3
      simp only [Option.map_some]
      rw [hs _ _ hk]
theorem am_gv_new {h : am_H} {ci j o' : Nat} (hn : o' ≠ h.2.2.2.2) : am_gv (am_nx h) ci j o' = am_gv h ci j o' := by
  unfold am_gv am_nx
  split <;> simp [hn]
theorem am_cell_new {cA : Nat → ClassId} {ad : Nat → Nat} {h : am_H} (o' : Nat) (e' : Nat × Nat) (hn : o' ≠ h.2.2.2.2) : am_cell cA ad (am_nx h) o' e' = am_cell cA ad h o' e' := by
  unfold am_cell
  simp only [am_gv_new hn]
  simp [am_nx, hn]
theorem am_cc_new {cA : Nat → ClassId} {ad : Nat → Nat} {h : am_H} {e : Nat × Nat} (he : am_shl[h.2.2.2.2]? = some e) : am_cc cA ad (am_nx h) = am_cc cA ad h ++ [(ad h.2.2.2.2, am_cell cA ad (am_nx h) h.2.2.2.2 e)] := by
  obtain ⟨hlt2, hv⟩ := List.getElem?_eq_some_iff.mp he
  have h1 : (am_nx h).2.2.2.2 = h.2.2.2.2 + 1 := rfl
  unfold am_cc
  rw [h1, List.range_succ, List.map_append]
  congr 1
  · apply List.map_congr_left
    intro o ho
    have : o ≠ h.2.2.2.2 := by
      have := List.mem_range.mp ho
      omega
    rw [am_cell_new o _ this]
  · simp [hlt2, hv]
theorem am_gv_oI {h : am_H} {o k : Nat} {v : Int32} {ci j o' : Nat} (hn : o' ≠ o) : am_gv (am_wI h o k v) ci j o' = am_gv h ci j o' := by
  unfold am_gv am_wI
  split <;> simp [hn]
theorem am_gv_oL {h : am_H} {o k : Nat} {v : Int64} {ci j o' : Nat} (hn : o' ≠ o) : am_gv (am_wL h o k v) ci j o' = am_gv h ci j o' := by
  unfold am_gv am_wL
  split <;> simp [hn]
theorem am_gv_oR {h : am_H} {o k : Nat} {v : Option Nat} {ci j o' : Nat} (hn : o' ≠ o) : am_gv (am_wR h o k v) ci j o' = am_gv h ci j o' := by
  unfold am_gv am_wR
  split <;> simp [hn]
theorem am_cell_oI {cA : Nat → ClassId} {ad : Nat → Nat} {h : am_H} {o k : Nat} {v : Int32} (o' : Nat) (e' : Nat × Nat) (hn : o' ≠ o) : am_cell cA ad (am_wI h o k v) o' e' = am_cell cA ad h o' e' := by
  unfold am_cell
  simp only [am_gv_oI hn]
  simp [am_wI, hn]
theorem am_cell_oL {cA : Nat → ClassId} {ad : Nat → Nat} {h : am_H} {o k : Nat} {v : Int64} (o' : Nat) (e' : Nat × Nat) (hn : o' ≠ o) : am_cell cA ad (am_wL h o k v) o' e' = am_cell cA ad h o' e' := by
  unfold am_cell
  simp only [am_gv_oL hn]
  simp [am_wL, hn]
theorem am_cell_oR {cA : Nat → ClassId} {ad : Nat → Nat} {h : am_H} {o k : Nat} {v : Option Nat} (o' : Nat) (e' : Nat × Nat) (hn : o' ≠ o) : am_cell cA ad (am_wR h o k v) o' e' = am_cell cA ad h o' e' := by
  unfold am_cell
  simp only [am_gv_oR hn]
  simp [am_wR, hn]
end
section
/-! SOUNDNESS: a step of the abstract machine is a step of the machine -/
/-- the array classes in their order -/
def am_tys (cA : Nat → ClassId) : List (ClassId × FieldType) := [(cA 12, .char), (cA 13, .int), (cA 14, .long), (cA 15, .boolean), (cA 16, .object "MistCanton$Mark"), (cA 17, .object "MistCanton$State")]
def am_nw (U : State) : Prop := ∀ (k i n : Nat) (a : String), am_nl[k]? = some (a, i, n) → va_Nw (.methodLinkNest a i (am_y n) "MistCanton") U
/-- String constants, and the statics that their methods read -/
def am_SE (ad : Nat → Nat) (A : Nat → Prop) (U : State) (H : Heap) : Prop := vk_S 26 am_sln am_sby (fun i => ad (4000000 + i)) (fun i => ad (5000000 + i)) A U H ∧ (∀ (i k : Nat) (own tx : String), am_stt[i]? = some (own, k, tx) → vk_R own k tx (ad (4000000 + i)) U) ∧ va_Z "java/lang/String" "COMPACT_STRINGS" "Z" (.int 1) A U H ∧ va_Z "jdk/internal/util/Preconditions" "SIOOBE_FORMATTER" "Ljava/util/function/BiFunction;" (.ref (ad 6000000)) A U H
def am_E (D : va_G) (cA : Nat → ClassId) (ad : Nat → Nat) (base b L : Nat) (xs : Nat → Int32) (U : State) : Prop := va_K D vwCl (am_tys cA) U ∧ am_nw U ∧ va_X b L xs U U.heap ∧ va_AO "MistCanton$Mark" U ∧ va_AO "MistCanton$State" U ∧ am_SE ad (fun q => base ≤ q) U U.heap
def am_ro (L : Nat) (xs : Nat → Int32) (h : am_H) : Prop := h.2.2.2.1 = L ∧ ∀ j, j < L → h.1 3000000 j = xs j
def am_G (ad : Nat → Nat) (base b L : Nat) : Prop := (∀ o, o < am_shl.length → ad o = base + o) ∧ ad 3000000 = b ∧ b < base ∧ L < 2 ^ 31
theorem am_SE.warm {ad : Nat → Nat} {A : Nat → Prop} {s U : State} (hW : s.WarmedH U.vm) (hq : ∀ a : Nat, a < s.heap.size → ¬ A a → U.heap[a]? = s.heap[a]?) (h : am_SE ad A s s.heap) : am_SE ad A U U.heap :=
  ⟨(h.1.moved hW.alike).kept hq, fun i k own tx hk => (h.2.1 i k own tx hk).warm hW, (h.2.2.1.moved hW.alike).kept hq, (h.2.2.2.moved hW.alike).kept hq⟩
theorem am_SE.calling {ad : Nat → Nat} {A : Nat → Prop} {U : State} {g : JFrame} {mk : MethodId} {a : Array Value} (h : am_SE ad A U U.heap) : am_SE ad A (U.calling g mk a) (U.calling g mk a).heap :=
  ⟨vk_S.moved (u := U) (U := U.calling g mk a) (Vm.Alike.refl U.vm) h.1, fun i k own tx hk => vk_R.same (u := U) rfl (h.2.1 i k own tx hk), va_Z.moved (u := U) (U := U.calling g mk a) (Vm.Alike.refl U.vm) h.2.2.1, va_Z.moved (u := U) (U := U.calling g mk a) (Vm.Alike.refl U.vm) h.2.2.2⟩
theorem am_E.warm {D : va_G} {cA : Nat → ClassId} {ad : Nat → Nat} {base b L : Nat} {xs : Nat → Int32} {s U : State} (hW : s.WarmedH U.vm) (hq : ∀ a : Nat, a < s.heap.size → ¬ base ≤ a → U.heap[a]? = s.heap[a]?) (hb1 : b < s.heap.size) (hb2 : ¬ base ≤ b) (h : am_E D cA ad base b L xs s) : am_E D cA ad base b L xs U :=
  ⟨h.1.moved hW.alike, fun k i n a hk => (h.2.1 k i n a hk).warmM hW, (h.2.2.1.moved hW.alike).kept (hq b hb1 hb2), h.2.2.2.1.moved hW.alike, h.2.2.2.2.1.moved hW.alike, h.2.2.2.2.2.warm hW hq⟩
theorem am_E.calling {D : va_G} {cA : Nat → ClassId} {ad : Nat → Nat} {base b L : Nat} {xs : Nat → Int32} {U : State} {g : JFrame} {mk : MethodId} {a : Array Value} (h : am_E D cA ad base b L xs U) : am_E D cA ad base b L xs (U.calling g mk a) :=
  ⟨va_K.moved (u := U) (U := U.calling g mk a) (Vm.Alike.refl U.vm) h.1, fun k i n x hk => va_Nw.same (u := U) rfl rfl (h.2.1 k i n x hk), va_X.moved (u := U) (U := U.calling g mk a) (Vm.Alike.refl U.vm) h.2.2.1, va_AO.moved (u := U) (U := U.calling g mk a) (Vm.Alike.refl U.vm) h.2.2.2.1, va_AO.moved (u := U) (U := U.calling g mk a) (Vm.Alike.refl U.vm) h.2.2.2.2.1, h.2.2.2.2.2.calling⟩
def am_A (base : Nat) : Nat → Prop := fun q => base ≤ q
def am_ws (n : Nat) : List Cond := Cond.code (am_y n) (am_by n) (am_nL n) (am_rt n) :: am_gw
def am_siz (e : Nat × Nat) : Nat := bif Nat.blt e.1 12 then am_nf e.1 else e.2
/-- the slots of the first k objects -/
def am_ss (k : Nat) : Nat := ((am_shl.take k).map am_siz).sum
theorem am_ss_succ {k : Nat} {e : Nat × Nat} (h : am_shl[k]? = some e) : am_ss (k + 1) = am_ss k + am_siz e := by
  unfold am_ss
  rw [List.take_succ, h]
  simp
theorem am_ss_mono {a b : Nat} (h : a ≤ b) : am_ss a ≤ am_ss b := by
  induction h with
  | refl => exact Nat.le_refl _
  | @step m _ ih =>
    cases hq : am_shl[m]? with
    | none =>
      refine Nat.le_trans ih (Nat.le_of_eq ?_)
      unfold am_ss
      rw [List.take_succ, hq]
      simp
    | some e =>
      rw [am_ss_succ hq]
      omega
def am_rm (d mc ms : Nat) : Room := { frames := d, cells := mc, slots := ms, locals := 40 * d }
def am_ms (n : Nat) (h : am_H) : Nat := am_ss (h.2.2.2.2 + am_al n) - am_ss h.2.2.2.2
/-- while objects are made they lie one behind the other -/
def am_wf (base : Nat) (h : am_H) (H : Heap) : Prop := h.2.2.2.2 ≤ am_shl.length ∧ (h.2.2.2.2 < am_shl.length → H.size = base + h.2.2.2.2)
def am_Pc (D : va_G) (cA : Nat → ClassId) (ad : Nat → Nat) (base b L : Nat) (xs : Nat → Int32) (args : List Value) (h : am_H) : Array Value → State → Prop :=
  va_Pc (args.map (am_cv ad)) (fun U => am_E D cA ad base b L xs U ∧ base ≤ U.heap.size ∧ va_P D vwCl (am_cc cA ad h) U.heap ∧ am_ro L xs h ∧ am_wf base h U.heap)
def am_Qc (D : va_G) (cA : Nat → ClassId) (ad : Nat → Nat) (base L : Nat) (xs : Nat → Int32) (Q : am_Q) : Array Value → State → Outcome → State → Prop := fun _ st o t =>
  (∃ v h', o = .returned (v.map (am_cv ad)) ∧ Q v h' ∧ va_P D vwCl (am_cc cA ad h') t.heap ∧ am_ro L xs h' ∧ h'.2.2.2.2 ≤ am_shl.length) ∧ va_F (am_A base) st t
theorem am_Pc.blind {D : va_G} {cA : Nat → ClassId} {ad : Nat → Nat} {base b L : Nat} {xs : Nat → Int32} {args : List Value} {h : am_H} : FrameBlind (am_Pc D cA ad base b L xs args h) := by
  intro a U g mk hp
  obtain ⟨h1, h2, h3, h4, h5, h6⟩ := hp
  exact ⟨h1, h2.calling, h3, h4, h5, h6⟩
theorem am_pI.inv {st : List Value} {k : Int32 → List Value → Prop} (h : am_pI st k) : ∃ x r, st = .int x :: r ∧ k x r := by
  unfold am_pI at h
  split at h
  · exact ⟨_, _, rfl, h⟩
  · exact h.elim
theorem am_pL.inv {st : List Value} {k : Int64 → List Value → Prop} (h : am_pL st k) : ∃ x r, st = .long x :: r ∧ k x r := by
  unfold am_pL at h
  split at h
  · exact ⟨_, _, rfl, h⟩
  · exact h.elim
theorem am_pR.inv {st : List Value} {k : Nat → List Value → Prop} (h : am_pR st k) : ∃ x r, st = .ref x :: r ∧ k x r := by
  unfold am_pR at h
  split at h
  · exact ⟨_, _, rfl, h⟩
  · exact h.elim
theorem am_pV.inv {st : List Value} {k : Value → List Value → Prop} (h : am_pV st k) : ∃ x r, st = x :: r ∧ k x r := by
  unfold am_pV at h
  split at h
  · exact ⟨_, _, rfl, h⟩
  · exact h.elim
theorem am_li.inv {lv : am_V} {i : Nat} {k : Int32 → Prop} (h : am_li lv i k) : ∃ x, am_lk lv i = some (.int x) ∧ k x := by
  unfold am_li at h
  split at h
  · exact ⟨_, ‹_›, h⟩
  · exact h.elim
theorem am_ll.inv {lv : am_V} {i : Nat} {k : Int64 → Prop} (h : am_ll lv i k) : ∃ x, am_lk lv i = some (.long x) ∧ k x := by
  unfold am_ll at h
  split at h
  · exact ⟨_, ‹_›, h⟩
  · exact h.elim
theorem am_la.inv {lv : am_V} {i : Nat} {k : Nat → Prop} (h : am_la lv i k) : ∃ x, am_lk lv i = some (.ref x) ∧ k x := by
  unfold am_la at h
  split at h
  · exact ⟨_, ‹_›, h⟩
  · exact h.elim
theorem am_lk_mem {lv : am_V} {i : Nat} {v : Value} (h : am_lk lv i = some v) : (i, v) ∈ lv := by
  induction lv with
  | nil => cases h
  | cons q r ih =>
    unfold am_lk at h
    cases hq : Nat.beq q.1 i with
    | true =>
      rw [hq] at h
      have e : q.1 = i := Nat.eq_of_beq_eq_true hq
      have e2 : q.2 = v := Option.some.inj h
      rw [← e, ← e2]
      exact List.mem_cons_self
    | false =>
      rw [hq] at h
      exact List.mem_cons_of_mem _ (ih h)
theorem am_lk_at {ad : Nat → Nat} {ls : Array Slot} {nL : Nat} {lv : am_V} {i : Nat} {v : Value} (hl : lv_has ls nL (am_cl2 ad lv)) (h : am_lk lv i = some v) : ls[i]? = some (.val (am_cv ad v)) :=
  hl.2.2 (i, am_cv ad v) (List.mem_map.mpr ⟨(i, v), am_lk_mem h, rfl⟩)
theorem am_lk_pl {ad : Nat → Nat} {lv : am_V} {i : Nat} {v : Value} (h : am_lk lv i = some v) : ∃ k : Nat, (am_cl2 ad lv)[k]? = some (i, am_cv ad v) := by
  obtain ⟨k, hk, e⟩ := List.getElem_of_mem (am_lk_mem h)
  exact ⟨k, by simp [am_cl2, hk, e]⟩
theorem am_s1_cl (ad : Nat → Nat) (lv : am_V) (i : Nat) (v : Value) : (i, am_cv ad v) :: (am_cl2 ad lv).filter (fun q => !(q.1 == i) && !(q.1 + 1 == i && q.2.category == 2)) = am_cl2 ad (am_s1 lv i v) := by
  simp only [am_cl2, am_s1, List.map_cons, List.filter_map]
  congr 2
  apply List.filter_congr
  intro q _
  simp [am_cv_cat]
theorem am_s2_cl (ad : Nat → Nat) (lv : am_V) (i : Nat) (v : Value) : (i, am_cv ad v) :: (am_cl2 ad lv).filter (fun q => !(q.1 == i) && (!(q.1 == i + 1) && !(q.1 + 1 == i && q.2.category == 2))) = am_cl2 ad (am_s2 lv i v) := by
  simp only [am_cl2, am_s2, List.map_cons, List.filter_map]
  congr 2
  apply List.filter_congr
  intro q _
  simp [am_cv_cat]
theorem am_pop_inv : ∀ {n : Nat} {acc st As r : List Value}, am_pop n acc st = some (As, r) → ∃ B, As = B ++ acc ∧ B.length = n ∧ st = B.reverse ++ r
  | 0, acc, st, As, r, h => by
    cases h
    exact ⟨[], rfl, rfl, rfl⟩
  | n + 1, acc, v :: st, As, r, h => by
    obtain ⟨B, h1, h2, h3⟩ := am_pop_inv (n := n) (acc := v :: acc) (st := st) h
    exact ⟨B ++ [v], by rw [h1]; simp, by simp [h2], by rw [h3]; simp⟩
  | n + 1, acc, [], As, r, h => by cases h
theorem am_len_sh : ∀ e ∈ am_shl, e.2 < 2 ^ 31 := by decide +kernel
theorem am_shl_len : am_shl.length = 175 := by decide +kernel
theorem am_sh_lt {o : Nat} {e : Nat × Nat} (h : am_shl[o]? = some e) : o < 175 := by
  have h1 := (List.getElem?_eq_some_iff.mp h).1
  rw [am_shl_len] at h1
  exact h1
theorem am_sh_cases {h : am_H} {o : Nat} {e : Nat × Nat} (he : am_sh h o = some e) : (o = 3000000 ∧ e = (13, h.2.2.2.1)) ∨ am_so h o = some e := by
  unfold am_sh at he
  cases hq : Nat.beq o 3000000 with
  | true =>
    rw [hq] at he
    exact Or.inl ⟨Nat.eq_of_beq_eq_true hq, (Option.some.inj he).symm⟩
  | false =>
    rw [hq] at he
    exact Or.inr he
theorem am_ro.wI {L : Nat} {xs : Nat → Int32} {h : am_H} {o k : Nat} {v : Int32} (hr : am_ro L xs h) (ho : o < 175) : am_ro L xs (am_wI h o k v) := by
  refine ⟨hr.1, fun j hj => ?_⟩
  show (if 3000000 = o ∧ j = k then v else h.1 3000000 j) = xs j
  rw [if_neg (fun q => by omega)]
  exact hr.2 j hj
end
section
/-! one step -/
/-- where the count began (c0 % 1000), and how many cells more there are (c0 / 1000: made by what threw), none before all objects are there -/
def am_c0 (c0 n : Nat) : Prop := c0 % 1000 ≤ n ∧ (1000 ≤ c0 → n = am_shl.length)
def am_Inv (D : va_G) (cA : Nat → ClassId) (ad : Nat → Nat) (base L : Nat) (xs : Nat → Int32) (s : State) (c0 : Nat) (h : am_H) (H : Heap) (locs : List Loc) : Prop :=
  va_P D vwCl (am_cc cA ad h) H ∧ va_S (am_A base) s.heap H locs ∧ am_ro L xs h ∧ h.2.2.2.2 ≤ am_shl.length ∧ am_c0 c0 h.2.2.2.2
/-- a method's body as it is walked: the machine, the code, the words, what stays -/
def am_Fx (p : Program) (s : State) (m : MethodId) (args : Array Value) (c : Code) (D : va_G) (cA : Nat → ClassId) (ad : Nat → Nat) (base b L : Nat) (xs : Nat → Int32) (own : String) (cc : ByteArray) (nL c0 : Nat) : Prop :=
  p.tables.exec = Jvm.exec ∧ c.code = cc ∧ c.maxLocals = nL ∧ s.vm.findClass own = some m.cls ∧ (∀ w ∈ am_gw, w.before args s = true) ∧ am_E D cA ad base b L xs s ∧ base ≤ s.heap.size ∧ am_G ad base b L ∧ (c0 % 1000 < am_shl.length → s.heap.size = base + c0 % 1000)
/-- what is known of the calls -/
def am_Cs (l : Launch) (R : Room) (D : va_G) (cA : Nat → ClassId) (ad : Nat → Nat) (base b L : Nat) (xs : Nat → Int32) (cp : am_P) : Prop :=
  ∀ n As h Q, cp n As h Q → ∃ d : Nat, Met l (am_y n) (am_ws n) (am_rm d (am_al n) (am_ms n h)) (am_Pc D cA ad base b L xs As h) (am_Qc D cA ad base L xs (fun v h' => h'.2.2.2.2 = h.2.2.2.2 + am_al n ∧ Q v h')) (am_al n) (am_ms n h) (am_A base) ∧ d + 1 ≤ R.frames ∧ 40 + 40 * d ≤ R.locals
theorem am_ok3 {A B : Prop} {C : Bool} [Decidable A] [Decidable B] (h : (decide A && (decide B && C)) = true) : A ∧ B ∧ C = true := by
  simp only [Bool.and_eq_true, decide_eq_true_eq] at h
  exact h
theorem am_ci_ok : ∀ ci, ci < 12 → ∃ (C : String) (T : u_T) (N : Nat), vwCl[ci]? = some (C, T, N) ∧ am_nf ci = N ∧ am_cn ci = C ∧ (∀ k, am_fd ci k = T k) ∧ (∀ w ∈ u_ws C T N, w ∈ am_gw) ∧ ∃ ty : Nat → FieldType, (∀ k, k < N → parseFieldDescriptor (T k).2.2.1 = some (ty k)) ∧ (∀ a, a < N → ∀ b, b < N → a ≠ b → (T a).2.1 ≠ (T b).2.1) ∧ ∀ k, k < N → am_kd ci k = (match ty k with
    | .long => 1
    | .object _ => 2
    | .array _ => 2
    | _ => 0) ∧ am_fty ci k = ty k := by
  intro ci h
  have hci : ci = 0 ∨ ci = 1 ∨ ci = 2 ∨ ci = 3 ∨ ci = 4 ∨ ci = 5 ∨ ci = 6 ∨ ci = 7 ∨ ci = 8 ∨ ci = 9 ∨ ci = 10 ∨ ci = 11 := by omega
  rcases hci with rfl | rfl | rfl | rfl | rfl | rfl | rfl | rfl | rfl | rfl | rfl | rfl
  · exact ⟨RX0, TX0, 13, rfl, by decide +kernel, rfl, fun _ => rfl, by decide +kernel, tyX0, tyX0_ok, nmX0, by decide +kernel⟩
  · exact ⟨RX1, TX1, 2, rfl, by decide +kernel, rfl, fun _ => rfl, by decide +kernel, tyX1, tyX1_ok, nmX1, by decide +kernel⟩
  · exact ⟨RX2, TX2, 3, rfl, by decide +kernel, rfl, fun _ => rfl, by decide +kernel, tyX2, tyX2_ok, nmX2, by decide +kernel⟩
  · exact ⟨RX3, TX3, 3, rfl, by decide +kernel, rfl, fun _ => rfl, by decide +kernel, tyX3, tyX3_ok, nmX3, by decide +kernel⟩
  · exact ⟨RX4, TX4, 1, rfl, by decide +kernel, rfl, fun _ => rfl, by decide +kernel, tyX4, tyX4_ok, nmX4, by decide +kernel⟩
  · exact ⟨RX5, TX5, 4, rfl, by decide +kernel, rfl, fun _ => rfl, by decide +kernel, tyX5, tyX5_ok, nmX5, by decide +kernel⟩
  · exact ⟨RX6, TX6, 6, rfl, by decide +kernel, rfl, fun _ => rfl, by decide +kernel, tyX6, tyX6_ok, nmX6, by decide +kernel⟩
  · exact ⟨RX7, TX7, 8, rfl, by decide +kernel, rfl, fun _ => rfl, by decide +kernel, tyX7, tyX7_ok, nmX7, by decide +kernel⟩
  · exact ⟨RX8, TX8, 4, rfl, by decide +kernel, rfl, fun _ => rfl, by decide +kernel, tyX8, tyX8_ok, nmX8, by decide +kernel⟩
  · exact ⟨RX9, TX9, 1, rfl, by decide +kernel, rfl, fun _ => rfl, by decide +kernel, tyX9, tyX9_ok, nmX9, by decide +kernel⟩
  · exact ⟨RX10, TX10, 14, rfl, by decide +kernel, rfl, fun _ => rfl, by decide +kernel, tyX10, tyX10_ok, nmX10, by decide +kernel⟩
  · exact ⟨RX11, TX11, 31, rfl, by decide +kernel, rfl, fun _ => rfl, by decide +kernel, tyX11, tyX11_ok, nmX11, by decide +kernel⟩
theorem am_cell_obj {cA : Nat → ClassId} {ad : Nat → Nat} {h : am_H} {o ci n : Nat} (hc : ci < 12) : am_cell cA ad h o (ci, n) = .inr (ci, (List.range (am_nf ci)).map (fun k => am_cv ad (am_gv h ci k o))) := by
  simp [am_cell, hc]
theorem am_fs_at {ad : Nat → Nat} {h : am_H} {o ci k : Nat} (hk : k < am_nf ci) : ((List.range (am_nf ci)).map (fun k => am_cv ad (am_gv h ci k o)))[k]? = some (am_cv ad (am_gv h ci k o)) := by
  simp [hk]
theorem am_fs_set {ad : Nat → Nat} {h h' : am_H} {o ci k : Nat} (hk : k < am_nf ci) (hs : ∀ j, j ≠ k → am_gv h' ci j o = am_gv h ci j o) :
    ((List.range (am_nf ci)).map (fun k => am_cv ad (am_gv h ci k o))).set k (am_cv ad (am_gv h' ci k o)) = (List.range (am_nf ci)).map (fun k => am_cv ad (am_gv h' ci k o)) := by
  apply List.ext_getElem?
  intro j
  by_cases hj : j = k
  · subst hj
    rw [List.getElem?_set_self (by simp [hk]), am_fs_at hk]
  · rw [List.getElem?_set_ne (fun q => hj q.symm)]
    simp only [List.getElem?_map]
    cases hr : (List.range (am_nf ci))[j]? with
    | none => rfl
    | some x =>
      obtain ⟨h1, h2⟩ := List.getElem?_eq_some_iff.mp hr
      have h3 : x = j := by rw [← h2]; simp
      subst h3
      simp only [Option.map_some, hs _ hj]
theorem am_rf_cv (ad : Nat → Nat) (r : Option Nat) : am_cv ad (am_rf r) = va_rf (r.map ad) := by cases r <;> rfl
end
section
/-! ONE STEP, SOUND -/
variable {p : Program} {l : Launch} {e : Env} {R : Room} {s : State} {m : MethodId} {args : Array Value} {below : List Frame} {meth : Method} {c : Code} {H : Heap} {locs : List Loc} {cells slots : Nat} {Qw : State → Prop} {D : va_G} {cA : Nat → ClassId} {ad : Nat → Nat} {base b L nL : Nat} {xs : Nat → Int32} {own : String} {cc : ByteArray} {cp : am_P} {rt : Option FieldType} {c0 lim : Nat} {ini : Bool}
/-- behind a continuation the machine goes on -/
def am_ce (c0 : Nat) (h : am_H) : Nat := h.2.2.2.2 - c0 % 1000 + c0 / 1000
def am_sc (c0 : Nat) (h : am_H) : Nat := am_ss h.2.2.2.2 - am_ss (c0 % 1000) + 6 * (c0 / 1000)
def am_Kw (p : Program) (l : Launch) (e : Env) (R : Room) (s : State) (m : MethodId) (args : Array Value) (below : List Frame) (meth : Method) (c : Code) (c0 : Nat) (Qw : State → Prop) (D : va_G) (cA : Nat → ClassId) (ad : Nat → Nat) (base L nL : Nat) (xs : Nat → Int32) (K : Nat → am_V → List Value → am_H → Prop) : Prop :=
  ∀ pc lv st h H locs ls, K pc lv st h → am_Inv D cA ad base L xs s c0 h H locs → lv_has ls nL (am_cl2 ad lv) → W p l e R s m args below meth c H locs (am_ce c0 h) (am_sc c0 h) Qw (F0 m pc ls (st.map (am_cv ad)))
/-- a return's place: the instruction, its stack, its type -/
def am_rk (cc : ByteArray) (rt : Option FieldType) (pc : Nat) (v : Option Value) (st : List Value) : Prop :=
  (∃ x, v = some (.int x) ∧ st = [.int x] ∧ decode cc pc = .ok (.ireturn, 1) ∧ ∃ ty, rt = some ty ∧ narrow ty (.int x) = .int x) ∨ (∃ x, v = some (.long x) ∧ st = [.long x] ∧ decode cc pc = .ok (.lreturn, 1) ∧ rt = some .long) ∨ (v = none ∧ st = [] ∧ decode cc pc = .ok (.return_, 1) ∧ rt = none)
def am_Qr (p : Program) (l : Launch) (e : Env) (R : Room) (s : State) (m : MethodId) (args : Array Value) (below : List Frame) (meth : Method) (c : Code) (c0 : Nat) (Qw : State → Prop) (D : va_G) (cA : Nat → ClassId) (ad : Nat → Nat) (base L : Nat) (xs : Nat → Int32) (cc : ByteArray) (rt : Option FieldType) (Q0 : am_Q) : Prop :=
  ∀ v h H locs pc ls st, Q0 v h → am_Inv D cA ad base L xs s c0 h H locs → am_rk cc rt pc v st → W p l e R s m args below meth c H locs (am_ce c0 h) (am_sc c0 h) Qw (F0 m pc ls st)
theorem am_call_go {Q : am_Q} {h : am_H} {n : Nat} {a : Array Value} {pc : Nat} {ls : Array Slot} {st0 rest : List Value} (hr : va_Run p l e R s m args below meth c H locs (am_ce c0 h) (am_sc c0 h) (am_al n) (am_ms n h) (F0 m pc ls st0) rest (am_Qc D cA ad base L xs (fun v h' => h'.2.2.2.2 = h.2.2.2.2 + am_al n ∧ Q v h') a) (am_A base)) (hS : va_S (am_A base) s.heap H locs) (hc0 : am_c0 c0 h.2.2.2.2)
    (kk : ∀ v h' H1 locs1, Q v h' → am_Inv D cA ad base L xs s c0 h' H1 locs1 → W p l e R s m args below meth c H1 locs1 (am_ce c0 h') (am_sc c0 h') Qw (F0 m (pc + 3) ls ((v.map (am_cv ad)).toList ++ rest))) : W p l e R s m args below meth c H locs (am_ce c0 h) (am_sc c0 h) Qw (F0 m pc ls st0) := by
  intro T hT X
  obtain ⟨v, st₀, t, T', Lc, h0, X', hL, e1, e2, ⟨⟨v', h', hv, ⟨hcn, hp⟩, hP, hro, hwf⟩, hz, hk⟩, st⟩ := hr T hT X
  cases hv
  rw [h0] at hz hk
  have hc1 := hc0.1
  have hc2 := hc0.2
  have g1 : am_ce c0 h + am_al n = am_ce c0 h' := by unfold am_ce; omega
  have g2 : am_sc c0 h + am_ms n h = am_sc c0 h' := by
    have q1 := am_ss_mono hc0.1
    have q2 := am_ss_mono (Nat.le_add_right h.2.2.2.2 (am_al n))
    unfold am_sc am_ms
    rw [hcn]
    omega
  rw [g1, g2] at X'
  obtain ⟨t2, a1, b1⟩ := kk v' h' T'.heap (locs ++ Lc) hp ⟨by rw [e1]; exact hP, ⟨Nat.le_trans hS.1 (by rw [e1]; exact hz), fun q h1 h2 => by rw [e1, hk q (Nat.lt_of_lt_of_le h1 hS.1) h2]; exact hS.2.1 q h1 h2, fun q hq => by
      rcases List.mem_append.mp hq with h | h
      · exact hS.2.2 q h
      · exact hL q h⟩, hro, hwf, by omega, fun z => by have := hc2 z; omega⟩ T' rfl X'
  exact ⟨t2, st t2 a1, b1⟩
theorem am_obj {h : am_H} {o ci : Nat} (hsh : am_sh h o = some (ci, 0)) (hc : ci < 12) : am_so h o = some (ci, 0) := by
  rcases am_sh_cases hsh with ⟨-, h2⟩ | h2
  · have := congrArg Prod.fst h2
    dsimp only at this
    omega
  · exact h2
theorem am_cell_i {h : am_H} {o t n : Nat} (ht : t = 12 ∨ t = 13 ∨ t = 15) : am_cell cA ad h o (t, n) = .inl (cA t, n, .inl (h.1 o)) := by
  rcases ht with rfl | rfl | rfl <;> simp [am_cell]
theorem am_cell_l {h : am_H} {o n : Nat} : am_cell cA ad h o (14, n) = .inl (cA 14, n, .inr (.inl (h.2.1 o))) := by simp [am_cell]
theorem am_cell_r {h : am_H} {o t n : Nat} (ht : t = 16 ∨ t = 17) : am_cell cA ad h o (t, n) = .inl (cA t, n, .inr (.inr (.inr (.inr (fun j => (h.2.2.1 o j).map ad))))) := by
  rcases ht with rfl | rfl <;> simp [am_cell]
theorem am_wI_upd {h : am_H} {o j : Nat} {x : Int32} : (am_wI h o j x).1 o = upd (h.1 o) j x := by
  funext k
  simp [am_wI, upd]
theorem am_wL_upd {h : am_H} {o j : Nat} {x : Int64} : (am_wL h o j x).2.1 o = vp_updL (h.2.1 o) j x := by
  funext k
  simp [am_wL, vp_updL]
theorem am_wR_upd {h : am_H} {o j x : Nat} : (fun k => ((am_wR h o j (some x)).2.2.1 o k).map ad) = va_up (fun k => (h.2.2.1 o k).map ad) j (some (ad x)) := by
  funext k
  by_cases hk : k = j <;> simp [am_wR, va_up, hk]
theorem am_ac_int : Cond.arrayClass .int ∈ lw_tbl := by decide +kernel
theorem am_ac_char : Cond.arrayClass .char ∈ lw_tbl := by decide +kernel
theorem am_ac_long : Cond.arrayClass .long ∈ lw_tbl := by decide +kernel
theorem am_ac_boolean : Cond.arrayClass .boolean ∈ lw_tbl := by decide +kernel
theorem am_sln_le (q : Nat) : am_sln.getD q 0 ≤ 1000 := by
  rcases Nat.lt_or_ge q 26 with h | h
  · have h9 : ∀ q, q < 26 → am_sln.getD q 0 ≤ 1000 := by decide
    exact h9 q h
  · rw [List.getD_eq_getElem?_getD, List.getElem?_eq_none (by exact h)]
    exact Nat.zero_le _
theorem am_lenlt {h : am_H} {o t n : Nat} (hs : am_so h o = some (t, n)) : n < 2 ^ 31 := am_len_sh (t, n) (List.mem_of_getElem? (am_so_lt hs).2)
theorem am_sw_lt {h : am_H} {o : Nat} {e : Nat × Nat} (hs : am_so h o = some e) : o < 175 := am_sh_lt (am_so_lt hs).2
theorem am_good_in {ws : List Cond} (h : ∀ w ∈ ws, w ∈ am_gw) : GoodIn am_gw ws := fun w hw => ⟨h w hw, good_of_word (List.mem_filter.mp (h w hw)).2⟩
theorem am_ws_in {n : Nat} (hn : n < am_mi.length) : ∀ w ∈ am_ws n, w ∈ am_gw := by
  intro w hw
  rcases List.mem_cons.mp hw with rfl | h
  · have h1 : am_mi[n]? = some am_mi[n] := List.getElem?_eq_getElem hn
    have h2 := am_gw_code h1
    unfold am_y am_by am_nL am_rt
    rw [h1]
    exact h2
  · exact h
theorem am_put_gv {h : am_H} {o a ci : Nat} {x : Int32} (hk : am_kd ci a = 0) : am_gv (am_wI h o a x) ci a o = .int x := by simp [am_gv, hk, am_wI]
theorem am_put_gvL {h : am_H} {o a ci : Nat} {x : Int64} (hk : am_kd ci a = 1) : am_gv (am_wL h o a x) ci a o = .long x := by simp [am_gv, hk, am_wL]
theorem am_put_gvR {h : am_H} {o a ci x : Nat} (hk : ¬ am_kd ci a = 0) (hk1 : ¬ am_kd ci a = 1) : am_gv (am_wR h o a (some x)) ci a o = .ref x := by
  unfold am_gv
  split
  · exact absurd ‹_› hk
  · exact absurd ‹_› hk1
  · simp [am_wR, am_rf]
theorem am_put_oI {h : am_H} {o a ci : Nat} {x : Int32} (j : Nat) (hj : j ≠ a) : am_gv (am_wI h o a x) ci j o = am_gv h ci j o := by
  unfold am_gv
  split <;> simp [am_wI, hj]
theorem am_put_oL {h : am_H} {o a ci : Nat} {x : Int64} (j : Nat) (hj : j ≠ a) : am_gv (am_wL h o a x) ci j o = am_gv h ci j o := by
  unfold am_gv
  split <;> simp [am_wL, hj]
theorem am_put_oR {h : am_H} {o a ci : Nat} {x : Option Nat} (j : Nat) (hj : j ≠ a) : am_gv (am_wR h o a x) ci j o = am_gv h ci j o := by
  unfold am_gv
  split <;> simp [am_wR, hj]
theorem am_Wsz {g : JFrame} {cells slots : Nat} (k : H.size ≤ s.heap.size + cells → W p l e R s m args below meth c H locs cells slots Qw g) : W p l e R s m args below meth c H locs cells slots Qw g :=
  fun T hT X => k (by rw [← hT]; exact X.heapSize) T hT X
theorem am_sizeq {h : am_H} (hG : am_G ad base b L) (hsz : c0 % 1000 < am_shl.length → s.heap.size = base + c0 % 1000) (hI : am_Inv D cA ad base L xs s c0 h H locs) (hle : H.size ≤ s.heap.size + am_ce c0 h) : am_wf base h H := by
  refine ⟨hI.2.2.2.1, fun hlt => ?_⟩
  have h0 := hI.2.2.2.2.1
  have h9 : c0 < 1000 := by
    rcases Nat.lt_or_ge c0 1000 with z | z
    · exact z
    · have := hI.2.2.2.2.2 z
      omega
  have h1 := hsz (by omega)
  have h2 := hI.2.1.1
  unfold am_ce at hle
  by_cases hc : h.2.2.2.2 = c0 % 1000
  · omega
  · have h3 : h.2.2.2.2 - 1 < am_shl.length := by omega
    have h4 : am_so h (h.2.2.2.2 - 1) = some am_shl[h.2.2.2.2 - 1] := by
      unfold am_so
      have : Nat.blt (h.2.2.2.2 - 1) h.2.2.2.2 = true := Nat.ble_eq_true_of_le (by omega)
      rw [this]
      exact List.getElem?_eq_getElem h3
    have h5 := (hI.1 _ _ (am_cc_at h4)).lt
    dsimp only at h5
    rw [hG.1 _ h3] at h5
    omega
theorem am_fit {h : am_H} {n : Nat} (hcs : lim - c0 % 1000 + c0 / 1000 ≤ R.cells ∧ am_ss lim - am_ss (c0 % 1000) + 6 * (c0 / 1000) ≤ R.slots) (hc0 : am_c0 c0 h.2.2.2.2) (hl : h.2.2.2.2 + am_al n ≤ lim) : am_ce c0 h + am_al n ≤ R.cells ∧ am_sc c0 h + am_ms n h ≤ R.slots := by
  have q1 := am_ss_mono hc0.1
  have q2 := am_ss_mono (Nat.le_add_right h.2.2.2.2 (am_al n))
  have q3 := am_ss_mono hl
  have q0 := hc0.1
  unfold am_ce am_sc am_ms
  omega
theorem am_fit1 {h : am_H} {e : Nat × Nat} (hcs : lim - c0 % 1000 + c0 / 1000 ≤ R.cells ∧ am_ss lim - am_ss (c0 % 1000) + 6 * (c0 / 1000) ≤ R.slots) (hc0 : am_c0 c0 h.2.2.2.2) (he : am_shl[h.2.2.2.2]? = some e) (hl : h.2.2.2.2 + 1 ≤ lim) : (am_ce c0 h + 1 ≤ R.cells ∧ am_sc c0 h + am_siz e ≤ R.slots) ∧ (am_ce c0 h + 1 = am_ce c0 (am_nx h) ∧ am_sc c0 h + am_siz e = am_sc c0 (am_nx h)) := by
  have q1 := am_ss_mono hc0.1
  have q2 := am_ss_succ he
  have q3 := am_ss_mono hl
  have q0 := hc0.1
  have q4 : (am_nx h).2.2.2.2 = h.2.2.2.2 + 1 := rfl
  unfold am_ce am_sc
  rw [q4]
  omega
/-- a new cell behind the others -/
theorem am_new_I {h : am_H} {ea : Nat × Nat} {H1 : Heap} (hG : am_G ad base b L) (hI : am_Inv D cA ad base L xs s c0 h H locs) (he : am_shl[h.2.2.2.2]? = some ea) (hat : va_at D vwCl (ad h.2.2.2.2, am_cell cA ad (am_nx h) h.2.2.2.2 ea) H1) (z1 : H1.size = H.size + 1) (o1 : ∀ q, q < H.size → H1[q]? = H[q]?) : am_Inv D cA ad base L xs s c0 (am_nx h) H1 locs := by
  obtain ⟨hP, hS, hro, hwf, hc0⟩ := hI
  have hlt := (List.getElem?_eq_some_iff.mp he).1
  refine ⟨?_, ⟨Nat.le_trans hS.1 (by omega), fun x h1 h2 => (o1 x (Nat.lt_of_lt_of_le h1 hS.1)).trans (hS.2.1 x h1 h2), hS.2.2⟩, ⟨hro.1, fun j hj => ?_⟩, by show h.2.2.2.2 + 1 ≤ _; omega, by have := hc0.1; show c0 % 1000 ≤ h.2.2.2.2 + 1; omega, fun z => by have := hc0.2 z; omega⟩
  · rw [am_cc_new he]
    refine (hP.kept (fun k x hx => o1 x.1 ((hP k x hx).lt))).app (fun k x hx => ?_)
    have hz : k < 1 := (List.getElem?_eq_some_iff.mp hx).1
    rw [show k = 0 by omega] at hx
    cases hx
    exact hat
  · show (if 3000000 = h.2.2.2.2 then 0 else h.1 3000000 j) = xs j
    rw [if_neg (by rw [am_shl_len] at hlt; omega)]
    exact hro.2 j hj
theorem am_dv_ok : (List.range 12).all (fun ci => (List.range (am_nf ci)).all (fun k => decide (defaultValue (am_fty ci k) = (match am_kd ci k with
    | 0 => .int 0
    | 1 => .long 0
    | _ => .null)))) = true := by decide +kernel
theorem am_gv_nx {h : am_H} {ci k : Nat} : am_cv ad (am_gv (am_nx h) ci k h.2.2.2.2) = (match am_kd ci k with
    | 0 => .int 0
    | 1 => .long 0
    | _ => .null) := by
  unfold am_gv
  split <;> rename_i hq <;> simp [am_nx, am_cv, am_rf, hq]
theorem am_big_sh : ∀ e ∈ am_shl, e.2 ≤ 10000 := by decide +kernel
theorem am_ro.wL {h : am_H} {o k : Nat} {v : Int64} (hr : am_ro L xs h) : am_ro L xs (am_wL h o k v) := hr
theorem am_ro.wR {h : am_H} {o k : Nat} {v : Option Nat} (hr : am_ro L xs h) : am_ro L xs (am_wR h o k v) := hr
theorem am_set_P {h h' : am_H} {o : Nat} {e : Nat × Nat} {E : va_E} {H1 : Heap} (ho : am_so h o = some e) (hn : h'.2.2.2.2 = h.2.2.2.2) (hs : ∀ o' e', o' ≠ o → am_cell cA ad h' o' e' = am_cell cA ad h o' e') (hE : am_cell cA ad h' o e = E) (hP : va_P D vwCl ((am_cc cA ad h).set o (ad o, E)) H1) : va_P D vwCl (am_cc cA ad h') H1 := by
  rw [am_cc_set ho hn hs, hE]
  exact hP
theorem am_ar (g : am_H) (o t n : Nat) (h : am_so g o = some (t, n)) (ht : 12 ≤ t) : t = 12 ∨ t = 13 ∨ t = 14 ∨ t = 15 ∨ t = 16 ∨ t = 17 := by
  have h1 : ∀ e ∈ am_shl, e.1 < 18 := by decide +kernel
  have := h1 (t, n) (List.mem_of_getElem? (am_so_lt h).2)
  dsimp only at this
  omega
theorem am_mok_at {n : Nat} (h : am_mok n = true) : (am_y n).cls ∈ am_iiw ∧ n < am_mi.length ∧ am_nL n ≤ 21 ∧ ((am_y n).cls ≠ "java/lang/invoke/MethodHandle" ∧ (am_y n).cls ≠ "java/lang/invoke/VarHandle") ∧ ¬ n = 999 := by
  simp only [am_mok, am_hd, Bool.and_eq_true, decide_eq_true_eq, Bool.not_eq_true'] at h
  obtain ⟨h1, h2, h3, h4, h5⟩ := h
  exact ⟨h1, h2, h3, h4, fun q => by subst q; cases h5⟩
theorem am_vls_at {a b d : Nat} (h : (a, b, d) ∈ am_vls) : am_y a ∈ am_inw ∧ am_y a ∈ am_sew ∧ am_prm (am_y a) = some b ∧ am_cn d = (am_y a).cls ∧ d < 12 ∧ (am_y a).cls ∈ am_iiw ∧ a < am_mi.length ∧ am_nL a ≤ 21 ∧ ((am_y a).cls ≠ "java/lang/invoke/MethodHandle" ∧ (am_y a).cls ≠ "java/lang/invoke/VarHandle") ∧ ¬ a = 999 := by
  have h1 := List.all_eq_true.mp am_vls_ok _ h
  simp only [Bool.and_eq_true, decide_eq_true_eq] at h1
  obtain ⟨h1, h2, h3, h4, h5, h6⟩ := h1
  exact ⟨h1, h2, h3, h4, h5, am_mok_at h6⟩
theorem am_svl_at {a b : Nat} (h : (a, b) ∈ am_svl) : am_y a ∈ am_inw ∧ am_y a ∈ am_sew ∧ am_prm (am_y a) = some b ∧ (am_y a).cls = "java/lang/String" ∧ (am_y a).cls ∈ am_iiw ∧ a < am_mi.length ∧ am_nL a ≤ 21 ∧ ((am_y a).cls ≠ "java/lang/invoke/MethodHandle" ∧ (am_y a).cls ≠ "java/lang/invoke/VarHandle") ∧ ¬ a = 999 := by
  have h1 := List.all_eq_true.mp am_svl_ok _ h
  simp only [Bool.and_eq_true, decide_eq_true_eq] at h1
  obtain ⟨h1, h2, h3, h4, h6⟩ := h1
  exact ⟨h1, h2, h3, h4, am_mok_at h6⟩
theorem am_ils_at {a b : Nat} (h : (a, b) ∈ am_ils) : am_y a ∈ am_inw ∧ am_prm (am_y a) = some b ∧ (am_y a).name = "<init>" ∧ am_rt a = none ∧ (am_y a).cls ∈ am_iiw ∧ a < am_mi.length ∧ am_nL a ≤ 21 ∧ ((am_y a).cls ≠ "java/lang/invoke/MethodHandle" ∧ (am_y a).cls ≠ "java/lang/invoke/VarHandle") ∧ ¬ a = 999 := by
  have h1 := List.all_eq_true.mp am_ils_ok _ h
  simp only [Bool.and_eq_true, decide_eq_true_eq] at h1
  obtain ⟨h1, h2, h3, h4, h6⟩ := h1
  exact ⟨h1, h2, h3, h4, am_mok_at h6⟩
theorem am_sls_at {a b : Nat} (h : (a, b) ∈ am_sls) : am_y a ∈ am_stw ∧ am_prm (am_y a) = some b ∧ (am_y a).cls ∈ am_iiw ∧ a < am_mi.length ∧ am_nL a ≤ 21 ∧ ((am_y a).cls ≠ "java/lang/invoke/MethodHandle" ∧ (am_y a).cls ≠ "java/lang/invoke/VarHandle") ∧ ¬ a = 999 := by
  have h1 := List.all_eq_true.mp am_sls_ok _ h
  simp only [Bool.and_eq_true, decide_eq_true_eq] at h1
  obtain ⟨h1, h2, h6⟩ := h1
  exact ⟨h1, h2, am_mok_at h6⟩
set_option maxHeartbeats 4000000 in
set_option maxRecDepth 20000 in
theorem am_sound1 (F : am_Fx p s m args c D cA ad base b L xs own cc nL c0) (hC : am_Cs l R D cA ad base b L xs cp) (hcs : lim - c0 % 1000 + c0 / 1000 ≤ R.cells ∧ am_ss lim - am_ss (c0 % 1000) + 6 * (c0 / 1000) ≤ R.slots) (hR1 : 1 ≤ R.frames ∧ 20 ≤ R.locals) (hini : ini = true → meth.name = "<init>") {pc nx a b' c' d : Nat} {lv : am_V} {st : List Value} {h : am_H} {K : Nat → am_V → List Value → am_H → Prop} {Q0 : am_Q} {ls : Array Slot} (hI : am_Inv D cA ad base L xs s c0 h H locs) (hl : lv_has ls nL (am_cl2 ad lv)) (hk : am_Kw p l e R s m args below meth c c0 Qw D cA ad base L nL xs K) (hq : am_Qr p l e R s m args below meth c c0 Qw D cA ad base L xs cc rt Q0) {i : Instr} (hok : am_okB ini own cc pc (i, nx, a, b', c', d) = true) (hs : am_stp cp nL lim rt pc (i, nx, a, b', c', d) lv st h K Q0) : W p l e R s m args below meth c H locs (am_ce c0 h) (am_sc c0 h) Qw (F0 m pc ls (st.map (am_cv ad))) := by
  obtain ⟨hexec, hb, hml, hown, hts, hE, hbase, hG, hsz⟩ := id F
  cases i
  case iconst n =>
    obtain ⟨hd, rfl, hx⟩ := am_ok3 hok
    exact lv_iconst hexec hb hd rfl (hk _ _ _ _ _ _ _ hs hI hl)
  case bipush n =>
    obtain ⟨hd, rfl, hx⟩ := am_ok3 hok
    exact lv_bipush hexec hb hd rfl (hk _ _ _ _ _ _ _ hs hI hl)
  case sipush n =>
    obtain ⟨hd, rfl, hx⟩ := am_ok3 hok
    exact lv_sipush hexec hb hd rfl (hk _ _ _ _ _ _ _ hs hI hl)
  case lconst n =>
    obtain ⟨hd, rfl, hx⟩ := am_ok3 hok
    exact lv_lconst hexec hb hd rfl (hk _ _ _ _ _ _ _ hs hI hl)
  case iload_n k =>
    obtain ⟨hd, rfl, hx⟩ := am_ok3 hok
    obtain ⟨x, ex, hs⟩ := am_li.inv hs
    exact lv_iload_n hexec hb hd rfl (am_lk_at hl ex) (hk _ _ _ _ _ _ _ hs hI hl)
  case iload k =>
    obtain ⟨hd, rfl, hx⟩ := am_ok3 hok
    obtain ⟨x, ex, hs⟩ := am_li.inv hs
    exact lv_iload hexec hb hd (am_lk_at hl ex) (hk _ _ _ _ _ _ _ hs hI hl)
  case lload_n k =>
    obtain ⟨hd, rfl, hx⟩ := am_ok3 hok
    obtain ⟨x, ex, hs⟩ := am_ll.inv hs
    exact lv_lload_n hexec hb hd rfl (am_lk_at hl ex) (hk _ _ _ _ _ _ _ hs hI hl)
  case lload k =>
    obtain ⟨hd, rfl, hx⟩ := am_ok3 hok
    obtain ⟨x, ex, hs⟩ := am_ll.inv hs
    exact lv_lload hexec hb hd (am_lk_at hl ex) (hk _ _ _ _ _ _ _ hs hI hl)
  case aload_n k =>
    obtain ⟨hd, rfl, hx⟩ := am_ok3 hok
    obtain ⟨x, ex, hs⟩ := am_la.inv hs
    exact lv_aload_n hexec hb hd rfl (am_lk_at hl ex) (hk _ _ _ _ _ _ _ hs hI hl)
  case aload k =>
    obtain ⟨hd, rfl, hx⟩ := am_ok3 hok
    obtain ⟨x, ex, hs⟩ := am_la.inv hs
    exact lv_aload hexec hb hd (am_lk_at hl ex) (hk _ _ _ _ _ _ _ hs hI hl)
  case istore_n k =>
    obtain ⟨hd, rfl, hx⟩ := am_ok3 hok
    obtain ⟨x, r, rfl, hn, hs⟩ := am_pI.inv hs
    exact lv_istore_n hexec hb hd rfl hl hn (am_s1_cl ad lv _ (.int x)) (fun ls hl => hk _ _ _ _ _ _ _ hs hI hl)
  case istore k =>
    obtain ⟨hd, rfl, hx⟩ := am_ok3 hok
    obtain ⟨x, r, rfl, hn, hs⟩ := am_pI.inv hs
    exact lv_istore hexec hb hd hl hn (am_s1_cl ad lv _ (.int x)) (fun ls hl => hk _ _ _ _ _ _ _ hs hI hl)
  case lstore_n k =>
    obtain ⟨hd, rfl, hx⟩ := am_ok3 hok
    obtain ⟨x, r, rfl, hn, hs⟩ := am_pL.inv hs
    exact lv_lstore_n hexec hb hd rfl hl hn (am_s2_cl ad lv _ (.long x)) (fun ls hl => hk _ _ _ _ _ _ _ hs hI hl)
  case lstore k =>
    obtain ⟨hd, rfl, hx⟩ := am_ok3 hok
    obtain ⟨x, r, rfl, hn, hs⟩ := am_pL.inv hs
    exact lv_lstore hexec hb hd hl hn (am_s2_cl ad lv _ (.long x)) (fun ls hl => hk _ _ _ _ _ _ _ hs hI hl)
  case astore_n k =>
    obtain ⟨hd, rfl, hx⟩ := am_ok3 hok
    obtain ⟨x, r, rfl, hn, hs⟩ := am_pR.inv hs
    exact lv_astore_n hexec hb hd rfl hl hn (am_s1_cl ad lv _ (.ref x)) (fun ls hl => hk _ _ _ _ _ _ _ hs hI hl)
  case astore k =>
    obtain ⟨hd, rfl, hx⟩ := am_ok3 hok
    obtain ⟨x, r, rfl, hn, hs⟩ := am_pR.inv hs
    exact lv_astore hexec hb hd hl hn (am_s1_cl ad lv _ (.ref x)) (fun ls hl => hk _ _ _ _ _ _ _ hs hI hl)
  case iinc k n =>
    obtain ⟨hd, rfl, hx⟩ := am_ok3 hok
    obtain ⟨x, ex, hn, hs⟩ := am_li.inv hs
    obtain ⟨q, hq⟩ := am_lk_pl (ad := ad) ex
    exact lv_iinc hexec hb hd hl hq rfl hn (am_s1_cl ad lv _ (.int (x + Int32.ofInt n))) (fun ls hl => hk _ _ _ _ _ _ _ hs hI hl)
  case iadd =>
    obtain ⟨hd, rfl, hx⟩ := am_ok3 hok
    obtain ⟨y, r, rfl, hs⟩ := am_pI.inv hs
    obtain ⟨x, r, rfl, hs⟩ := am_pI.inv hs
    exact lv_iadd hexec hb hd (hk _ _ _ _ _ _ _ hs hI hl)
  case isub =>
    obtain ⟨hd, rfl, hx⟩ := am_ok3 hok
    obtain ⟨y, r, rfl, hs⟩ := am_pI.inv hs
    obtain ⟨x, r, rfl, hs⟩ := am_pI.inv hs
    exact lv_isub hexec hb hd (hk _ _ _ _ _ _ _ hs hI hl)
  case imul =>
    obtain ⟨hd, rfl, hx⟩ := am_ok3 hok
    obtain ⟨y, r, rfl, hs⟩ := am_pI.inv hs
    obtain ⟨x, r, rfl, hs⟩ := am_pI.inv hs
    exact lv_imul hexec hb hd (hk _ _ _ _ _ _ _ hs hI hl)
  case iand =>
    obtain ⟨hd, rfl, hx⟩ := am_ok3 hok
    obtain ⟨y, r, rfl, hs⟩ := am_pI.inv hs
    obtain ⟨x, r, rfl, hs⟩ := am_pI.inv hs
    exact lv_iand hexec hb hd (hk _ _ _ _ _ _ _ hs hI hl)
  case ior =>
    obtain ⟨hd, rfl, hx⟩ := am_ok3 hok
    obtain ⟨y, r, rfl, hs⟩ := am_pI.inv hs
    obtain ⟨x, r, rfl, hs⟩ := am_pI.inv hs
    exact lv_ior hexec hb hd (hk _ _ _ _ _ _ _ hs hI hl)
  case ixor =>
    obtain ⟨hd, rfl, hx⟩ := am_ok3 hok
    obtain ⟨y, r, rfl, hs⟩ := am_pI.inv hs
    obtain ⟨x, r, rfl, hs⟩ := am_pI.inv hs
    exact lv_ixor hexec hb hd (hk _ _ _ _ _ _ _ hs hI hl)
  case ishl =>
    obtain ⟨hd, rfl, hx⟩ := am_ok3 hok
    obtain ⟨y, r, rfl, hs⟩ := am_pI.inv hs
    obtain ⟨x, r, rfl, hs⟩ := am_pI.inv hs
    exact lv_ishl hexec hb hd (hk _ _ _ _ _ _ _ hs hI hl)
  case ishr =>
    obtain ⟨hd, rfl, hx⟩ := am_ok3 hok
    obtain ⟨y, r, rfl, hs⟩ := am_pI.inv hs
    obtain ⟨x, r, rfl, hs⟩ := am_pI.inv hs
    exact lv_ishr hexec hb hd (hk _ _ _ _ _ _ _ hs hI hl)
  case idiv =>
    obtain ⟨hd, rfl, hx⟩ := am_ok3 hok
    obtain ⟨y, r, rfl, hs⟩ := am_pI.inv hs
    obtain ⟨x, r, rfl, hne, hs⟩ := am_pI.inv hs
    exact lv_idiv hexec hb hd hne (hk _ _ _ _ _ _ _ hs hI hl)
  case irem =>
    obtain ⟨hd, rfl, hx⟩ := am_ok3 hok
    obtain ⟨y, r, rfl, hs⟩ := am_pI.inv hs
    obtain ⟨x, r, rfl, hne, hs⟩ := am_pI.inv hs
    exact lv_irem hexec hb hd hne (hk _ _ _ _ _ _ _ hs hI hl)
  case ineg =>
    obtain ⟨hd, rfl, hx⟩ := am_ok3 hok
    obtain ⟨x, r, rfl, hs⟩ := am_pI.inv hs
    exact lv_ineg hexec hb hd (hk _ _ _ _ _ _ _ hs hI hl)
  case iushr =>
    obtain ⟨hd, rfl, hx⟩ := am_ok3 hok
    obtain ⟨y, r, rfl, hs⟩ := am_pI.inv hs
    obtain ⟨x, r, rfl, hs⟩ := am_pI.inv hs
    exact lv_iushr hexec hb hd rfl (hk _ _ _ _ _ _ _ hs hI hl)
  case ladd =>
    obtain ⟨hd, rfl, hx⟩ := am_ok3 hok
    obtain ⟨y, r, rfl, hs⟩ := am_pL.inv hs
    obtain ⟨x, r, rfl, hs⟩ := am_pL.inv hs
    exact lv_ladd hexec hb hd (hk _ _ _ _ _ _ _ hs hI hl)
  case lsub =>
    obtain ⟨hd, rfl, hx⟩ := am_ok3 hok
    obtain ⟨y, r, rfl, hs⟩ := am_pL.inv hs
    obtain ⟨x, r, rfl, hs⟩ := am_pL.inv hs
    exact lv_lsub hexec hb hd (hk _ _ _ _ _ _ _ hs hI hl)
  case lmul =>
    obtain ⟨hd, rfl, hx⟩ := am_ok3 hok
    obtain ⟨y, r, rfl, hs⟩ := am_pL.inv hs
    obtain ⟨x, r, rfl, hs⟩ := am_pL.inv hs
    exact lv_lmul hexec hb hd (hk _ _ _ _ _ _ _ hs hI hl)
  case land =>
    obtain ⟨hd, rfl, hx⟩ := am_ok3 hok
    obtain ⟨y, r, rfl, hs⟩ := am_pL.inv hs
    obtain ⟨x, r, rfl, hs⟩ := am_pL.inv hs
    exact lv_land hexec hb hd (hk _ _ _ _ _ _ _ hs hI hl)
  case lor =>
    obtain ⟨hd, rfl, hx⟩ := am_ok3 hok
    obtain ⟨y, r, rfl, hs⟩ := am_pL.inv hs
    obtain ⟨x, r, rfl, hs⟩ := am_pL.inv hs
    exact lv_lor hexec hb hd (hk _ _ _ _ _ _ _ hs hI hl)
  case ldiv =>
    obtain ⟨hd, rfl, hx⟩ := am_ok3 hok
    obtain ⟨y, r, rfl, hs⟩ := am_pL.inv hs
    obtain ⟨x, r, rfl, hne, hs⟩ := am_pL.inv hs
    exact lv_ldiv hexec hb hd hne (hk _ _ _ _ _ _ _ hs hI hl)
  case lrem =>
    obtain ⟨hd, rfl, hx⟩ := am_ok3 hok
    obtain ⟨y, r, rfl, hs⟩ := am_pL.inv hs
    obtain ⟨x, r, rfl, hne, hs⟩ := am_pL.inv hs
    exact lv_lrem hexec hb hd hne (hk _ _ _ _ _ _ _ hs hI hl)
  case lshl =>
    obtain ⟨hd, rfl, hx⟩ := am_ok3 hok
    obtain ⟨y, r, rfl, hs⟩ := am_pI.inv hs
    obtain ⟨x, r, rfl, hs⟩ := am_pL.inv hs
    exact lv_lshl hexec hb hd rfl (hk _ _ _ _ _ _ _ hs hI hl)
  case lshr =>
    obtain ⟨hd, rfl, hx⟩ := am_ok3 hok
    obtain ⟨y, r, rfl, hs⟩ := am_pI.inv hs
    obtain ⟨x, r, rfl, hs⟩ := am_pL.inv hs
    exact lv_lshr hexec hb hd rfl (hk _ _ _ _ _ _ _ hs hI hl)
  case lushr =>
    obtain ⟨hd, rfl, hx⟩ := am_ok3 hok
    obtain ⟨y, r, rfl, hs⟩ := am_pI.inv hs
    obtain ⟨x, r, rfl, hs⟩ := am_pL.inv hs
    exact lv_lushr hexec hb hd rfl (hk _ _ _ _ _ _ _ hs hI hl)
  case lcmp =>
    obtain ⟨hd, rfl, hx⟩ := am_ok3 hok
    obtain ⟨y, r, rfl, hs⟩ := am_pL.inv hs
    obtain ⟨x, r, rfl, hs⟩ := am_pL.inv hs
    exact W.lcmp hexec hb hd (hk _ _ _ _ _ _ _ hs hI hl)
  case i2l =>
    obtain ⟨hd, rfl, hx⟩ := am_ok3 hok
    obtain ⟨x, r, rfl, hs⟩ := am_pI.inv hs
    exact lv_i2l hexec hb hd rfl (hk _ _ _ _ _ _ _ hs hI hl)
  case l2i =>
    obtain ⟨hd, rfl, hx⟩ := am_ok3 hok
    obtain ⟨x, r, rfl, hs⟩ := am_pL.inv hs
    exact lv_l2i hexec hb hd rfl (hk _ _ _ _ _ _ _ hs hI hl)
  case i2c =>
    obtain ⟨hd, rfl, hx⟩ := am_ok3 hok
    obtain ⟨x, r, rfl, hs⟩ := am_pI.inv hs
    exact lv_i2c hexec hb hd rfl (hk _ _ _ _ _ _ _ hs hI hl)
  case dup =>
    obtain ⟨hd, rfl, hx⟩ := am_ok3 hok
    obtain ⟨v, r, rfl, h1, hs⟩ := am_pV.inv hs
    exact lv_dup hexec hb hd ((am_cv_cat ad v).trans h1) (hk _ _ _ _ _ _ _ hs hI hl)
  case pop =>
    obtain ⟨hd, rfl, hx⟩ := am_ok3 hok
    obtain ⟨v, r, rfl, h1, hs⟩ := am_pV.inv hs
    exact lv_pop hexec hb hd ((am_cv_cat ad v).trans h1) (hk _ _ _ _ _ _ _ hs hI hl)
  case dup2 =>
    obtain ⟨hd, rfl, hx⟩ := am_ok3 hok
    obtain ⟨v, r, rfl, hs⟩ := am_pV.inv hs
    obtain ⟨w, r, rfl, h1, h2, hs⟩ := am_pV.inv hs
    exact lv_dup2_11 hexec hb hd ((am_cv_cat ad v).trans h1) ((am_cv_cat ad w).trans h2) (hk _ _ _ _ _ _ _ hs hI hl)
  case goto o =>
    obtain ⟨hd, rfl, hx⟩ := am_ok3 hok
    exact lv_goto hexec hb hd (of_decide_eq_true hx) (hk _ _ _ _ _ _ _ hs hI hl)
  case if_icmp q o =>
    obtain ⟨hd, rfl, hx⟩ := am_ok3 hok
    obtain ⟨y, r, rfl, hs⟩ := am_pI.inv hs
    obtain ⟨x, r, rfl, hs⟩ := am_pI.inv hs
    have ht := of_decide_eq_true hx
    cases q
    case eq => exact lv_icmp_eq hexec hb hd ht (fun q => hk _ _ _ _ _ _ _ (hs.1 q) hI hl) (fun q => hk _ _ _ _ _ _ _ (hs.2 q) hI hl)
    case ne => exact lv_icmp_ne hexec hb hd ht (fun q => hk _ _ _ _ _ _ _ (hs.1 q) hI hl) (fun q => hk _ _ _ _ _ _ _ (hs.2 (fun z => z q)) hI hl)
    case lt => exact lv_icmp_lt hexec hb hd ht (fun q => hk _ _ _ _ _ _ _ (hs.1 q) hI hl) (fun q => hk _ _ _ _ _ _ _ (hs.2 q) hI hl)
    case ge => exact lv_icmp_ge hexec hb hd ht (fun q => hk _ _ _ _ _ _ _ (hs.1 q) hI hl) (fun q => hk _ _ _ _ _ _ _ (hs.2 q) hI hl)
    case gt => exact lv_icmp_gt hexec hb hd ht (fun q => hk _ _ _ _ _ _ _ (hs.1 q) hI hl) (fun q => hk _ _ _ _ _ _ _ (hs.2 q) hI hl)
    case le => exact lv_icmp_le hexec hb hd ht (fun q => hk _ _ _ _ _ _ _ (hs.1 q) hI hl) (fun q => hk _ _ _ _ _ _ _ (hs.2 q) hI hl)
  case ifCond q o =>
    obtain ⟨hd, rfl, hx⟩ := am_ok3 hok
    obtain ⟨x, r, rfl, hs⟩ := am_pI.inv hs
    have ht := of_decide_eq_true hx
    cases q
    case eq => exact lv_if_eq hexec hb hd ht (fun q => hk _ _ _ _ _ _ _ (hs.1 q) hI hl) (fun q => hk _ _ _ _ _ _ _ (hs.2 q) hI hl)
    case ne => exact lv_if_ne hexec hb hd ht (fun q => hk _ _ _ _ _ _ _ (hs.1 q) hI hl) (fun q => hk _ _ _ _ _ _ _ (hs.2 (fun z => z q)) hI hl)
    case lt => exact lv_if_lt hexec hb hd ht (fun q => hk _ _ _ _ _ _ _ (hs.1 q) hI hl) (fun q => hk _ _ _ _ _ _ _ (hs.2 q) hI hl)
    case ge => exact lv_if_ge hexec hb hd ht (fun q => hk _ _ _ _ _ _ _ (hs.1 q) hI hl) (fun q => hk _ _ _ _ _ _ _ (hs.2 q) hI hl)
    case gt => exact lv_if_gt hexec hb hd ht (fun q => hk _ _ _ _ _ _ _ (hs.1 q) hI hl) (fun q => hk _ _ _ _ _ _ _ (hs.2 q) hI hl)
    case le => exact lv_if_le hexec hb hd ht (fun q => hk _ _ _ _ _ _ _ (hs.1 q) hI hl) (fun q => hk _ _ _ _ _ _ _ (hs.2 q) hI hl)
  case ldc2_w k =>
    obtain ⟨hd, rfl, hx⟩ := am_ok3 hok
    have h1 : (am_cl[c']?).map (fun q => (q.1, q.2.1)) = some (own, k) := of_decide_eq_true hx
    cases hq : am_cl[c']? with
    | none => rw [hq] at h1; cases h1
    | some q =>
      rw [hq] at h1
      obtain ⟨q1, q2, q3⟩ := q
      have h1 := Option.some.inj h1
      have e1 : q1 = own := congrArg Prod.fst h1
      have e2 : q2 = k := congrArg Prod.snd h1
      subst e1
      subst e2
      have hv : am_kl c' = q3 := by simp [am_kl, hq]
      refine lv_ldc2 hexec hb hown (hts _ (am_gw_cl hq)) hd ?_
      rw [← hv]
      exact hk _ _ _ _ _ _ _ hs hI hl
  case ldc_w k =>
    obtain ⟨hd, rfl, hx⟩ := am_ok3 hok
    have hx : (!(Nat.beq b' 1) && decide ((am_ci[c']?).map (fun q => (q.1, q.2.1)) = some (own, k))) = true := hx
    have hs2 : (bif Nat.beq b' 1 then K (pc + 3) lv (.ref (4000000 + c') :: st) h else K (pc + 3) lv (.int (am_ki c') :: st) h) := hs
    rw [Bool.and_eq_true] at hx
    obtain ⟨hx0, hx⟩ := hx
    cases hb1 : Nat.beq b' 1 with
    | true => rw [hb1] at hx0; cases hx0
    | false =>
      rw [hb1] at hs2
      have h1 : (am_ci[c']?).map (fun q => (q.1, q.2.1)) = some (own, k) := of_decide_eq_true hx
      cases hq : am_ci[c']? with
      | none => rw [hq] at h1; cases h1
      | some q =>
        rw [hq] at h1
        obtain ⟨q1, q2, q3⟩ := q
        have h1 := Option.some.inj h1
        have e1 : q1 = own := congrArg Prod.fst h1
        have e2 : q2 = k := congrArg Prod.snd h1
        subst e1
        subst e2
        have hv : am_ki c' = q3 := by simp [am_ki, hq]
        refine lv_ldcw hexec hb hown (hts _ (am_gw_ci hq)) hd ?_
        rw [← hv]
        exact hk _ _ _ _ _ _ _ hs2 hI hl
  case ldc k =>
    obtain ⟨hd, rfl, hx⟩ := am_ok3 hok
    have hx : (bif Nat.beq b' 1 then decide ((am_stt[c']?).map (fun q => (q.1, q.2.1)) = some (own, k)) else decide ((am_ci[c']?).map (fun q => (q.1, q.2.1)) = some (own, k))) = true := hx
    have hs2 : (bif Nat.beq b' 1 then K (pc + 2) lv (.ref (4000000 + c') :: st) h else K (pc + 2) lv (.int (am_ki c') :: st) h) := hs
    cases hb1 : Nat.beq b' 1 with
    | true =>
      rw [hb1] at hs2 hx
      have h1 : (am_stt[c']?).map (fun q => (q.1, q.2.1)) = some (own, k) := of_decide_eq_true hx
      cases hq : am_stt[c']? with
      | none => rw [hq] at h1; cases h1
      | some q =>
        rw [hq] at h1
        obtain ⟨q1, q2, q3⟩ := q
        have h1 := Option.some.inj h1
        have e1 : q1 = own := congrArg Prod.fst h1
        have e2 : q2 = k := congrArg Prod.snd h1
        subst e1
        subst e2
        exact va_ldcS hexec hb hown (hE.2.2.2.2.2.2.1 c' _ _ _ hq) hd (hk _ _ _ _ _ _ _ hs2 hI hl)
    | false =>
      rw [hb1] at hs2 hx
      have h1 : (am_ci[c']?).map (fun q => (q.1, q.2.1)) = some (own, k) := of_decide_eq_true hx
      cases hq : am_ci[c']? with
      | none => rw [hq] at h1; cases h1
      | some q =>
        rw [hq] at h1
        obtain ⟨q1, q2, q3⟩ := q
        have h1 := Option.some.inj h1
        have e1 : q1 = own := congrArg Prod.fst h1
        have e2 : q2 = k := congrArg Prod.snd h1
        subst e1
        subst e2
        have hv : am_ki c' = q3 := by simp [am_ki, hq]
        refine lv_ldc hexec hb hown (hts _ (am_gw_ci hq)) hd ?_
        rw [← hv]
        exact hk _ _ _ _ _ _ _ hs2 hI hl
  case getstatic k =>
    obtain ⟨hd, rfl, hx⟩ := am_ok3 hok
    have hx : ((Nat.beq b' 0 && decide (am_fl[c']? = some (own, k, "java/lang/String", "COMPACT_STRINGS", "Z"))) || (Nat.beq b' 1 && decide (am_fl[c']? = some (own, k, "jdk/internal/util/Preconditions", "SIOOBE_FORMATTER", "Ljava/util/function/BiFunction;")))) = true := hx
    have hs : (bif Nat.beq b' 1 then K (pc + 3) lv (.ref 6000000 :: st) h else K (pc + 3) lv (.int 1 :: st) h) := hs
    rcases Bool.or_eq_true_iff.mp hx with hx | hx
    · rw [Bool.and_eq_true, decide_eq_true_eq] at hx
      have e0 := Nat.eq_of_beq_eq_true hx.1
      rw [e0] at hs
      exact va_gets hexec hb hE.2.2.2.2.2.2.2.1 hI.2.1 hown (hts _ (am_gw_fl hx.2)) (fun x q => q) hd (hk _ _ _ _ _ _ _ hs hI hl)
    · rw [Bool.and_eq_true, decide_eq_true_eq] at hx
      rw [hx.1] at hs
      exact va_gets hexec hb hE.2.2.2.2.2.2.2.2 hI.2.1 hown (hts _ (am_gw_fl hx.2)) (fun x q => q) hd (hk _ _ _ _ _ _ _ hs hI hl)
  case i2b =>
    obtain ⟨hd, rfl, hx⟩ := am_ok3 hok
    obtain ⟨x, r, rfl, hs⟩ := am_pI.inv hs
    exact lv_i2b hexec hb hd rfl (hk _ _ _ _ _ _ _ hs hI hl)
  case tableswitch df lo hi os =>
    obtain ⟨x, r, rfl, hs⟩ := am_pI.inv hs
    have hok : ((match decode cc pc with
      | .ok (i', _) => decide (i' = .tableswitch df lo hi os)
      | _ => false) && (decide (0 ≤ (pc : Int) + df) && (os.toList.all (fun o => decide (0 ≤ (pc : Int) + o)) && decide ((os.size : Int) = hi - lo + 1)))) = true := hok
    simp only [Bool.and_eq_true, decide_eq_true_eq] at hok
    obtain ⟨h0, h1, h2, h3⟩ := hok
    have hd : ∃ len, decode cc pc = .ok (.tableswitch df lo hi os, len) := by
      split at h0
      · rename_i i' len hdd
        exact ⟨len, by rw [hdd, of_decide_eq_true h0]⟩
      · cases h0
    obtain ⟨len, hd⟩ := hd
    by_cases hx1 : x.toInt < lo ∨ hi < x.toInt
    · exact lv_tableOut hexec hb hd hx1 (Int.toNat_of_nonneg h1).symm (hk _ _ _ _ _ _ _ (hs.1 hx1) hI hl)
    · have hlo : ¬ x.toInt < lo := fun q => hx1 (Or.inl q)
      have hhi : ¬ hi < x.toInt := fun q => hx1 (Or.inr q)
      have hj : (x.toInt - lo).toNat < os.size := by omega
      have ho : os[(x.toInt - lo).toNat]? = some os[(x.toInt - lo).toNat] := Array.getElem?_eq_getElem hj
      have h5 : (0 : Int) ≤ (pc : Int) + os[(x.toInt - lo).toNat] := of_decide_eq_true (List.all_eq_true.mp h2 _ (by rw [Array.mem_toList_iff]; exact Array.getElem_mem hj))
      have h6 := hs.2 (x.toInt - lo).toNat (by omega) (by omega)
      rw [ho] at h6
      exact lv_tableIn hexec hb hd hlo hhi ho (Int.toNat_of_nonneg h5).symm (hk _ _ _ _ _ _ _ h6 hI hl)
  case lookupswitch df ps =>
    obtain ⟨x, r, rfl, hs⟩ := am_pI.inv hs
    have hok : ((match decode cc pc with
      | .ok (i', _) => decide (i' = .lookupswitch df ps)
      | _ => false) && (decide (0 ≤ (pc : Int) + df) && (ps.toList.all (fun o => decide (0 ≤ (pc : Int) + o.2)) && (ps.toList.zip (ps.toList.drop 1)).all (fun (a, next) => a.1 < next.1)))) = true := hok
    rw [Bool.and_eq_true, Bool.and_eq_true, Bool.and_eq_true] at hok
    obtain ⟨h0, h1, h2, h3⟩ := hok
    have h1 := of_decide_eq_true h1
    have hd : ∃ len, decode cc pc = .ok (.lookupswitch df ps, len) := by
      split at h0
      · rename_i i' len hdd
        exact ⟨len, by rw [hdd, of_decide_eq_true h0]⟩
      · cases h0
    obtain ⟨len, hd⟩ := hd
    have h6 : ∀ (z : Int) (l : List (Int × Int)), l.all (fun o => decide (0 ≤ (pc : Int) + o.2)) = true → (0 : Int) ≤ (pc : Int) + Op.lookupswitch.offset l df z := by
      intro z l
      induction l with
      | nil => intro _; exact h1
      | cons q r ih =>
        intro hq
        rw [List.all_cons, Bool.and_eq_true] at hq
        obtain ⟨q1, q2⟩ := q
        rw [Op.lookupswitch.offset_cons]
        split
        · exact of_decide_eq_true hq.1
        · exact ih hq.2
    exact lv_lookup hexec hb hd h3 rfl (Int.toNat_of_nonneg (h6 _ _ h2)).symm (hk _ _ _ _ _ _ _ hs hI hl)
  case getfield k =>
    obtain ⟨hd, rfl, hx⟩ := am_ok3 hok
    cases hb20 : Nat.beq b' 20 with
    | true =>
      have hx : (bif Nat.beq b' 20 then (Nat.beq a 0 && decide (am_fl[c']? = some (own, k, "java/lang/String", "value", "[B"))) || (Nat.beq a 1 && decide (am_fl[c']? = some (own, k, "java/lang/String", "coder", "B"))) else _) = true := hx
      have hs2 : (bif Nat.beq b' 20 then am_pR st fun o r => ∃ q : Nat, q < 26 ∧ o = 4000000 + q ∧ K (pc + 3) lv ((bif Nat.beq a 0 then .ref (5000000 + q) else .int 0) :: r) h else _) := hs
      rw [hb20] at hx hs2
      obtain ⟨o, r, e7, q, hq, e8, hs3⟩ := am_pR.inv hs2
      subst e8
      subst e7
      have hS9 := hE.2.2.2.2.2.1.1 q hq
      rcases Bool.or_eq_true_iff.mp hx with hx | hx
      · rw [Bool.and_eq_true, decide_eq_true_eq] at hx
        rw [hx.1] at hs3
        exact vk_getf hexec hb hS9.2.2.1 hI.2.1 hown (hts _ (am_gw_fl hx.2)) (fun x q => q) hd (hk _ _ _ _ _ _ _ hs3 hI hl)
      · rw [Bool.and_eq_true, decide_eq_true_eq] at hx
        have e0 := Nat.eq_of_beq_eq_true hx.1
        rw [e0] at hs3
        exact vk_getf hexec hb hS9.2.1 hI.2.1 hown (hts _ (am_gw_fl hx.2)) (fun x q => q) hd (hk _ _ _ _ _ _ _ hs3 hI hl)
    | false =>
    have hx : (bif Nat.beq b' 20 then _ else decide (am_fl[c']? = some (own, k, (am_fd b' a).1, (am_fd b' a).2.1, (am_fd b' a).2.2.1)) && (decide (b' < 12) && decide (a < am_nf b'))) = true := hx
    have hs : (bif Nat.beq b' 20 then _ else am_pR st fun o r => am_sh h o = some (b', 0) ∧ K (pc + 3) lv (am_gv h b' a o :: r) h) := hs
    rw [hb20] at hx hs
    obtain ⟨h1, h2, h3⟩ := am_ok3 hx
    have h3 := of_decide_eq_true h3
    obtain ⟨o, r, rfl, hsh, hs⟩ := am_pR.inv hs
    have ho := am_obj hsh h2
    obtain ⟨C, T, N, e1, e2, e3, e4, e5, ty, e6, e7, e8⟩ := am_ci_ok b' h2
    have hlk : (Cond.fieldLink own k (T a).1 (T a).2.1 (T a).2.2.1).before args s = true := hts _ (am_gw_fl (by rw [← e4]; exact h1))
    exact va_get (ref := (T a).1) hexec hb hts e5 hown hE.1 hI.1 o ((am_cc_at ho).trans (by rw [am_cell_obj h2])) e1 a (by rw [← e2]; exact h3) hlk (fun x q => q) (am_fs_at h3) hd (hk _ _ _ _ _ _ _ hs hI hl)
  case putfield k =>
    obtain ⟨hd, rfl, hx⟩ := am_ok3 hok
    have hx : (decide (am_fl[c']? = some (own, k, (am_fd b' a).1, (am_fd b' a).2.1, (am_fd b' a).2.2.1)) && (decide (b' < 12) && (decide (a < am_nf b') && (!(am_fd b' a).2.2.2 || (ini && decide ((am_fd b' a).1 = own)))))) = true := hx
    simp only [Bool.and_eq_true, Bool.or_eq_true, decide_eq_true_eq, Bool.not_eq_true'] at hx
    obtain ⟨h1, h2, h3, h4⟩ := hx
    obtain ⟨C, T, N, e1, e2, e3, e4, e5, ty, e6, e7, e8⟩ := am_ci_ok b' h2
    have hlk : (Cond.fieldLink own k (T a).1 (T a).2.1 (T a).2.2.1).before args s = true := hts _ (am_gw_fl (by rw [← e4]; exact h1))
    have e9 := e8 a (by rw [← e2]; exact h3)
    have h4 : (am_fd b' a).2.2.2 = false ∨ ((am_fd b' a).2.2.2 = true ∧ ini = true ∧ (am_fd b' a).1 = own) := by
      cases hf : (am_fd b' a).2.2.2 with
      | false => exact Or.inl rfl
      | true =>
        rcases h4 with h4 | h4
        · rw [hf] at h4
          cases h4
        · exact Or.inr ⟨rfl, h4⟩
    unfold am_stp at hs
    dsimp only at hs
    split at hs
    · rename_i hkd
      obtain ⟨x, r1, rfl, hs1⟩ := am_pI.inv hs
      obtain ⟨o, r, rfl, hsh, hn, hf, hs2⟩ := am_pR.inv hs1
      have ho := am_obj hsh h2
      rcases h4 with h4 | h4
      · refine va_put (ref := (T a).1) hexec hb hts e5 ty e6 e7 hown hE.1 hI.1 (am_cc_D hI.2.2.2.1 hG.1) hI.2.1 o ((am_cc_at ho).trans (by rw [am_cell_obj h2])) e1 a (by rw [← e2]; exact h3) hlk (fun x q => q) (by rw [← e4]; exact h4) (e6 a (by rw [← e2]; exact h3)) (v := .int x) (by rw [← e9.2]; exact hn) (by rw [← e9.2]; exact hf) (by simp [h3]) hd (fun H1 locs1 hP1 hD1 hS1 => ?_)
        have hz := fun hI' => hk _ _ _ _ H1 locs1 _ hs2 hI' hl
        refine hz ⟨am_set_P ho rfl am_cell_oI ?_ hP1, hS1, hI.2.2.1.wI (am_sw_lt ho), hI.2.2.2.1, hI.2.2.2.2⟩
        rw [am_cell_obj h2, ← am_fs_set h3 (am_put_oI (x := x)), am_put_gv hkd]
        rfl
      · refine va_putF (ref := (T a).1) hexec hb hts e5 ty e6 e7 hown hE.1 hI.1 (am_cc_D hI.2.2.2.1 hG.1) hI.2.1 o ((am_cc_at ho).trans (by rw [am_cell_obj h2])) e1 a (by rw [← e2]; exact h3) hlk (fun x q => q) (by rw [← e4]; exact h4.1) (hini h4.2.1) (by rw [← e4]; exact h4.2.2) (e6 a (by rw [← e2]; exact h3)) (v := .int x) (by rw [← e9.2]; exact hn) (by rw [← e9.2]; exact hf) (by simp [h3]) hd (fun H1 locs1 hP1 hD1 hS1 => ?_)
        have hz := fun hI' => hk _ _ _ _ H1 locs1 _ hs2 hI' hl
        refine hz ⟨am_set_P ho rfl am_cell_oI ?_ hP1, hS1, hI.2.2.1.wI (am_sw_lt ho), hI.2.2.2.1, hI.2.2.2.2⟩
        rw [am_cell_obj h2, ← am_fs_set h3 (am_put_oI (x := x)), am_put_gv hkd]
        rfl
    · rename_i hkd
      obtain ⟨x, r1, rfl, hs1⟩ := am_pL.inv hs
      obtain ⟨o, r, rfl, hsh, hs2⟩ := am_pR.inv hs1
      have ho := am_obj hsh h2
      have hty : ty a = .long := by
        rw [hkd] at e9
        revert e9
        cases ty a <;> intro e9 <;> first | rfl | (exact absurd e9.1 (fun q => by cases q))
      rcases h4 with h4 | h4
      · refine va_put (ref := (T a).1) hexec hb hts e5 ty e6 e7 hown hE.1 hI.1 (am_cc_D hI.2.2.2.1 hG.1) hI.2.1 o ((am_cc_at ho).trans (by rw [am_cell_obj h2])) e1 a (by rw [← e2]; exact h3) hlk (fun x q => q) (by rw [← e4]; exact h4) (e6 a (by rw [← e2]; exact h3)) (v := .long x) (by rw [hty]; rfl) (by rw [hty]; rfl) (by simp [h3]) hd (fun H1 locs1 hP1 hD1 hS1 => ?_)
        have hz := fun hI' => hk _ _ _ _ H1 locs1 _ hs2 hI' hl
        refine hz ⟨am_set_P ho rfl am_cell_oL ?_ hP1, hS1, hI.2.2.1.wL, hI.2.2.2.1, hI.2.2.2.2⟩
        rw [am_cell_obj h2, ← am_fs_set h3 (am_put_oL (x := x)), am_put_gvL hkd]
        rfl
      · refine va_putF (ref := (T a).1) hexec hb hts e5 ty e6 e7 hown hE.1 hI.1 (am_cc_D hI.2.2.2.1 hG.1) hI.2.1 o ((am_cc_at ho).trans (by rw [am_cell_obj h2])) e1 a (by rw [← e2]; exact h3) hlk (fun x q => q) (by rw [← e4]; exact h4.1) (hini h4.2.1) (by rw [← e4]; exact h4.2.2) (e6 a (by rw [← e2]; exact h3)) (v := .long x) (by rw [hty]; rfl) (by rw [hty]; rfl) (by simp [h3]) hd (fun H1 locs1 hP1 hD1 hS1 => ?_)
        have hz := fun hI' => hk _ _ _ _ H1 locs1 _ hs2 hI' hl
        refine hz ⟨am_set_P ho rfl am_cell_oL ?_ hP1, hS1, hI.2.2.1.wL, hI.2.2.2.1, hI.2.2.2.2⟩
        rw [am_cell_obj h2, ← am_fs_set h3 (am_put_oL (x := x)), am_put_gvL hkd]
        rfl
    · rename_i hkd hkd1
      obtain ⟨x, r1, rfl, hs1⟩ := am_pR.inv hs
      obtain ⟨o, r, rfl, hsh, hs2⟩ := am_pR.inv hs1
      have ho := am_obj hsh h2
      have hty : (∃ n, ty a = .object n) ∨ ∃ t, ty a = .array t := by
        revert e9
        cases ty a <;> intro e9 <;> first | exact Or.inl ⟨_, rfl⟩ | exact Or.inr ⟨_, rfl⟩ | exact absurd e9.1 hkd | exact absurd e9.1 hkd1
      rcases h4 with h4 | h4
      · refine va_put (ref := (T a).1) hexec hb hts e5 ty e6 e7 hown hE.1 hI.1 (am_cc_D hI.2.2.2.1 hG.1) hI.2.1 o ((am_cc_at ho).trans (by rw [am_cell_obj h2])) e1 a (by rw [← e2]; exact h3) hlk (fun x q => q) (by rw [← e4]; exact h4) (e6 a (by rw [← e2]; exact h3)) (v := .ref (ad x)) (by rcases hty with ⟨n, q⟩ | ⟨n, q⟩ <;> rw [q] <;> rfl) (by rcases hty with ⟨n, q⟩ | ⟨n, q⟩ <;> rw [q] <;> rfl) (by simp [h3]) hd (fun H1 locs1 hP1 hD1 hS1 => ?_)
        have hz := fun hI' => hk _ _ _ _ H1 locs1 _ hs2 hI' hl
        refine hz ⟨am_set_P ho rfl am_cell_oR ?_ hP1, hS1, hI.2.2.1.wR, hI.2.2.2.1, hI.2.2.2.2⟩
        rw [am_cell_obj h2, ← am_fs_set h3 (am_put_oR (x := some x)), am_put_gvR hkd hkd1]
        rfl
      · refine va_putF (ref := (T a).1) hexec hb hts e5 ty e6 e7 hown hE.1 hI.1 (am_cc_D hI.2.2.2.1 hG.1) hI.2.1 o ((am_cc_at ho).trans (by rw [am_cell_obj h2])) e1 a (by rw [← e2]; exact h3) hlk (fun x q => q) (by rw [← e4]; exact h4.1) (hini h4.2.1) (by rw [← e4]; exact h4.2.2) (e6 a (by rw [← e2]; exact h3)) (v := .ref (ad x)) (by rcases hty with ⟨n, q⟩ | ⟨n, q⟩ <;> rw [q] <;> rfl) (by rcases hty with ⟨n, q⟩ | ⟨n, q⟩ <;> rw [q] <;> rfl) (by simp [h3]) hd (fun H1 locs1 hP1 hD1 hS1 => ?_)
        have hz := fun hI' => hk _ _ _ _ H1 locs1 _ hs2 hI' hl
        refine hz ⟨am_set_P ho rfl am_cell_oR ?_ hP1, hS1, hI.2.2.1.wR, hI.2.2.2.1, hI.2.2.2.2⟩
        rw [am_cell_obj h2, ← am_fs_set h3 (am_put_oR (x := some x)), am_put_gvR hkd hkd1]
        rfl
  case iaload =>
    obtain ⟨hd, rfl, hx⟩ := am_ok3 hok
    obtain ⟨i, r1, rfl, hs1⟩ := am_pI.inv hs
    obtain ⟨o, r, rfl, j, n, hsh, hj, rfl, hs2⟩ := am_pR.inv hs1
    rcases am_sh_cases hsh with ⟨rfl, hn⟩ | ho
    · have hnL : n = L := (congrArg Prod.snd hn).trans hI.2.2.1.1
      subst hnL
      have hA : ¬ am_A base b := fun q => absurd hG.2.2.1 (Nat.not_lt.mpr q)
      have e1 := hI.2.2.1.2 j hj
      rw [e1] at hs2
      have hs3 := hk _ _ _ _ _ _ _ hs2 hI hl
      show W p l e R s m args below meth c H locs (am_ce c0 h) (am_sc c0 h) Qw (F0 m pc ls (.int (nI j) :: .ref (ad 3000000) :: r.map (am_cv ad)))
      rw [hG.2.1]
      refine va_sld hexec hb hE.2.2.1 (Nat.lt_of_lt_of_le hG.2.2.1 hbase) hA hI.2.1 (vp_in_nI hj hG.2.2.2) hd ?_
      rw [nI_clamp (Nat.lt_trans hj hG.2.2.2)]
      exact hs3
    · have hn := am_lenlt ho
      refine va_iald hexec hb hE.1 hI.1 o 1 ((am_cc_at ho).trans (by rw [am_cell_i (Or.inr (Or.inl rfl))])) rfl (vp_in_nI hj hn) hd ?_
      rw [nI_clamp (Nat.lt_trans hj hn)]
      exact hk _ _ _ _ _ _ _ hs2 hI hl
  case caload =>
    obtain ⟨hd, rfl, hx⟩ := am_ok3 hok
    obtain ⟨i, r1, rfl, hs1⟩ := am_pI.inv hs
    obtain ⟨o, r, rfl, j, n, hsh, hj, rfl, hs2⟩ := am_pR.inv hs1
    rcases am_sh_cases hsh with ⟨rfl, hn⟩ | ho
    · exact absurd (show (12 : Nat) = 13 from congrArg Prod.fst hn) (by decide)
    · have hn := am_lenlt ho
      refine va_cald hexec hb hE.1 hI.1 o 0 ((am_cc_at ho).trans (by rw [am_cell_i (Or.inl rfl)])) rfl (vp_in_nI hj hn) hd ?_
      rw [nI_clamp (Nat.lt_trans hj hn)]
      exact hk _ _ _ _ _ _ _ hs2 hI hl
  case baload =>
    obtain ⟨hd, rfl, hx⟩ := am_ok3 hok
    obtain ⟨i, r1, rfl, hs1⟩ := am_pI.inv hs
    obtain ⟨o, r, rfl, ⟨j, n, hsh, hj, rfl, hs2⟩ | ⟨q, j, hq, rfl, hj, rfl, hs2⟩⟩ := am_pR.inv hs1
    rotate_left
    · have hS9 := hE.2.2.2.2.2.1.1 q hq
      have hln : am_sln.getD q 0 < 2 ^ 31 := Nat.lt_of_le_of_lt (am_sln_le q) (by decide)
      refine va_tb hexec hb hS9.2.2.2 hI.2.1 (vp_in_nI hj hln) (v := .int ((am_sby.getD q []).getD j 0)) (by rw [nI_clamp (Nat.lt_trans hj hln)]) hd ?_
      exact hk _ _ _ _ _ _ _ hs2 hI hl
    rcases am_sh_cases hsh with ⟨rfl, hn⟩ | ho
    · exact absurd (show (15 : Nat) = 13 from congrArg Prod.fst hn) (by decide)
    · have hn := am_lenlt ho
      refine va_zald hexec hb hE.1 hI.1 o 3 ((am_cc_at ho).trans (by rw [am_cell_i (Or.inr (Or.inr rfl))])) rfl (vp_in_nI hj hn) hd ?_
      rw [nI_clamp (Nat.lt_trans hj hn)]
      exact hk _ _ _ _ _ _ _ hs2 hI hl
  case laload =>
    obtain ⟨hd, rfl, hx⟩ := am_ok3 hok
    obtain ⟨i, r1, rfl, hs1⟩ := am_pI.inv hs
    obtain ⟨o, r, rfl, j, n, hsh, hj, rfl, hs2⟩ := am_pR.inv hs1
    rcases am_sh_cases hsh with ⟨rfl, hn⟩ | ho
    · exact absurd (show (14 : Nat) = 13 from congrArg Prod.fst hn) (by decide)
    · have hn := am_lenlt ho
      refine va_lald hexec hb hE.1 hI.1 o 2 ((am_cc_at ho).trans (by rw [am_cell_l])) rfl (vp_in_nI hj hn) hd ?_
      rw [nI_clamp (Nat.lt_trans hj hn)]
      exact hk _ _ _ _ _ _ _ hs2 hI hl
  case aaload =>
    obtain ⟨hd, rfl, hx⟩ := am_ok3 hok
    obtain ⟨i, r1, rfl, hs1⟩ := am_pI.inv hs
    obtain ⟨o, r, rfl, j, n, hsh, hj, rfl, hs2⟩ := am_pR.inv hs1
    rcases hsh with hsh | hsh
    · rcases am_sh_cases hsh with ⟨rfl, hn⟩ | ho
      · exact absurd (show (16 : Nat) = 13 from congrArg Prod.fst hn) (by decide)
      · have hn := am_lenlt ho
        refine va_aldq hexec hb hE.1 hI.1 o 4 ((am_cc_at ho).trans (by rw [am_cell_r (Or.inl rfl)])) rfl (vp_in_nI hj hn) hd ?_
        rw [nI_clamp (Nat.lt_trans hj hn), ← am_rf_cv]
        exact hk _ _ _ _ _ _ _ hs2 hI hl
    · rcases am_sh_cases hsh with ⟨rfl, hn⟩ | ho
      · exact absurd (show (17 : Nat) = 13 from congrArg Prod.fst hn) (by decide)
      · have hn := am_lenlt ho
        refine va_aldq hexec hb hE.1 hI.1 o 5 ((am_cc_at ho).trans (by rw [am_cell_r (Or.inr rfl)])) rfl (vp_in_nI hj hn) hd ?_
        rw [nI_clamp (Nat.lt_trans hj hn), ← am_rf_cv]
        exact hk _ _ _ _ _ _ _ hs2 hI hl
  case iastore =>
    obtain ⟨hd, rfl, hx⟩ := am_ok3 hok
    obtain ⟨x, r1, rfl, hs0⟩ := am_pI.inv hs
    obtain ⟨i, r2, rfl, hs1⟩ := am_pI.inv hs0
    obtain ⟨o, r, rfl, j, n, ho, hj, rfl, hs2⟩ := am_pR.inv hs1
    have hn := am_lenlt ho
    refine va_iast hexec hb hE.1 hI.1 (am_cc_D hI.2.2.2.1 hG.1) hI.2.1 o 1 ((am_cc_at ho).trans (by rw [am_cell_i (Or.inr (Or.inl rfl))])) rfl (vp_in_nI hj hn) hd (fun H1 locs1 hP1 hD1 hS1 => ?_)
    rw [nI_clamp (Nat.lt_trans hj hn)] at hP1
    have hz := fun hI' => hk _ _ _ _ H1 locs1 _ hs2 hI' hl
    refine hz ⟨am_set_P ho rfl am_cell_oI ?_ hP1, hS1, hI.2.2.1.wI (am_sw_lt ho), hI.2.2.2.1, hI.2.2.2.2⟩
    rw [am_cell_i (Or.inr (Or.inl rfl)), am_wI_upd]
  case castore =>
    obtain ⟨hd, rfl, hx⟩ := am_ok3 hok
    obtain ⟨x, r1, rfl, hs0⟩ := am_pI.inv hs
    obtain ⟨i, r2, rfl, hs1⟩ := am_pI.inv hs0
    obtain ⟨o, r, rfl, j, n, ho, hj, rfl, hs2⟩ := am_pR.inv hs1
    have hn := am_lenlt ho
    refine va_cast hexec hb hE.1 hI.1 (am_cc_D hI.2.2.2.1 hG.1) hI.2.1 o 0 ((am_cc_at ho).trans (by rw [am_cell_i (Or.inl rfl)])) rfl (vp_in_nI hj hn) hd (fun H1 locs1 hP1 hD1 hS1 => ?_)
    rw [nI_clamp (Nat.lt_trans hj hn)] at hP1
    have hz := fun hI' => hk _ _ _ _ H1 locs1 _ hs2 hI' hl
    refine hz ⟨am_set_P ho rfl am_cell_oI ?_ hP1, hS1, hI.2.2.1.wI (am_sw_lt ho), hI.2.2.2.1, hI.2.2.2.2⟩
    rw [am_cell_i (Or.inl rfl), am_wI_upd]
  case bastore =>
    obtain ⟨hd, rfl, hx⟩ := am_ok3 hok
    obtain ⟨x, r1, rfl, hs0⟩ := am_pI.inv hs
    obtain ⟨i, r2, rfl, hs1⟩ := am_pI.inv hs0
    obtain ⟨o, r, rfl, j, n, ho, hj, rfl, hs2⟩ := am_pR.inv hs1
    have hn := am_lenlt ho
    refine va_zast hexec hb hE.1 hI.1 (am_cc_D hI.2.2.2.1 hG.1) hI.2.1 o 3 ((am_cc_at ho).trans (by rw [am_cell_i (Or.inr (Or.inr rfl))])) rfl (vp_in_nI hj hn) hd (fun H1 locs1 hP1 hD1 hS1 => ?_)
    rw [nI_clamp (Nat.lt_trans hj hn)] at hP1
    have hz := fun hI' => hk _ _ _ _ H1 locs1 _ hs2 hI' hl
    refine hz ⟨am_set_P ho rfl am_cell_oI ?_ hP1, hS1, hI.2.2.1.wI (am_sw_lt ho), hI.2.2.2.1, hI.2.2.2.2⟩
    rw [am_cell_i (Or.inr (Or.inr rfl)), am_wI_upd]
  case lastore =>
    obtain ⟨hd, rfl, hx⟩ := am_ok3 hok
    obtain ⟨x, r1, rfl, hs0⟩ := am_pL.inv hs
    obtain ⟨i, r2, rfl, hs1⟩ := am_pI.inv hs0
    obtain ⟨o, r, rfl, j, n, ho, hj, rfl, hs2⟩ := am_pR.inv hs1
    have hn := am_lenlt ho
    refine va_last hexec hb hE.1 hI.1 (am_cc_D hI.2.2.2.1 hG.1) hI.2.1 o 2 ((am_cc_at ho).trans (by rw [am_cell_l])) rfl (vp_in_nI hj hn) hd (fun H1 locs1 hP1 hD1 hS1 => ?_)
    rw [nI_clamp (Nat.lt_trans hj hn)] at hP1
    have hz := fun hI' => hk _ _ _ _ H1 locs1 _ hs2 hI' hl
    refine hz ⟨am_set_P ho rfl am_cell_oL ?_ hP1, hS1, hI.2.2.1.wL, hI.2.2.2.1, hI.2.2.2.2⟩
    rw [am_cell_l, am_wL_upd]
  case arraylength =>
    obtain ⟨hd, rfl, hx⟩ := am_ok3 hok
    obtain ⟨o, r, rfl, ⟨t, n, hsh, ht, hs1⟩ | ⟨q, hq, rfl, hs1⟩⟩ := am_pR.inv hs
    rotate_left
    · have hS9 := hE.2.2.2.2.2.1.1 q hq
      exact va_tlen hexec hb hS9.2.2.2 hI.2.1 rfl hd (hk _ _ _ _ _ _ _ hs1 hI hl)
    rcases am_sh_cases hsh with ⟨rfl, hn⟩ | ho
    · have hnL : n = L := (congrArg Prod.snd hn).trans hI.2.2.1.1
      subst hnL
      have hA : ¬ am_A base b := fun q => absurd hG.2.2.1 (Nat.not_lt.mpr q)
      have hs2 := hk _ _ _ _ _ _ _ hs1 hI hl
      show W p l e R s m args below meth c H locs (am_ce c0 h) (am_sc c0 h) Qw (F0 m pc ls (.ref (ad 3000000) :: r.map (am_cv ad)))
      rw [hG.2.1]
      exact va_slen hexec hb hE.2.2.1 (Nat.lt_of_lt_of_le hG.2.2.1 hbase) hA hI.2.1 hd hs2
    · have ht2 : t = 12 ∨ t = 13 ∨ t = 14 ∨ t = 15 ∨ t = 16 ∨ t = 17 := am_ar h o t n ho ht
      rcases ht2 with rfl | rfl | rfl | rfl | rfl | rfl
      · exact va_alen (x := (n, .inl (h.1 o))) hexec hb hE.1 hI.1 o 0 ((am_cc_at ho).trans (by rw [am_cell_i (Or.inl rfl)])) rfl rfl hd (hk _ _ _ _ _ _ _ hs1 hI hl)
      · exact va_alen (x := (n, .inl (h.1 o))) hexec hb hE.1 hI.1 o 1 ((am_cc_at ho).trans (by rw [am_cell_i (Or.inr (Or.inl rfl))])) rfl rfl hd (hk _ _ _ _ _ _ _ hs1 hI hl)
      · exact va_alen (x := (n, .inr (.inl (h.2.1 o)))) hexec hb hE.1 hI.1 o 2 ((am_cc_at ho).trans (by rw [am_cell_l])) rfl rfl hd (hk _ _ _ _ _ _ _ hs1 hI hl)
      · exact va_alen (x := (n, .inl (h.1 o))) hexec hb hE.1 hI.1 o 3 ((am_cc_at ho).trans (by rw [am_cell_i (Or.inr (Or.inr rfl))])) rfl rfl hd (hk _ _ _ _ _ _ _ hs1 hI hl)
      · exact va_alen (x := (n, .inr (.inr (.inr (.inr (fun j => (h.2.2.1 o j).map ad)))))) hexec hb hE.1 hI.1 o 4 ((am_cc_at ho).trans (by rw [am_cell_r (Or.inl rfl)])) rfl rfl hd (hk _ _ _ _ _ _ _ hs1 hI hl)
      · exact va_alen (x := (n, .inr (.inr (.inr (.inr (fun j => (h.2.2.1 o j).map ad)))))) hexec hb hE.1 hI.1 o 5 ((am_cc_at ho).trans (by rw [am_cell_r (Or.inr rfl)])) rfl rfl hd (hk _ _ _ _ _ _ _ hs1 hI hl)
  case invokevirtual k =>
    obtain ⟨hd, rfl, hx⟩ := am_ok3 hok
    refine am_Wsz (fun hle => ?_)
    have hw := am_sizeq hG hsz hI hle
    have hx : (decide (am_ml[c']? = some (own, k, a)) && (bif Nat.beq d 20 then decide ((a, b') ∈ am_svl) else decide ((a, b', d) ∈ am_vls))) = true := hx
    rw [Bool.and_eq_true, decide_eq_true_eq] at hx
    obtain ⟨h1, h2⟩ := hx
    cases hd20 : Nat.beq d 20 with
    | true =>
      rw [hd20] at h2
      have h2 := of_decide_eq_true h2
      obtain ⟨v1, v2, v3, v4, v6, v7, v8, v9, v10⟩ := am_svl_at h2
      unfold am_stp at hs
      dsimp only at hs
      split at hs
      · rename_i As o r hpop
        obtain ⟨B, rfl, hB, rfl⟩ := am_pop_inv hpop
        rw [List.append_nil] at hs hpop
        obtain ⟨hrc, hcat, hlm, hcp⟩ := hs
        rcases hrc with ⟨hne, -⟩ | ⟨-, q, hq, rfl⟩
        · exact absurd (Nat.eq_of_beq_eq_true hd20) hne
        obtain ⟨dd, hM, hfr, hlo⟩ := hC _ _ _ _ hcp
        have hG2 : GoodIn am_gw (wsV own k "java/lang/String" (am_y a) (am_ws a)) := am_good_in (fun w hw => by
          unfold wsV at hw
          rcases List.mem_append.mp hw with q | q
          · simp only [List.mem_cons, List.not_mem_nil, or_false] at q
            rcases q with rfl | rfl | rfl | rfl
            · exact am_gw_ml h1 v10
            · exact am_gw_in v1
            · rw [← v4]; exact am_gw_se v2
            · rw [← v4]; exact am_gw_ii v6
          · exact am_ws_in v7 w q)
        have hrun := va_runV (p := p) (e := e) (below := below) (meth := meth) (locs := locs) (cells := am_ce c0 h) (slots := am_sc c0 h) (g := F0 m pc ls ((B.reverse ++ .ref (4000000 + q) :: r).map (am_cv ad))) (As := B.map (am_cv ad)) (rest := r.map (am_cv ad)) (b := ad (4000000 + q)) ⟨hexec, hb, hml, hown, hts⟩ hM (cwV (R := R) b' hts hG2 rfl rfl rfl ⟨v4, v9.1, v9.2, v3⟩ ⟨hfr, by show 8 + (am_nL a + 11) + 40 * dd ≤ R.locals; omega⟩) ⟨am_Pc.blind, vk_recv (adK := fun i => ad (4000000 + i)) (i := q) hE.2.2.2.2.2.1 hq hI.2.1, fun U hU hW => ⟨rfl, hE.warm hW (fun x9 g9 g8 => by rw [hU]; exact hI.2.1.2.1 x9 g9 g8) (Nat.lt_of_lt_of_le hG.2.2.1 hbase) (fun q => absurd hG.2.2.1 (Nat.not_lt.mpr q)), by rw [hU]; exact Nat.le_trans hbase hI.2.1.1, by rw [hU]; exact hI.1, hI.2.2.1, by rw [hU]; exact hw⟩⟩ rfl (by rw [List.length_map, hB]) hl.1 (by show (B.reverse ++ .ref (4000000 + q) :: r).map (am_cv ad) = _; rw [List.map_append, List.map_reverse]; rfl) (lv_room (by rw [List.map_map]; exact Nat.le_trans (Nat.le_of_eq (congrArg List.sum (List.map_congr_left (fun v _ => am_cv_cat ad v)))) hcat)) hd (am_fit hcs hI.2.2.2.2 hlm)
        refine am_call_go hrun hI.2.1 hI.2.2.2.2 (fun v h' H1 locs1 hk1 hI1 => ?_)
        have := hk _ _ _ _ _ _ _ hk1 hI1 hl
        rw [List.map_append] at this
        cases v <;> exact this
      · exact hs.elim
    | false =>
    rw [hd20] at h2
    have h2 := of_decide_eq_true h2
    obtain ⟨v1, v2, v3, v4, v5, v6, v7, v8, v9, v10⟩ := am_vls_at h2
    unfold am_stp at hs
    dsimp only at hs
    split at hs
    · rename_i As o r hpop
      obtain ⟨B, rfl, hB, rfl⟩ := am_pop_inv hpop
      rw [List.append_nil] at hs hpop
      obtain ⟨hrc, hcat, hlm, hcp⟩ := hs
      have hsh : am_sh h o = some (d, 0) := hrc.elim (fun z => z.2) (fun z => absurd z.1 (by omega))
      have ho := am_obj hsh v5
      obtain ⟨dd, hM, hfr, hlo⟩ := hC _ _ _ _ hcp
      obtain ⟨C, T, N, e1, e2, e3, e4, e5, ty, e6, e7, e8⟩ := am_ci_ok d v5
      have hG2 : GoodIn am_gw (wsV own k (am_cn d) (am_y a) (am_ws a)) := am_good_in (fun w hw => by
        unfold wsV at hw
        rcases List.mem_append.mp hw with q | q
        · simp only [List.mem_cons, List.not_mem_nil, or_false] at q
          rcases q with rfl | rfl | rfl | rfl
          · exact am_gw_ml h1 v10
          · exact am_gw_in v1
          · rw [v4]; exact am_gw_se v2
          · rw [v4]; exact am_gw_ii v6
        · exact am_ws_in v7 w q)
      have hrun := va_runV (p := p) (e := e) (below := below) (meth := meth) (locs := locs) (cells := am_ce c0 h) (slots := am_sc c0 h) (g := F0 m pc ls ((B.reverse ++ .ref o :: r).map (am_cv ad))) (As := B.map (am_cv ad)) (rest := r.map (am_cv ad)) (b := ad o) ⟨hexec, hb, hml, hown, hts⟩ hM (cwV (R := R) b' hts hG2 rfl rfl rfl ⟨v4.symm, v9.1, v9.2, v3⟩ ⟨hfr, by show 8 + (am_nL a + 11) + 40 * dd ≤ R.locals; omega⟩) ⟨am_Pc.blind, by rw [e3]; exact va_recv hE.1 hI.1 e1 ((am_cc_at ho).trans (by rw [am_cell_obj v5])), fun U hU hW => ⟨rfl, hE.warm hW (fun x9 g9 g8 => by rw [hU]; exact hI.2.1.2.1 x9 g9 g8) (Nat.lt_of_lt_of_le hG.2.2.1 hbase) (fun q => absurd hG.2.2.1 (Nat.not_lt.mpr q)), by rw [hU]; exact Nat.le_trans hbase hI.2.1.1, by rw [hU]; exact hI.1, hI.2.2.1, by rw [hU]; exact hw⟩⟩ rfl (by rw [List.length_map, hB]) hl.1 (by show (B.reverse ++ .ref o :: r).map (am_cv ad) = _; rw [List.map_append, List.map_reverse]; rfl) (lv_room (by rw [List.map_map]; exact Nat.le_trans (Nat.le_of_eq (congrArg List.sum (List.map_congr_left (fun v _ => am_cv_cat ad v)))) hcat)) hd (am_fit hcs hI.2.2.2.2 hlm)
      refine am_call_go hrun hI.2.1 hI.2.2.2.2 (fun v h' H1 locs1 hk1 hI1 => ?_)
      have := hk _ _ _ _ _ _ _ hk1 hI1 hl
      rw [List.map_append] at this
      cases v <;> exact this
    · exact hs.elim
  case invokestatic k =>
    obtain ⟨hd, rfl, hx⟩ := am_ok3 hok
    refine am_Wsz (fun hle => ?_)
    have hw := am_sizeq hG hsz hI hle
    have hx : ((bif Nat.beq d 1 then decide (am_nl[c']? = some (own, k, a)) else decide (am_ml[c']? = some (own, k, a))) && decide ((a, b') ∈ am_sls)) = true := hx
    rw [Bool.and_eq_true] at hx
    obtain ⟨h1, h2⟩ := hx
    have h2 := of_decide_eq_true h2
    obtain ⟨v1, v3, v6, v7, v8, v9, v10⟩ := am_sls_at h2
    unfold am_stp at hs
    dsimp only at hs
    split at hs
    · rename_i As r hpop
      obtain ⟨B, rfl, hB, rfl⟩ := am_pop_inv hpop
      rw [List.append_nil] at hs hpop
      obtain ⟨hcat, hlm, hcp⟩ := hs
      obtain ⟨dd, hM, hfr, hlo⟩ := hC _ _ _ _ hcp
      have hpc : PreS s H (am_Pc D cA ad base b L xs B h) (B.map (am_cv ad)) := ⟨am_Pc.blind, fun U hU hW => ⟨rfl, hE.warm hW (fun x9 g9 g8 => by rw [hU]; exact hI.2.1.2.1 x9 g9 g8) (Nat.lt_of_lt_of_le hG.2.2.1 hbase) (fun q => absurd hG.2.2.1 (Nat.not_lt.mpr q)), by rw [hU]; exact Nat.le_trans hbase hI.2.1.1, by rw [hU]; exact hI.1, hI.2.2.1, by rw [hU]; exact hw⟩⟩
      have hstk : (F0 m pc ls ((B.reverse ++ r).map (am_cv ad))).stack = (B.map (am_cv ad)).reverse ++ r.map (am_cv ad) := by show (B.reverse ++ r).map (am_cv ad) = _; rw [List.map_append, List.map_reverse]
      have hroom : 2 * (F0 m pc ls ((B.reverse ++ r).map (am_cv ad))).monitorRoom + ((r.map (am_cv ad)).map fun v => v.category).sum ≤ 8 := lv_room (by rw [List.map_map]; exact Nat.le_trans (Nat.le_of_eq (congrArg List.sum (List.map_congr_left (fun v _ => am_cv_cat ad v)))) hcat)
      have hrun : va_Run p l e R s m args below meth c H locs (am_ce c0 h) (am_sc c0 h) (am_al a) (am_ms a h) (F0 m pc ls ((B.reverse ++ r).map (am_cv ad))) (r.map (am_cv ad)) (am_Qc D cA ad base L xs (fun v h' => h'.2.2.2.2 = h.2.2.2.2 + am_al a ∧ K (pc + am_len (.invokestatic k)) lv (v.toList ++ r) h') (B.map (am_cv ad)).toArray) (am_A base) := by
        cases hq : Nat.beq d 1 with
        | true =>
          rw [hq] at h1
          have h1 : am_nl[c']? = some (own, k, a) := of_decide_eq_true h1
          exact va_runSN ⟨hexec, hb, hml, hown, hts⟩ hM ⟨va_cnB (R := R) b' hts (am_good_in (am_ws_in v7)) rfl rfl rfl (hE.2.1 c' k a own h1) (hts _ (am_gw_ii v6)) ⟨v9.1, v9.2, v3⟩ ⟨hfr, by show 8 + (am_nL a + 11) + 40 * dd ≤ R.locals; omega⟩, hts _ (am_gw_st v1), trivial⟩ hpc rfl (by rw [List.length_map, hB]) hl.1 hstk hroom hd (am_fit hcs hI.2.2.2.2 hlm)
        | false =>
          rw [hq] at h1
          have h1 : am_ml[c']? = some (own, k, a) := of_decide_eq_true h1
          have hG2 : GoodIn am_gw (va_wsS own k (am_y a) (am_ws a)) := am_good_in (fun w hw => by
            unfold va_wsS at hw
            rcases List.mem_append.mp hw with q | q
            · simp only [List.mem_cons, List.not_mem_nil, or_false] at q
              rcases q with rfl | rfl | rfl
              · exact am_gw_ml h1 v10
              · exact am_gw_st v1
              · exact am_gw_ii v6
            · exact am_ws_in v7 w q)
          exact va_runS ⟨hexec, hb, hml, hown, hts⟩ hM (va_cwS (R := R) b' hts hG2 rfl rfl rfl ⟨v9.1, v9.2, v3⟩ ⟨hfr, by show 8 + (am_nL a + 11) + 40 * dd ≤ R.locals; omega⟩) hpc rfl (by rw [List.length_map, hB]) hl.1 hstk hroom hd (am_fit hcs hI.2.2.2.2 hlm)
      refine am_call_go hrun hI.2.1 hI.2.2.2.2 (fun v h' H1 locs1 hk1 hI1 => ?_)
      have := hk _ _ _ _ _ _ _ hk1 hI1 hl
      rw [List.map_append] at this
      cases v <;> exact this
    · exact hs.elim
  case aastore =>
    obtain ⟨hd, rfl, hx⟩ := am_ok3 hok
    obtain ⟨x, r1, rfl, hs0⟩ := am_pR.inv hs
    obtain ⟨i, r2, rfl, hs1⟩ := am_pI.inv hs0
    obtain ⟨o, r, rfl, j, n, hoo, hj, rfl, hs2⟩ := am_pR.inv hs1
    rcases hoo with ⟨ho, hox⟩ | ⟨ho, hox⟩
    · have hn := am_lenlt ho
      have h2 : 5 < 12 := by decide
      refine va_astq (r := (RX5, TX5, 4)) hexec hb hE.1 hI.1 (am_cc_D hI.2.2.2.1 hG.1) hI.2.1 o 4 x 5 ((am_cc_at ho).trans (by rw [am_cell_r (Or.inl rfl)])) rfl ((am_cc_at hox).trans (by rw [am_cell_obj h2])) rfl (vp_in_nI hj hn) hd (fun H1 locs1 hP1 hD1 hS1 => ?_)
      rw [nI_clamp (Nat.lt_trans hj hn)] at hP1
      have hz := fun hI' => hk _ _ _ _ H1 locs1 _ hs2 hI' hl
      refine hz ⟨am_set_P ho rfl am_cell_oR ?_ hP1, hS1, hI.2.2.1.wR, hI.2.2.2.1, hI.2.2.2.2⟩
      rw [am_cell_r (Or.inl rfl), am_wR_upd]
    · have hn := am_lenlt ho
      have h2 : 6 < 12 := by decide
      refine va_astq (r := (RX6, TX6, 6)) hexec hb hE.1 hI.1 (am_cc_D hI.2.2.2.1 hG.1) hI.2.1 o 5 x 6 ((am_cc_at ho).trans (by rw [am_cell_r (Or.inr rfl)])) rfl ((am_cc_at hox).trans (by rw [am_cell_obj h2])) rfl (vp_in_nI hj hn) hd (fun H1 locs1 hP1 hD1 hS1 => ?_)
      rw [nI_clamp (Nat.lt_trans hj hn)] at hP1
      have hz := fun hI' => hk _ _ _ _ H1 locs1 _ hs2 hI' hl
      refine hz ⟨am_set_P ho rfl am_cell_oR ?_ hP1, hS1, hI.2.2.1.wR, hI.2.2.2.1, hI.2.2.2.2⟩
      rw [am_cell_r (Or.inr rfl), am_wR_upd]
  case new k =>
    obtain ⟨hd, rfl, hx⟩ := am_ok3 hok
    refine am_Wsz (fun hle => ?_)
    have hw := am_sizeq hG hsz hI hle
    have hx : (decide (am_ck[c']? = some (own, k, am_cn b')) && (decide (b' < 12) && decide (am_cn b' ∈ am_iiw))) = true := hx
    obtain ⟨h1, h2, h3⟩ := am_ok3 hx
    have h3 := of_decide_eq_true h3
    obtain ⟨he, hlm, hs1⟩ := hs
    obtain ⟨C, T, N, e1, e2, e3, e4, e5, ty, e6, e7, e8⟩ := am_ci_ok b' h2
    obtain ⟨⟨f1, f2⟩, f3, f4⟩ := am_fit1 hcs hI.2.2.2.2 he hlm
    have hsi : am_siz (b', 0) = N := by
      unfold am_siz
      have : Nat.blt b' 12 = true := Nat.ble_eq_true_of_le h2
      dsimp only
      rw [this]
      exact e2
    have hKn := hE.1.1 b' _ e1
    rw [hsi] at f2 f4
    rw [e3] at h1 h3
    have hia : (Cond.instantiable C N).before args s = true := by
      have q := List.all_eq_true.mp am_iaw_ok b' (List.mem_range.mpr h2)
      rw [e2, e3] at q
      exact hts _ (am_gw_ia (of_decide_eq_true q))
    have hlt := (List.getElem?_eq_some_iff.mp he).1
    have hads : H.size = ad h.2.2.2.2 := (hw.2 hlt).trans (hG.1 _ hlt).symm
    refine W.newcK hexec hb hown (hts _ (am_gw_ck h1)) hia (hts _ (am_gw_ii h3)) rfl hd f1 f2 hKn.2.1 rfl fun H1 kC hkC g1 z1 o1 => ?_
    rw [f3, f4]
    show W p l e R s m args below meth c H1 locs (am_ce c0 (am_nx h)) (am_sc c0 (am_nx h)) Qw (F0 m (pc + 3) ls (.ref H.size :: st.map (am_cv ad)))
    rw [hads]
    rw [hads] at g1
    refine hk _ _ _ _ _ _ _ hs1 (am_new_I hG hI he ?_ z1 o1) hl
    rw [am_cell_obj h2]
    refine ⟨_, e1, (u_born ty hts e5 hKn hkC g1 e6).to (fun j hj => ?_)⟩
    have hj2 : j < am_nf b' := by rw [e2]; exact hj
    have q := List.all_eq_true.mp (List.all_eq_true.mp am_dv_ok b' (List.mem_range.mpr h2)) j (List.mem_range.mpr hj2)
    have q := of_decide_eq_true q
    rw [(e8 j hj).2, ← am_gv_nx (ad := ad) (h := h)] at q
    rw [q]
    show _ = List.getD _ _ _
    rw [List.getD_eq_getElem?_getD, am_fs_at hj2]
    rfl
  case newarray t =>
    obtain ⟨hd, rfl, hx⟩ := am_ok3 hok
    refine am_Wsz (fun hle => ?_)
    have hw := am_sizeq hG hsz hI hle
    have hx : (Nat.beq b' (am_atc t) && Nat.ble b' 15) = true := hx
    rw [Bool.and_eq_true] at hx
    obtain ⟨i, r, rfl, n, he, rfl, hlm, hs2⟩ := am_pI.inv hs
    obtain ⟨⟨f1, f2⟩, f3, f4⟩ := am_fit1 hcs hI.2.2.2.2 he hlm
    have hbig := am_big_sh _ (List.mem_of_getElem? he)
    dsimp only at hbig
    have hn := am_len_sh _ (List.mem_of_getElem? he)
    dsimp only at hn
    have hn0 : ¬ nI n < 0 := nI_pos hn
    have hnc := nI_clamp hn
    have hlt := (List.getElem?_eq_some_iff.mp he).1
    have hads : H.size = ad h.2.2.2.2 := (hw.2 hlt).trans (hG.1 _ hlt).symm
    have hsi : 12 ≤ b' → am_siz (b', n) = n := by
      intro q
      unfold am_siz
      have : Nat.blt b' 12 = false := by
        cases hz : Nat.blt b' 12 with
        | false => rfl
        | true => exact absurd (Nat.le_of_ble_eq_true hz) (by omega)
      dsimp only
      rw [this]
      rfl
    have h12 : 12 ≤ b' := by
      have q := Nat.eq_of_beq_eq_true hx.1
      rw [q]
      cases t <;> decide
    rw [hsi h12] at f2 f4
    cases t
    case char =>
      have hbb : b' = 12 := Nat.eq_of_beq_eq_true hx.1
      subst hbb
      have hcA := (hE.1.2 0 _ rfl).2
      refine va_newaK (atype := .char) hexec hb (hts _ (by exact List.mem_filter.mpr ⟨am_ac_char, rfl⟩)) rfl hd rfl hn0 hnc (by show n * _ ≤ _; exact Nat.le_trans (Nat.mul_le_mul hbig (show componentBytes _ ≤ 8 by decide)) (by decide)) f1 f2 rfl fun H1 cA' g1 z1 o1 hAr hNm => ?_
      have hcc : cA' = cA 12 := Option.some.inj (hNm.symm.trans hcA)
      subst hcc
      rw [f3, f4]
      show W p l e R s m args below meth c H1 locs (am_ce c0 (am_nx h)) (am_sc c0 (am_nx h)) Qw (F0 m (pc + 2) ls (.ref H.size :: r.map (am_cv ad)))
      rw [hads]
      rw [hads] at g1
      refine hk _ _ _ _ _ _ _ hs2 (am_new_I hG hI he ?_ z1 o1) hl
      rw [am_cell_i (Or.inl rfl)]
      show H1[ad h.2.2.2.2]? = some (vp_cell _ _)
      rw [g1]
      simp [vp_cell, am_nx, defaultValue, newarray.typeOf]
    case int =>
      have hbb : b' = 13 := Nat.eq_of_beq_eq_true hx.1
      subst hbb
      have hcA := (hE.1.2 1 _ rfl).2
      refine va_newaK (atype := .int) hexec hb (hts _ (by exact List.mem_filter.mpr ⟨am_ac_int, rfl⟩)) rfl hd rfl hn0 hnc (by show n * _ ≤ _; exact Nat.le_trans (Nat.mul_le_mul hbig (show componentBytes _ ≤ 8 by decide)) (by decide)) f1 f2 rfl fun H1 cA' g1 z1 o1 hAr hNm => ?_
      have hcc : cA' = cA 13 := Option.some.inj (hNm.symm.trans hcA)
      subst hcc
      rw [f3, f4]
      show W p l e R s m args below meth c H1 locs (am_ce c0 (am_nx h)) (am_sc c0 (am_nx h)) Qw (F0 m (pc + 2) ls (.ref H.size :: r.map (am_cv ad)))
      rw [hads]
      rw [hads] at g1
      refine hk _ _ _ _ _ _ _ hs2 (am_new_I hG hI he ?_ z1 o1) hl
      rw [am_cell_i (Or.inr (Or.inl rfl))]
      show H1[ad h.2.2.2.2]? = some (vp_cell _ _)
      rw [g1]
      simp [vp_cell, am_nx, defaultValue, newarray.typeOf]
    case long =>
      have hbb : b' = 14 := Nat.eq_of_beq_eq_true hx.1
      subst hbb
      have hcA := (hE.1.2 2 _ rfl).2
      refine va_newaK (atype := .long) hexec hb (hts _ (by exact List.mem_filter.mpr ⟨am_ac_long, rfl⟩)) rfl hd rfl hn0 hnc (by show n * _ ≤ _; exact Nat.le_trans (Nat.mul_le_mul hbig (show componentBytes _ ≤ 8 by decide)) (by decide)) f1 f2 rfl fun H1 cA' g1 z1 o1 hAr hNm => ?_
      have hcc : cA' = cA 14 := Option.some.inj (hNm.symm.trans hcA)
      subst hcc
      rw [f3, f4]
      show W p l e R s m args below meth c H1 locs (am_ce c0 (am_nx h)) (am_sc c0 (am_nx h)) Qw (F0 m (pc + 2) ls (.ref H.size :: r.map (am_cv ad)))
      rw [hads]
      rw [hads] at g1
      refine hk _ _ _ _ _ _ _ hs2 (am_new_I hG hI he ?_ z1 o1) hl
      rw [am_cell_l]
      show H1[ad h.2.2.2.2]? = some (vp_cell _ _)
      rw [g1]
      simp [vp_cell, am_nx, defaultValue, newarray.typeOf]
    case boolean =>
      have hbb : b' = 15 := Nat.eq_of_beq_eq_true hx.1
      subst hbb
      have hcA := (hE.1.2 3 _ rfl).2
      refine va_newaK (atype := .boolean) hexec hb (hts _ (by exact List.mem_filter.mpr ⟨am_ac_boolean, rfl⟩)) rfl hd rfl hn0 hnc (by show n * _ ≤ _; exact Nat.le_trans (Nat.mul_le_mul hbig (show componentBytes _ ≤ 8 by decide)) (by decide)) f1 f2 rfl fun H1 cA' g1 z1 o1 hAr hNm => ?_
      have hcc : cA' = cA 15 := Option.some.inj (hNm.symm.trans hcA)
      subst hcc
      rw [f3, f4]
      show W p l e R s m args below meth c H1 locs (am_ce c0 (am_nx h)) (am_sc c0 (am_nx h)) Qw (F0 m (pc + 2) ls (.ref H.size :: r.map (am_cv ad)))
      rw [hads]
      rw [hads] at g1
      refine hk _ _ _ _ _ _ _ hs2 (am_new_I hG hI he ?_ z1 o1) hl
      rw [am_cell_i (Or.inr (Or.inr rfl))]
      show H1[ad h.2.2.2.2]? = some (vp_cell _ _)
      rw [g1]
      simp [vp_cell, am_nx, defaultValue, newarray.typeOf]
    all_goals exact absurd (Nat.le_of_ble_eq_true hx.2) (by rw [Nat.eq_of_beq_eq_true hx.1]; decide)
  case anewarray k =>
    obtain ⟨hd, rfl, hx⟩ := am_ok3 hok
    refine am_Wsz (fun hle => ?_)
    have hw := am_sizeq hG hsz hI hle
    have hx : ((Nat.beq b' 16 && decide (am_ck[c']? = some (own, k, "MistCanton$Mark"))) || (Nat.beq b' 17 && decide (am_ck[c']? = some (own, k, "MistCanton$State")))) = true := hx
    rw [Bool.or_eq_true, Bool.and_eq_true, Bool.and_eq_true] at hx
    obtain ⟨i, r, rfl, n, he, rfl, hlm, hs2⟩ := am_pI.inv hs
    obtain ⟨⟨f1, f2⟩, f3, f4⟩ := am_fit1 hcs hI.2.2.2.2 he hlm
    have hbig := am_big_sh _ (List.mem_of_getElem? he)
    dsimp only at hbig
    have hn := am_len_sh _ (List.mem_of_getElem? he)
    dsimp only at hn
    have hn0 : ¬ nI n < 0 := nI_pos hn
    have hnc := nI_clamp hn
    have hlt := (List.getElem?_eq_some_iff.mp he).1
    have hads : H.size = ad h.2.2.2.2 := (hw.2 hlt).trans (hG.1 _ hlt).symm
    rcases hx with hx | hx
    · have hbb : b' = 16 := Nat.eq_of_beq_eq_true hx.1
      subst hbb
      have h1 := of_decide_eq_true hx.2
      obtain ⟨kA0, comp0, -, -, -, hcA⟩ := (hE.1.2 4 _ rfl).2
      rw [show am_siz (16, n) = n from rfl] at f2 f4
      refine W.anew (C := "MistCanton$Mark") hexec hb hown (hts _ (am_gw_ck h1)) (va_AO.use hE.2.2.2.1) rfl hd rfl hn0 (by rw [hnc]; exact Nat.le_trans (Nat.mul_le_mul_right 4 hbig) (by decide)) f1 (by rw [hnc]; exact f2) fun cA' kA comp k1 k2 k3 k4 => ?_
      have hcc : cA' = cA 16 := Option.some.inj (k1.symm.trans hcA)
      subst hcc
      rw [hnc, f3, f4]
      generalize hH1 : H.push ({ cls := cA 16, slots := Array.replicate n .null, vm := .none } : Cell) = H1
      have z1 : H1.size = H.size + 1 := by rw [← hH1, Array.size_push]
      have g1 : H1[H.size]? = some (arrV (cA 16) n (fun _ => .null)) := by rw [← hH1, Array.getElem?_push_size, ← arrV_new]
      have o1 : ∀ q : Nat, q < H.size → H1[q]? = H[q]? := fun q hq => by rw [← hH1, Array.getElem?_push, if_neg (Nat.ne_of_lt hq)]
      show W p l e R s m args below meth c H1 locs (am_ce c0 (am_nx h)) (am_sc c0 (am_nx h)) Qw (F0 m (pc + 3) ls (.ref H.size :: r.map (am_cv ad)))
      rw [hads]
      rw [hads] at g1
      refine hk _ _ _ _ _ _ _ hs2 (am_new_I hG hI he ?_ z1 o1) hl
      rw [am_cell_r (Or.inl rfl)]
      show H1[ad h.2.2.2.2]? = some (vp_cell _ _)
      rw [g1]
      simp [vp_cell, am_nx, va_rf]
    · have hbb : b' = 17 := Nat.eq_of_beq_eq_true hx.1
      subst hbb
      have h1 := of_decide_eq_true hx.2
      obtain ⟨kA0, comp0, -, -, -, hcA⟩ := (hE.1.2 5 _ rfl).2
      rw [show am_siz (17, n) = n from rfl] at f2 f4
      refine W.anew (C := "MistCanton$State") hexec hb hown (hts _ (am_gw_ck h1)) (va_AO.use hE.2.2.2.2) rfl hd rfl hn0 (by rw [hnc]; exact Nat.le_trans (Nat.mul_le_mul_right 4 hbig) (by decide)) f1 (by rw [hnc]; exact f2) fun cA' kA comp k1 k2 k3 k4 => ?_
      have hcc : cA' = cA 17 := Option.some.inj (k1.symm.trans hcA)
      subst hcc
      rw [hnc, f3, f4]
      generalize hH1 : H.push ({ cls := cA 17, slots := Array.replicate n .null, vm := .none } : Cell) = H1
      have z1 : H1.size = H.size + 1 := by rw [← hH1, Array.size_push]
      have g1 : H1[H.size]? = some (arrV (cA 17) n (fun _ => .null)) := by rw [← hH1, Array.getElem?_push_size, ← arrV_new]
      have o1 : ∀ q : Nat, q < H.size → H1[q]? = H[q]? := fun q hq => by rw [← hH1, Array.getElem?_push, if_neg (Nat.ne_of_lt hq)]
      show W p l e R s m args below meth c H1 locs (am_ce c0 (am_nx h)) (am_sc c0 (am_nx h)) Qw (F0 m (pc + 3) ls (.ref H.size :: r.map (am_cv ad)))
      rw [hads]
      rw [hads] at g1
      refine hk _ _ _ _ _ _ _ hs2 (am_new_I hG hI he ?_ z1 o1) hl
      rw [am_cell_r (Or.inr rfl)]
      show H1[ad h.2.2.2.2]? = some (vp_cell _ _)
      rw [g1]
      simp [vp_cell, am_nx, va_rf]
  case invokespecial k =>
    obtain ⟨hd, rfl, hx⟩ := am_ok3 hok
    refine am_Wsz (fun hle => ?_)
    have hw := am_sizeq hG hsz hI hle
    have hx : (decide (am_ml[c']? = some (own, k, a)) && ((Nat.beq a 1 && Nat.beq b' 0) || decide ((a, b') ∈ am_ils))) = true := hx
    rw [Bool.and_eq_true] at hx
    obtain ⟨h1, h2⟩ := hx
    have h1 := of_decide_eq_true h1
    unfold am_stp at hs
    dsimp only at hs
    split at hs
    · rename_i As o r hpop
      obtain ⟨B, rfl, hB, rfl⟩ := am_pop_inv hpop
      rw [List.append_nil] at hs hpop
      obtain ⟨hcat, hs⟩ := hs
      have hroom : 2 * (F0 m pc ls ((B.reverse ++ .ref o :: r).map (am_cv ad))).monitorRoom + ((r.map (am_cv ad)).map fun v => v.category).sum ≤ 8 := lv_room (by rw [List.map_map]; exact Nat.le_trans (Nat.le_of_eq (congrArg List.sum (List.map_congr_left (fun v _ => am_cv_cat ad v)))) hcat)
      cases hq1 : Nat.beq a 1 with
      | true =>
        rw [hq1] at hs
        obtain ⟨rfl, hs⟩ := hs
        have ha : a = 1 := Nat.eq_of_beq_eq_true hq1
        subst ha
        exact W.objInit hexec hb hown (hts _ (am_gw_ml h1 (by decide))) (hts _ (am_gw_in (by decide +kernel))) (hts _ (am_gw_code (n := 1) rfl)) rfl (hl.1.trans hml.symm) rfl hd hR1.1 (Nat.le_trans (Nat.add_le_add_right hroom 12) hR1.2) (hk _ _ _ _ _ _ _ hs hI hl)
      | false =>
        rw [hq1] at hs h2
        obtain ⟨hlm, hcp⟩ := hs
        have h2 : (a, b') ∈ am_ils := of_decide_eq_true h2
        obtain ⟨v1, v3, v4, v5, v6, v7, v8, v9, v10⟩ := am_ils_at h2
        obtain ⟨dd, hM, hfr, hlo⟩ := hC _ _ _ _ hcp
        have hpc : PreS s H (am_Pc D cA ad base b L xs (.ref o :: B) h) (.ref (ad o) :: B.map (am_cv ad)) := ⟨am_Pc.blind, fun U hU hW => ⟨rfl, hE.warm hW (fun x9 g9 g8 => by rw [hU]; exact hI.2.1.2.1 x9 g9 g8) (Nat.lt_of_lt_of_le hG.2.2.1 hbase) (fun q => absurd hG.2.2.1 (Nat.not_lt.mpr q)), by rw [hU]; exact Nat.le_trans hbase hI.2.1.1, by rw [hU]; exact hI.1, hI.2.2.1, by rw [hU]; exact hw⟩⟩
        have hstk : (F0 m pc ls ((B.reverse ++ .ref o :: r).map (am_cv ad))).stack = (B.map (am_cv ad)).reverse ++ .ref (ad o) :: r.map (am_cv ad) := by show (B.reverse ++ .ref o :: r).map (am_cv ad) = _; rw [List.map_append, List.map_reverse]; rfl
        have hrun := va_runI (p := p) (e := e) (below := below) (meth := meth) (locs := locs) (cells := am_ce c0 h) (slots := am_sc c0 h) (g := F0 m pc ls ((B.reverse ++ .ref o :: r).map (am_cv ad))) (As := B.map (am_cv ad)) (rest := r.map (am_cv ad)) (b := ad o) (R := R) ⟨hexec, hb, hml, hown, hts⟩ hM (cwI (R := R) b' hts (am_good_in (am_ws_in v7)) (by unfold am_ws; rw [v5]) rfl rfl (hts _ (am_gw_ii v6)) (hts _ (am_gw_ml h1 v10)) (hts _ (am_gw_in v1)) v4 ⟨v9.1, v9.2, v3⟩ ⟨hfr, by show 8 + (am_nL a + 11) + 40 * dd ≤ R.locals; omega⟩) hpc rfl (by rw [List.length_map, hB]) hl.1 hstk hroom hd (am_fit hcs hI.2.2.2.2 hlm)
        refine am_call_go hrun hI.2.1 hI.2.2.2.2 (fun v h' H1 locs1 hk1 hI1 => ?_)
        have := hk _ _ _ _ _ _ _ hk1 hI1 hl
        rw [List.map_append] at this
        cases v <;> exact this
    · exact hs.elim
  case ireturn =>
    obtain ⟨hd, rfl, hx⟩ := am_ok3 hok
    unfold am_stp at hs
    dsimp only at hs
    split at hs
    · rename_i x
      exact hq _ _ _ _ _ _ _ hs.2 hI (Or.inl ⟨x, rfl, rfl, hd, hs.1⟩)
    · exact hs.elim
  case lreturn =>
    obtain ⟨hd, rfl, hx⟩ := am_ok3 hok
    unfold am_stp at hs
    dsimp only at hs
    split at hs
    · rename_i x
      exact hq _ _ _ _ _ _ _ hs.2 hI (Or.inr (Or.inl ⟨x, rfl, rfl, hd, hs.1⟩))
    · exact hs.elim
  case return_ =>
    obtain ⟨hd, rfl, hx⟩ := am_ok3 hok
    unfold am_stp at hs
    dsimp only at hs
    split at hs
    · exact hq _ _ _ _ _ _ _ hs.2 hI (Or.inr (Or.inr ⟨rfl, rfl, hd, hs.1⟩))
    · exact hs.elim
  all_goals exact hs.elim
end
section
/-! THE ABSTRACT MACHINE'S CALLS ARE CONTRACTS -/
variable {p : Program} {l : Launch} {e : Env} {R : Room} {s : State} {m : MethodId} {args : Array Value} {below : List Frame} {meth : Method} {c : Code} {Qw : State → Prop} {D : va_G} {cA : Nat → ClassId} {ad : Nat → Nat} {base b L nL : Nat} {xs : Nat → Int32} {own : String} {cc : ByteArray} {cp : am_P} {rt : Option FieldType} {c0 lim : Nat} {ini : Bool}
theorem am_X_sound {cod : Nat → Option am_R} {E : Nat → am_V → List Value → am_H → Prop} {Q : am_Q} (F : am_Fx p s m args c D cA ad base b L xs own cc nL c0) (hC : am_Cs l R D cA ad base b L xs cp) (hcs : lim - c0 % 1000 + c0 / 1000 ≤ R.cells ∧ am_ss lim - am_ss (c0 % 1000) + 6 * (c0 / 1000) ≤ R.slots) (hR1 : 1 ≤ R.frames ∧ 20 ≤ R.locals) (hini : ini = true → meth.name = "<init>") (hcod : ∀ pc r, cod pc = some r → am_okB ini own cc pc r = true)
    (hE : am_Kw p l e R s m args below meth c c0 Qw D cA ad base L nL xs E) (hq : am_Qr p l e R s m args below meth c c0 Qw D cA ad base L xs cc rt Q) : am_Kw p l e R s m args below meth c c0 Qw D cA ad base L nL xs (am_X cp nL lim rt cod E Q) := by
  intro pc lv st h H locs ls hX hI hl
  refine hX (fun pc lv st h => ∀ H locs ls, am_Inv D cA ad base L xs s c0 h H locs → lv_has ls nL (am_cl2 ad lv) → W p l e R s m args below meth c H locs (am_ce c0 h) (am_sc c0 h) Qw (F0 m pc ls (st.map (am_cv ad)))) (fun pc lv st h he H locs ls hI hl => hE pc lv st h H locs ls he hI hl) ?_ H locs ls hI hl
  intro pc lv st h r K0 Q0 hc hs hK hQ H locs ls hI hl
  obtain ⟨i, nx, a, b', c', d⟩ := r
  exact am_sound1 F hC hcs hR1 hini hI hl (fun pc lv st h H locs ls k hI hl => hK pc lv st h k H locs ls hI hl) (fun v h H locs pc ls st q hI hr => hq v h H locs pc ls st (hQ v h q) hI hr) (hcod _ _ hc) hs
theorem am_sl_len (ad : Nat → Nat) (vs : List Value) : (lg_sl (vs.map (am_cv ad))).length = (lg_sl vs).length := by
  induction vs with
  | nil => rfl
  | cons v r ih =>
    simp only [lg_sl, List.map_cons, List.flatMap_cons, List.length_append, am_cv_cat] at ih ⊢
    rw [ih]
    by_cases hc : v.category = 2 <;> simp [hc]
theorem am_args_cl (ad : Nat → Nat) (vs : List Value) : ∀ i, lv_args i (vs.map (am_cv ad)) = am_cl2 ad (lv_args i vs) := by
  induction vs with
  | nil => intro i; rfl
  | cons v r ih =>
    intro i
    simp only [lv_args, List.map_cons, am_cv_cat, am_cl2]
    rw [ih]
    rfl
/-- rows of methods that are right -/
def am_Rok (cods : Nat → Nat → Option am_R) : Prop := ∀ n pc r, cods n pc = some r → plainFor (am_y n) = true ∧ am_okB (decide ((am_y n).name = "<init>")) (am_y n).cls (am_by n) pc r = true
theorem am_W_cod {cod : Nat → Option am_R} {Q : am_Q} {pc : Nat} {lv : am_V} {st : List Value} {h : am_H} (k : am_W cp nL lim rt cod Q pc lv st h) : ∃ r, cod pc = some r :=
  k (fun pc _ _ _ => ∃ r, cod pc = some r) (fun _ _ _ _ q => q.elim) (fun _ _ _ _ r _ _ hc _ _ _ => ⟨r, hc⟩)
theorem am_Met {cods : Nat → Nat → Option am_R} (hrk : am_Rok cods) (hG : am_G ad base b L) : ∀ d n As h Q, am_call cods d n As h Q → ∃ d' : Nat, d' ≤ d ∧ Met l (am_y n) (am_ws n) (am_rm d' (am_al n) (am_ms n h)) (am_Pc D cA ad base b L xs As h) (am_Qc D cA ad base L xs (fun v h' => h'.2.2.2.2 = h.2.2.2.2 + am_al n ∧ Q v h')) (am_al n) (am_ms n h) (am_A base) := by
  intro d
  induction d with
  | zero => intro n As h Q k; exact k.elim
  | succ d ih =>
    intro n As h Q k
    rcases k with k | ⟨hlen, hW⟩
    · obtain ⟨d', h1, h2⟩ := ih n As h Q k
      exact ⟨d', by omega, h2⟩
    · refine ⟨d + 1, Nat.le_refl _, ?_⟩
      obtain ⟨r0, hr0⟩ := am_W_cod hW
      have hy := (hrk n 0 r0 hr0).1
      refine va_MetF (cc := am_by n) (maxL := am_nL n) (ret := am_rt n) hy rfl ?_
      intro p e s m args below meth c s₁ B hml hv
      obtain ⟨rfl, hE, hbase, hP, hro, hwf⟩ := hv
      have hts := atoms_spec (ws := am_ws n) B.pre
      have hlen9 : h.2.2.2.2 ≤ 175 := by have := hwf.1; rw [am_shl_len] at this; exact this
      have hmod : h.2.2.2.2 % 1000 = h.2.2.2.2 := Nat.mod_eq_of_lt (by omega)
      have hdiv : h.2.2.2.2 / 1000 = 0 := Nat.div_eq_of_lt (by omega)
      have hnm : meth.name = (am_y n).name := (name_of_methodNamed B.named B.method).1
      have F : am_Fx p s m (As.map (am_cv ad)).toArray c D cA ad base b L xs (am_y n).cls (am_by n) (am_nL n) h.2.2.2.2 := ⟨B.exec, B.bytes, hml, findClass_of_methodNamed B.named, fun w hw => hts w (List.mem_cons_of_mem _ hw), hE, hbase, hG, by rw [hmod]; exact hwf.2⟩
      have hC : am_Cs l (am_rm (d + 1) (am_al n) (am_ms n h)) D cA ad base b L xs (am_call cods d) := by
        intro n' As' h' Q' k'
        obtain ⟨d', h1, h2⟩ := ih n' As' h' Q' k'
        exact ⟨d', h2, by show d' + 1 ≤ d + 1; omega, by show 40 + 40 * d' ≤ 40 * (d + 1); omega⟩
      have hl := lv_entry (As.map (am_cv ad)) (n := am_nL n) (by rw [am_sl_len]; exact hlen)
      rw [am_args_cl] at hl
      rw [lg_entry_eq]
      have key := am_X_sound (p := p) (e := e) (below := below) (meth := meth) (Qw := MQ below (am_Qc D cA ad base L xs (fun v h' => h'.2.2.2.2 = h.2.2.2.2 + am_al n ∧ Q v h')) (As.map (am_cv ad)).toArray s (am_al n) (am_ms n h) (am_A base)) (R := am_rm (d + 1) (am_al n) (am_ms n h)) (lim := h.2.2.2.2 + am_al n) (rt := am_rt n) (ini := decide ((am_y n).name = "<init>")) (E := fun _ _ _ _ => False) (Q := fun v h' => h'.2.2.2.2 = h.2.2.2.2 + am_al n ∧ Q v h') F hC ⟨by rw [hmod, hdiv]; show h.2.2.2.2 + am_al n - h.2.2.2.2 + 0 ≤ am_al n; omega, by rw [hmod, hdiv]; exact Nat.le_refl _⟩ ⟨by show 1 ≤ d + 1; omega, by show 20 ≤ 40 * (d + 1); omega⟩ (fun q => hnm.trans (of_decide_eq_true q)) (fun pc r hc => (hrk n pc r hc).2) (fun _ _ _ _ _ _ _ q => q.elim) ?_ 0 (lv_args 0 As) [] h s.heap [] _ hW ⟨hP, va_S.rf, hro, hwf.1, by rw [hmod]; exact Nat.le_refl _, fun z => by omega⟩ hl
      · have z1 : am_ce h.2.2.2.2 h = 0 := by unfold am_ce; omega
        have z2 : am_sc h.2.2.2.2 h = 0 := by unfold am_sc; rw [hmod, hdiv]; omega
        rw [z1, z2] at key
        exact key
      · intro v h' H locs pc ls st hQ hI hrk'
        have z1 : am_ce h.2.2.2.2 h' = am_al n := by unfold am_ce; rw [hQ.1, hmod, hdiv]; omega
        have z2 : am_sc h.2.2.2.2 h' = am_ms n h := by unfold am_sc am_ms; rw [hQ.1, hmod, hdiv]; rfl
        rw [z1, z2]
        have hpost : ∀ t : State, t.heap = H → am_Qc D cA ad base L xs (fun v h' => h'.2.2.2.2 = h.2.2.2.2 + am_al n ∧ Q v h') (As.map (am_cv ad)).toArray s (.returned (v.map (am_cv ad))) t := fun t ht => ⟨⟨v, h', rfl, hQ, by rw [ht]; exact hI.1, hI.2.2.1, hI.2.2.2.1⟩, hI.2.1.F ht⟩
        rcases hrk' with ⟨x, rfl, rfl, hd, ty, h1, h2⟩ | ⟨x, rfl, rfl, hd, h1⟩ | ⟨rfl, rfl, hd, h1⟩
        · exact W.zret B.exec B.bytes (B.returns.trans h1) h2 (fun t ht _ => hpost t ht) hI.2.1.2.2 hd (hlocks := B.notSynchronized)
        · exact W.lret B.exec B.bytes (B.returns.trans h1) (fun t ht _ => hpost t ht) hI.2.1.2.2 hd (hlocks := B.notSynchronized)
        · exact W.vret B.exec B.bytes (B.returns.trans h1) (fun t ht _ => hpost t ht) hI.2.1.2.2 hd (hlocks := B.notSynchronized)
end
