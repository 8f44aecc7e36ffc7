section
-- ===== PART A: goes FIRST, ahead of the names: the tables' words, and 'selects' of the private methods out of them =====
/-- a private method of a class that the tables say can be made, by its rows of tables_1 -/
def lw_okq (q : MethodName × Nat) : Prop := (q.1.cls ≠ "java/lang/invoke/MethodHandle" ∧ q.1.cls ≠ "java/lang/invoke/VarHandle") ∧ Cond.instantiable q.1.cls q.2 ∈ tables_1 ∧ Cond.privateMethod q.1 ∈ tables_1 ∧ Cond.instanceMethod q.1 ∈ tables_1
theorem lw_p0 : lw_okq (⟨"NightHours", "putFour", "(I)V"⟩, 14) := ⟨⟨by decide +kernel, by decide +kernel⟩, List.mem_of_getElem? (i := 19) (by decide +kernel), List.mem_of_getElem? (i := 544) (by decide +kernel), List.mem_of_getElem? (i := 545) (by decide +kernel)⟩
theorem lw_p1 : lw_okq (⟨"NightHours$Tokens", "scanOne", "([BII)I"⟩, 4) := ⟨⟨by decide +kernel, by decide +kernel⟩, List.mem_of_getElem? (i := 33) (by decide +kernel), List.mem_of_getElem? (i := 568) (by decide +kernel), List.mem_of_getElem? (i := 569) (by decide +kernel)⟩
theorem lw_p2 : lw_okq (⟨"NightHours$Reader", "syntaxFault", "()I"⟩, 13) := ⟨⟨by decide +kernel, by decide +kernel⟩, List.mem_of_getElem? (i := 27) (by decide +kernel), List.mem_of_getElem? (i := 594) (by decide +kernel), List.mem_of_getElem? (i := 595) (by decide +kernel)⟩
theorem lw_p3 : lw_okq (⟨"NightHours$Grammar", "hasRoom", "(II)Z"⟩, 4) := ⟨⟨by decide +kernel, by decide +kernel⟩, List.mem_of_getElem? (i := 59) (by decide +kernel), List.mem_of_getElem? (i := 612) (by decide +kernel), List.mem_of_getElem? (i := 613) (by decide +kernel)⟩
theorem lw_p4 : lw_okq (⟨"NightHours$Reader", "meaningFault", "()I"⟩, 13) := ⟨⟨by decide +kernel, by decide +kernel⟩, List.mem_of_getElem? (i := 27) (by decide +kernel), List.mem_of_getElem? (i := 619) (by decide +kernel), List.mem_of_getElem? (i := 620) (by decide +kernel)⟩
theorem lw_p5 : lw_okq (⟨"NightHours$Reader", "take", "(IIJ)I"⟩, 13) := ⟨⟨by decide +kernel, by decide +kernel⟩, List.mem_of_getElem? (i := 27) (by decide +kernel), List.mem_of_getElem? (i := 624) (by decide +kernel), List.mem_of_getElem? (i := 625) (by decide +kernel)⟩
theorem lw_p6 : lw_okq (⟨"NightHours$Reader", "takeNew", "(J)I"⟩, 13) := ⟨⟨by decide +kernel, by decide +kernel⟩, List.mem_of_getElem? (i := 27) (by decide +kernel), List.mem_of_getElem? (i := 628) (by decide +kernel), List.mem_of_getElem? (i := 629) (by decide +kernel)⟩
theorem lw_p7 : lw_okq (⟨"NightHours$Reader", "numberNew", "(I)I"⟩, 13) := ⟨⟨by decide +kernel, by decide +kernel⟩, List.mem_of_getElem? (i := 27) (by decide +kernel), List.mem_of_getElem? (i := 632) (by decide +kernel), List.mem_of_getElem? (i := 633) (by decide +kernel)⟩
theorem lw_p8 : lw_okq (⟨"NightHours$Reader", "addSaying", "()I"⟩, 13) := ⟨⟨by decide +kernel, by decide +kernel⟩, List.mem_of_getElem? (i := 27) (by decide +kernel), List.mem_of_getElem? (i := 636) (by decide +kernel), List.mem_of_getElem? (i := 637) (by decide +kernel)⟩
theorem lw_p9 : lw_okq (⟨"NightHours$Reader", "takePath", "(IJ)I"⟩, 13) := ⟨⟨by decide +kernel, by decide +kernel⟩, List.mem_of_getElem? (i := 27) (by decide +kernel), List.mem_of_getElem? (i := 640) (by decide +kernel), List.mem_of_getElem? (i := 641) (by decide +kernel)⟩
theorem lw_p10 : lw_okq (⟨"NightHours$Reader", "find", "(JI)I"⟩, 13) := ⟨⟨by decide +kernel, by decide +kernel⟩, List.mem_of_getElem? (i := 27) (by decide +kernel), List.mem_of_getElem? (i := 644) (by decide +kernel), List.mem_of_getElem? (i := 645) (by decide +kernel)⟩
theorem lw_p11 : lw_okq (⟨"NightHours$Reader", "takeWhere", "(IJ)I"⟩, 13) := ⟨⟨by decide +kernel, by decide +kernel⟩, List.mem_of_getElem? (i := 27) (by decide +kernel), List.mem_of_getElem? (i := 648) (by decide +kernel), List.mem_of_getElem? (i := 649) (by decide +kernel)⟩
theorem lw_p12 : lw_okq (⟨"NightHours$Reader", "takeOpen", "(IJ)I"⟩, 13) := ⟨⟨by decide +kernel, by decide +kernel⟩, List.mem_of_getElem? (i := 27) (by decide +kernel), List.mem_of_getElem? (i := 652) (by decide +kernel), List.mem_of_getElem? (i := 653) (by decide +kernel)⟩
theorem lw_p13 : lw_okq (⟨"NightHours$Reader", "takeSpanTime", "(IJ)I"⟩, 13) := ⟨⟨by decide +kernel, by decide +kernel⟩, List.mem_of_getElem? (i := 27) (by decide +kernel), List.mem_of_getElem? (i := 656) (by decide +kernel), List.mem_of_getElem? (i := 657) (by decide +kernel)⟩
theorem lw_p14 : lw_okq (⟨"NightHours$Reader", "takeJoin", "(I)V"⟩, 13) := ⟨⟨by decide +kernel, by decide +kernel⟩, List.mem_of_getElem? (i := 27) (by decide +kernel), List.mem_of_getElem? (i := 660) (by decide +kernel), List.mem_of_getElem? (i := 661) (by decide +kernel)⟩
theorem lw_p15 : lw_okq (⟨"NightHours$Reader", "takeTrust", "(I)I"⟩, 13) := ⟨⟨by decide +kernel, by decide +kernel⟩, List.mem_of_getElem? (i := 27) (by decide +kernel), List.mem_of_getElem? (i := 664) (by decide +kernel), List.mem_of_getElem? (i := 665) (by decide +kernel)⟩
def lw_privs_1 : List (MethodName × Nat) := [(⟨"NightHours", "putFour", "(I)V"⟩, 14), (⟨"NightHours$Tokens", "scanOne", "([BII)I"⟩, 4), (⟨"NightHours$Reader", "syntaxFault", "()I"⟩, 13), (⟨"NightHours$Grammar", "hasRoom", "(II)Z"⟩, 4), (⟨"NightHours$Reader", "meaningFault", "()I"⟩, 13), (⟨"NightHours$Reader", "take", "(IIJ)I"⟩, 13), (⟨"NightHours$Reader", "takeNew", "(J)I"⟩, 13), (⟨"NightHours$Reader", "numberNew", "(I)I"⟩, 13), (⟨"NightHours$Reader", "addSaying", "()I"⟩, 13), (⟨"NightHours$Reader", "takePath", "(IJ)I"⟩, 13), (⟨"NightHours$Reader", "find", "(JI)I"⟩, 13), (⟨"NightHours$Reader", "takeWhere", "(IJ)I"⟩, 13), (⟨"NightHours$Reader", "takeOpen", "(IJ)I"⟩, 13), (⟨"NightHours$Reader", "takeSpanTime", "(IJ)I"⟩, 13), (⟨"NightHours$Reader", "takeJoin", "(I)V"⟩, 13), (⟨"NightHours$Reader", "takeTrust", "(I)I"⟩, 13)]
theorem lw_r1 : ∀ q ∈ lw_privs_1, lw_okq q := List.forall_mem_cons.mpr ⟨lw_p0, List.forall_mem_cons.mpr ⟨lw_p1, List.forall_mem_cons.mpr ⟨lw_p2, List.forall_mem_cons.mpr ⟨lw_p3, List.forall_mem_cons.mpr ⟨lw_p4, List.forall_mem_cons.mpr ⟨lw_p5, List.forall_mem_cons.mpr ⟨lw_p6, List.forall_mem_cons.mpr ⟨lw_p7, List.forall_mem_cons.mpr ⟨lw_p8, List.forall_mem_cons.mpr ⟨lw_p9, List.forall_mem_cons.mpr ⟨lw_p10, List.forall_mem_cons.mpr ⟨lw_p11, List.forall_mem_cons.mpr ⟨lw_p12, List.forall_mem_cons.mpr ⟨lw_p13, List.forall_mem_cons.mpr ⟨lw_p14, List.forall_mem_cons.mpr ⟨lw_p15, fun _ h => absurd h List.not_mem_nil⟩⟩⟩⟩⟩⟩⟩⟩⟩⟩⟩⟩⟩⟩⟩⟩
theorem lw_p16 : lw_okq (⟨"NightHours$Reader", "takeInt", "(III)I"⟩, 13) := ⟨⟨by decide +kernel, by decide +kernel⟩, List.mem_of_getElem? (i := 27) (by decide +kernel), List.mem_of_getElem? (i := 668) (by decide +kernel), List.mem_of_getElem? (i := 669) (by decide +kernel)⟩
theorem lw_p17 : lw_okq (⟨"NightHours$Reader", "endPathOrOpen", "(I)V"⟩, 13) := ⟨⟨by decide +kernel, by decide +kernel⟩, List.mem_of_getElem? (i := 27) (by decide +kernel), List.mem_of_getElem? (i := 672) (by decide +kernel), List.mem_of_getElem? (i := 673) (by decide +kernel)⟩
theorem lw_p18 : lw_okq (⟨"NightHours$Reader", "endSpan", "(I)V"⟩, 13) := ⟨⟨by decide +kernel, by decide +kernel⟩, List.mem_of_getElem? (i := 27) (by decide +kernel), List.mem_of_getElem? (i := 688) (by decide +kernel), List.mem_of_getElem? (i := 689) (by decide +kernel)⟩
theorem lw_p19 : lw_okq (⟨"NightHours", "stale", "()V"⟩, 14) := ⟨⟨by decide +kernel, by decide +kernel⟩, List.mem_of_getElem? (i := 19) (by decide +kernel), List.mem_of_getElem? (i := 718) (by decide +kernel), List.mem_of_getElem? (i := 719) (by decide +kernel)⟩
theorem lw_p20 : lw_okq (⟨"NightHours", "isSay", "(I)Z"⟩, 14) := ⟨⟨by decide +kernel, by decide +kernel⟩, List.mem_of_getElem? (i := 19) (by decide +kernel), List.mem_of_getElem? (i := 730) (by decide +kernel), List.mem_of_getElem? (i := 731) (by decide +kernel)⟩
theorem lw_p21 : lw_okq (⟨"NightHours", "isSaying", "(I)Z"⟩, 14) := ⟨⟨by decide +kernel, by decide +kernel⟩, List.mem_of_getElem? (i := 19) (by decide +kernel), List.mem_of_getElem? (i := 734) (by decide +kernel), List.mem_of_getElem? (i := 735) (by decide +kernel)⟩
theorem lw_p22 : lw_okq (⟨"NightHours", "isPlace", "(I)Z"⟩, 14) := ⟨⟨by decide +kernel, by decide +kernel⟩, List.mem_of_getElem? (i := 19) (by decide +kernel), List.mem_of_getElem? (i := 742) (by decide +kernel), List.mem_of_getElem? (i := 743) (by decide +kernel)⟩
theorem lw_p23 : lw_okq (⟨"NightHours", "isGoneThrough", "()Z"⟩, 14) := ⟨⟨by decide +kernel, by decide +kernel⟩, List.mem_of_getElem? (i := 19) (by decide +kernel), List.mem_of_getElem? (i := 755) (by decide +kernel), List.mem_of_getElem? (i := 756) (by decide +kernel)⟩
theorem lw_p24 : lw_okq (⟨"NightHours$Going", "layBase", "(I)V"⟩, 18) := ⟨⟨by decide +kernel, by decide +kernel⟩, List.mem_of_getElem? (i := 319) (by decide +kernel), List.mem_of_getElem? (i := 767) (by decide +kernel), List.mem_of_getElem? (i := 768) (by decide +kernel)⟩
theorem lw_p25 : lw_okq (⟨"NightHours$Net", "hasNode", "(I)Z"⟩, 6) := ⟨⟨by decide +kernel, by decide +kernel⟩, List.mem_of_getElem? (i := 325) (by decide +kernel), List.mem_of_getElem? (i := 779) (by decide +kernel), List.mem_of_getElem? (i := 780) (by decide +kernel)⟩
theorem lw_p26 : lw_okq (⟨"NightHours$Net", "tightenRow", "(III)V"⟩, 6) := ⟨⟨by decide +kernel, by decide +kernel⟩, List.mem_of_getElem? (i := 325) (by decide +kernel), List.mem_of_getElem? (i := 791) (by decide +kernel), List.mem_of_getElem? (i := 792) (by decide +kernel)⟩
theorem lw_p27 : lw_okq (⟨"NightHours$Going", "addItem", "(I)V"⟩, 18) := ⟨⟨by decide +kernel, by decide +kernel⟩, List.mem_of_getElem? (i := 319) (by decide +kernel), List.mem_of_getElem? (i := 795) (by decide +kernel), List.mem_of_getElem? (i := 796) (by decide +kernel)⟩
theorem lw_p28 : lw_okq (⟨"NightHours$Going", "noteWay", "(LNightHours$Book;)V"⟩, 18) := ⟨⟨by decide +kernel, by decide +kernel⟩, List.mem_of_getElem? (i := 319) (by decide +kernel), List.mem_of_getElem? (i := 803) (by decide +kernel), List.mem_of_getElem? (i := 804) (by decide +kernel)⟩
theorem lw_p29 : lw_okq (⟨"NightHours$Net", "hasLevel", "(I)Z"⟩, 6) := ⟨⟨by decide +kernel, by decide +kernel⟩, List.mem_of_getElem? (i := 325) (by decide +kernel), List.mem_of_getElem? (i := 815) (by decide +kernel), List.mem_of_getElem? (i := 816) (by decide +kernel)⟩
theorem lw_p30 : lw_okq (⟨"NightHours$Going", "choicesOf", "(I)I"⟩, 18) := ⟨⟨by decide +kernel, by decide +kernel⟩, List.mem_of_getElem? (i := 319) (by decide +kernel), List.mem_of_getElem? (i := 825) (by decide +kernel), List.mem_of_getElem? (i := 826) (by decide +kernel)⟩
theorem lw_p31 : lw_okq (⟨"NightHours$Going", "walkOf", "(I)I"⟩, 18) := ⟨⟨by decide +kernel, by decide +kernel⟩, List.mem_of_getElem? (i := 319) (by decide +kernel), List.mem_of_getElem? (i := 829) (by decide +kernel), List.mem_of_getElem? (i := 830) (by decide +kernel)⟩
def lw_privs_2 : List (MethodName × Nat) := [(⟨"NightHours$Reader", "takeInt", "(III)I"⟩, 13), (⟨"NightHours$Reader", "endPathOrOpen", "(I)V"⟩, 13), (⟨"NightHours$Reader", "endSpan", "(I)V"⟩, 13), (⟨"NightHours", "stale", "()V"⟩, 14), (⟨"NightHours", "isSay", "(I)Z"⟩, 14), (⟨"NightHours", "isSaying", "(I)Z"⟩, 14), (⟨"NightHours", "isPlace", "(I)Z"⟩, 14), (⟨"NightHours", "isGoneThrough", "()Z"⟩, 14), (⟨"NightHours$Going", "layBase", "(I)V"⟩, 18), (⟨"NightHours$Net", "hasNode", "(I)Z"⟩, 6), (⟨"NightHours$Net", "tightenRow", "(III)V"⟩, 6), (⟨"NightHours$Going", "addItem", "(I)V"⟩, 18), (⟨"NightHours$Going", "noteWay", "(LNightHours$Book;)V"⟩, 18), (⟨"NightHours$Net", "hasLevel", "(I)Z"⟩, 6), (⟨"NightHours$Going", "choicesOf", "(I)I"⟩, 18), (⟨"NightHours$Going", "walkOf", "(I)I"⟩, 18)]
theorem lw_r2 : ∀ q ∈ lw_privs_2, lw_okq q := List.forall_mem_cons.mpr ⟨lw_p16, List.forall_mem_cons.mpr ⟨lw_p17, List.forall_mem_cons.mpr ⟨lw_p18, List.forall_mem_cons.mpr ⟨lw_p19, List.forall_mem_cons.mpr ⟨lw_p20, List.forall_mem_cons.mpr ⟨lw_p21, List.forall_mem_cons.mpr ⟨lw_p22, List.forall_mem_cons.mpr ⟨lw_p23, List.forall_mem_cons.mpr ⟨lw_p24, List.forall_mem_cons.mpr ⟨lw_p25, List.forall_mem_cons.mpr ⟨lw_p26, List.forall_mem_cons.mpr ⟨lw_p27, List.forall_mem_cons.mpr ⟨lw_p28, List.forall_mem_cons.mpr ⟨lw_p29, List.forall_mem_cons.mpr ⟨lw_p30, List.forall_mem_cons.mpr ⟨lw_p31, fun _ h => absurd h List.not_mem_nil⟩⟩⟩⟩⟩⟩⟩⟩⟩⟩⟩⟩⟩⟩⟩⟩
theorem lw_p32 : lw_okq (⟨"NightHours$Going", "pushMove", "(III)Z"⟩, 18) := ⟨⟨by decide +kernel, by decide +kernel⟩, List.mem_of_getElem? (i := 319) (by decide +kernel), List.mem_of_getElem? (i := 845) (by decide +kernel), List.mem_of_getElem? (i := 846) (by decide +kernel)⟩
theorem lw_p33 : lw_okq (⟨"NightHours", "levelOf", "(I)I"⟩, 14) := ⟨⟨by decide +kernel, by decide +kernel⟩, List.mem_of_getElem? (i := 19) (by decide +kernel), List.mem_of_getElem? (i := 859) (by decide +kernel), List.mem_of_getElem? (i := 860) (by decide +kernel)⟩
theorem lw_p34 : lw_okq (⟨"NightHours", "isDoubted", "(I)Z"⟩, 14) := ⟨⟨by decide +kernel, by decide +kernel⟩, List.mem_of_getElem? (i := 19) (by decide +kernel), List.mem_of_getElem? (i := 871) (by decide +kernel), List.mem_of_getElem? (i := 872) (by decide +kernel)⟩
theorem lw_p35 : lw_okq (⟨"NightHours", "isTime", "(I)Z"⟩, 14) := ⟨⟨by decide +kernel, by decide +kernel⟩, List.mem_of_getElem? (i := 19) (by decide +kernel), List.mem_of_getElem? (i := 884) (by decide +kernel), List.mem_of_getElem? (i := 885) (by decide +kernel)⟩
theorem lw_p36 : lw_okq (⟨"NightHours$Quarrelling", "goThroughAll", "(LNightHours$Told;LNightHours$Held;I)Z"⟩, 12) := ⟨⟨by decide +kernel, by decide +kernel⟩, List.mem_of_getElem? (i := 418) (by decide +kernel), List.mem_of_getElem? (i := 950) (by decide +kernel), List.mem_of_getElem? (i := 951) (by decide +kernel)⟩
theorem lw_p37 : lw_okq (⟨"NightHours$Quarrelling", "listSets", "(II)V"⟩, 12) := ⟨⟨by decide +kernel, by decide +kernel⟩, List.mem_of_getElem? (i := 418) (by decide +kernel), List.mem_of_getElem? (i := 956) (by decide +kernel), List.mem_of_getElem? (i := 957) (by decide +kernel)⟩
theorem lw_p38 : lw_okq (⟨"NightHours$Quarrelling", "isQuarrel", "(I)Z"⟩, 12) := ⟨⟨by decide +kernel, by decide +kernel⟩, List.mem_of_getElem? (i := 418) (by decide +kernel), List.mem_of_getElem? (i := 966) (by decide +kernel), List.mem_of_getElem? (i := 967) (by decide +kernel)⟩
theorem lw_p39 : lw_okq (⟨"NightHours$Quarrelling", "isGivingUp", "(II)Z"⟩, 12) := ⟨⟨by decide +kernel, by decide +kernel⟩, List.mem_of_getElem? (i := 418) (by decide +kernel), List.mem_of_getElem? (i := 970) (by decide +kernel), List.mem_of_getElem? (i := 971) (by decide +kernel)⟩
theorem lw_p40 : lw_okq (⟨"NightHours$Quarrelling", "holdTogether", "(LNightHours$Held;J)Z"⟩, 12) := ⟨⟨by decide +kernel, by decide +kernel⟩, List.mem_of_getElem? (i := 418) (by decide +kernel), List.mem_of_getElem? (i := 1015) (by decide +kernel), List.mem_of_getElem? (i := 1016) (by decide +kernel)⟩
theorem lw_p41 : lw_okq (⟨"NightHours$Quarrelling", "listRing", "(LNightHours$Held;)V"⟩, 12) := ⟨⟨by decide +kernel, by decide +kernel⟩, List.mem_of_getElem? (i := 418) (by decide +kernel), List.mem_of_getElem? (i := 1023) (by decide +kernel), List.mem_of_getElem? (i := 1024) (by decide +kernel)⟩
theorem lw_p42 : lw_okq (⟨"NightHours", "isPerson", "(I)Z"⟩, 14) := ⟨⟨by decide +kernel, by decide +kernel⟩, List.mem_of_getElem? (i := 19) (by decide +kernel), List.mem_of_getElem? (i := 1039) (by decide +kernel), List.mem_of_getElem? (i := 1040) (by decide +kernel)⟩
theorem lw_p43 : lw_okq (⟨"NightHours", "goWithGuest", "(IIII)V"⟩, 14) := ⟨⟨by decide +kernel, by decide +kernel⟩, List.mem_of_getElem? (i := 19) (by decide +kernel), List.mem_of_getElem? (i := 1043) (by decide +kernel), List.mem_of_getElem? (i := 1044) (by decide +kernel)⟩
theorem lw_p44 : lw_okq (⟨"NightHours$Asking", "isLeft", "(LNightHours$Told;IIII)Z"⟩, 6) := ⟨⟨by decide +kernel, by decide +kernel⟩, List.mem_of_getElem? (i := 470) (by decide +kernel), List.mem_of_getElem? (i := 1078) (by decide +kernel), List.mem_of_getElem? (i := 1079) (by decide +kernel)⟩
theorem lw_p45 : lw_okq (⟨"NightHours$Asking", "answer", "(LNightHours$Told;III)Z"⟩, 6) := ⟨⟨by decide +kernel, by decide +kernel⟩, List.mem_of_getElem? (i := 470) (by decide +kernel), List.mem_of_getElem? (i := 1082) (by decide +kernel), List.mem_of_getElem? (i := 1083) (by decide +kernel)⟩
theorem lw_p46 : lw_okq (⟨"NightHours", "planTo", "(I)I"⟩, 14) := ⟨⟨by decide +kernel, by decide +kernel⟩, List.mem_of_getElem? (i := 19) (by decide +kernel), List.mem_of_getElem? (i := 1093) (by decide +kernel), List.mem_of_getElem? (i := 1094) (by decide +kernel)⟩
theorem lw_p47 : lw_okq (⟨"NightHours$Asking", "spread", "(LNightHours$Told;IIII)V"⟩, 6) := ⟨⟨by decide +kernel, by decide +kernel⟩, List.mem_of_getElem? (i := 470) (by decide +kernel), List.mem_of_getElem? (i := 1102) (by decide +kernel), List.mem_of_getElem? (i := 1103) (by decide +kernel)⟩
def lw_privs_3 : List (MethodName × Nat) := [(⟨"NightHours$Going", "pushMove", "(III)Z"⟩, 18), (⟨"NightHours", "levelOf", "(I)I"⟩, 14), (⟨"NightHours", "isDoubted", "(I)Z"⟩, 14), (⟨"NightHours", "isTime", "(I)Z"⟩, 14), (⟨"NightHours$Quarrelling", "goThroughAll", "(LNightHours$Told;LNightHours$Held;I)Z"⟩, 12), (⟨"NightHours$Quarrelling", "listSets", "(II)V"⟩, 12), (⟨"NightHours$Quarrelling", "isQuarrel", "(I)Z"⟩, 12), (⟨"NightHours$Quarrelling", "isGivingUp", "(II)Z"⟩, 12), (⟨"NightHours$Quarrelling", "holdTogether", "(LNightHours$Held;J)Z"⟩, 12), (⟨"NightHours$Quarrelling", "listRing", "(LNightHours$Held;)V"⟩, 12), (⟨"NightHours", "isPerson", "(I)Z"⟩, 14), (⟨"NightHours", "goWithGuest", "(IIII)V"⟩, 14), (⟨"NightHours$Asking", "isLeft", "(LNightHours$Told;IIII)Z"⟩, 6), (⟨"NightHours$Asking", "answer", "(LNightHours$Told;III)Z"⟩, 6), (⟨"NightHours", "planTo", "(I)I"⟩, 14), (⟨"NightHours$Asking", "spread", "(LNightHours$Told;IIII)V"⟩, 6)]
theorem lw_r3 : ∀ q ∈ lw_privs_3, lw_okq q := List.forall_mem_cons.mpr ⟨lw_p32, List.forall_mem_cons.mpr ⟨lw_p33, List.forall_mem_cons.mpr ⟨lw_p34, List.forall_mem_cons.mpr ⟨lw_p35, List.forall_mem_cons.mpr ⟨lw_p36, List.forall_mem_cons.mpr ⟨lw_p37, List.forall_mem_cons.mpr ⟨lw_p38, List.forall_mem_cons.mpr ⟨lw_p39, List.forall_mem_cons.mpr ⟨lw_p40, List.forall_mem_cons.mpr ⟨lw_p41, List.forall_mem_cons.mpr ⟨lw_p42, List.forall_mem_cons.mpr ⟨lw_p43, List.forall_mem_cons.mpr ⟨lw_p44, List.forall_mem_cons.mpr ⟨lw_p45, List.forall_mem_cons.mpr ⟨lw_p46, List.forall_mem_cons.mpr ⟨lw_p47, fun _ h => absurd h List.not_mem_nil⟩⟩⟩⟩⟩⟩⟩⟩⟩⟩⟩⟩⟩⟩⟩⟩
theorem lw_p48 : lw_okq (⟨"NightHours$Asking", "countLeft", "(II)I"⟩, 6) := ⟨⟨by decide +kernel, by decide +kernel⟩, List.mem_of_getElem? (i := 470) (by decide +kernel), List.mem_of_getElem? (i := 1111) (by decide +kernel), List.mem_of_getElem? (i := 1112) (by decide +kernel)⟩
theorem lw_p49 : lw_okq (⟨"NightHours$Asking", "neededWith", "(II)I"⟩, 6) := ⟨⟨by decide +kernel, by decide +kernel⟩, List.mem_of_getElem? (i := 470) (by decide +kernel), List.mem_of_getElem? (i := 1119) (by decide +kernel), List.mem_of_getElem? (i := 1120) (by decide +kernel)⟩
theorem lw_p50 : lw_okq (⟨"NightHours", "whereAt", "(III)I"⟩, 14) := ⟨⟨by decide +kernel, by decide +kernel⟩, List.mem_of_getElem? (i := 19) (by decide +kernel), List.mem_of_getElem? (i := 1173) (by decide +kernel), List.mem_of_getElem? (i := 1174) (by decide +kernel)⟩
theorem lw_p51 : lw_okq (⟨"NightHours", "leastGive", "(I)I"⟩, 14) := ⟨⟨by decide +kernel, by decide +kernel⟩, List.mem_of_getElem? (i := 19) (by decide +kernel), List.mem_of_getElem? (i := 1181) (by decide +kernel), List.mem_of_getElem? (i := 1182) (by decide +kernel)⟩
theorem lw_p52 : lw_okq (⟨"NightHours", "isKept", "(I)Z"⟩, 14) := ⟨⟨by decide +kernel, by decide +kernel⟩, List.mem_of_getElem? (i := 19) (by decide +kernel), List.mem_of_getElem? (i := 1197) (by decide +kernel), List.mem_of_getElem? (i := 1198) (by decide +kernel)⟩
theorem lw_p53 : lw_okq (⟨"NightHoursModel", "put", "(I)V"⟩, 97) := ⟨⟨by decide +kernel, by decide +kernel⟩, List.mem_of_getElem? (i := 1213) (by decide +kernel), List.mem_of_getElem? (i := 1521) (by decide +kernel), List.mem_of_getElem? (i := 1522) (by decide +kernel)⟩
theorem lw_p54 : lw_okq (⟨"NightHoursModel", "cut", "()V"⟩, 97) := ⟨⟨by decide +kernel, by decide +kernel⟩, List.mem_of_getElem? (i := 1213) (by decide +kernel), List.mem_of_getElem? (i := 1533) (by decide +kernel), List.mem_of_getElem? (i := 1534) (by decide +kernel)⟩
theorem lw_p55 : lw_okq (⟨"NightHoursModel", "byteAt", "(I)I"⟩, 97) := ⟨⟨by decide +kernel, by decide +kernel⟩, List.mem_of_getElem? (i := 1213) (by decide +kernel), List.mem_of_getElem? (i := 1537) (by decide +kernel), List.mem_of_getElem? (i := 1538) (by decide +kernel)⟩
theorem lw_p56 : lw_okq (⟨"NightHoursModel", "token", "(IIIJ)V"⟩, 97) := ⟨⟨by decide +kernel, by decide +kernel⟩, List.mem_of_getElem? (i := 1213) (by decide +kernel), List.mem_of_getElem? (i := 1541) (by decide +kernel), List.mem_of_getElem? (i := 1542) (by decide +kernel)⟩
theorem lw_p57 : lw_okq (⟨"NightHoursModel", "is", "(I)Z"⟩, 97) := ⟨⟨by decide +kernel, by decide +kernel⟩, List.mem_of_getElem? (i := 1213) (by decide +kernel), List.mem_of_getElem? (i := 1554) (by decide +kernel), List.mem_of_getElem? (i := 1555) (by decide +kernel)⟩
theorem lw_p58 : lw_okq (⟨"NightHoursModel", "tell", "()V"⟩, 97) := ⟨⟨by decide +kernel, by decide +kernel⟩, List.mem_of_getElem? (i := 1213) (by decide +kernel), List.mem_of_getElem? (i := 1558) (by decide +kernel), List.mem_of_getElem? (i := 1559) (by decide +kernel)⟩
theorem lw_p59 : lw_okq (⟨"NightHoursModel", "fail", "(I)V"⟩, 97) := ⟨⟨by decide +kernel, by decide +kernel⟩, List.mem_of_getElem? (i := 1213) (by decide +kernel), List.mem_of_getElem? (i := 1562) (by decide +kernel), List.mem_of_getElem? (i := 1563) (by decide +kernel)⟩
theorem lw_p60 : lw_okq (⟨"NightHoursModel", "tellName", "(I)V"⟩, 97) := ⟨⟨by decide +kernel, by decide +kernel⟩, List.mem_of_getElem? (i := 1213) (by decide +kernel), List.mem_of_getElem? (i := 1566) (by decide +kernel), List.mem_of_getElem? (i := 1567) (by decide +kernel)⟩
theorem lw_p61 : lw_okq (⟨"NightHoursModel", "goesOn", "()V"⟩, 97) := ⟨⟨by decide +kernel, by decide +kernel⟩, List.mem_of_getElem? (i := 1213) (by decide +kernel), List.mem_of_getElem? (i := 1570) (by decide +kernel), List.mem_of_getElem? (i := 1571) (by decide +kernel)⟩
theorem lw_p62 : lw_okq (⟨"NightHoursModel", "named", "()I"⟩, 97) := ⟨⟨by decide +kernel, by decide +kernel⟩, List.mem_of_getElem? (i := 1213) (by decide +kernel), List.mem_of_getElem? (i := 1574) (by decide +kernel), List.mem_of_getElem? (i := 1575) (by decide +kernel)⟩
theorem lw_p63 : lw_okq (⟨"NightHoursModel", "must", "(I)V"⟩, 97) := ⟨⟨by decide +kernel, by decide +kernel⟩, List.mem_of_getElem? (i := 1213) (by decide +kernel), List.mem_of_getElem? (i := 1578) (by decide +kernel), List.mem_of_getElem? (i := 1579) (by decide +kernel)⟩
def lw_privs_4 : List (MethodName × Nat) := [(⟨"NightHours$Asking", "countLeft", "(II)I"⟩, 6), (⟨"NightHours$Asking", "neededWith", "(II)I"⟩, 6), (⟨"NightHours", "whereAt", "(III)I"⟩, 14), (⟨"NightHours", "leastGive", "(I)I"⟩, 14), (⟨"NightHours", "isKept", "(I)Z"⟩, 14), (⟨"NightHoursModel", "put", "(I)V"⟩, 97), (⟨"NightHoursModel", "cut", "()V"⟩, 97), (⟨"NightHoursModel", "byteAt", "(I)I"⟩, 97), (⟨"NightHoursModel", "token", "(IIIJ)V"⟩, 97), (⟨"NightHoursModel", "is", "(I)Z"⟩, 97), (⟨"NightHoursModel", "tell", "()V"⟩, 97), (⟨"NightHoursModel", "fail", "(I)V"⟩, 97), (⟨"NightHoursModel", "tellName", "(I)V"⟩, 97), (⟨"NightHoursModel", "goesOn", "()V"⟩, 97), (⟨"NightHoursModel", "named", "()I"⟩, 97), (⟨"NightHoursModel", "must", "(I)V"⟩, 97)]
theorem lw_r4 : ∀ q ∈ lw_privs_4, lw_okq q := List.forall_mem_cons.mpr ⟨lw_p48, List.forall_mem_cons.mpr ⟨lw_p49, List.forall_mem_cons.mpr ⟨lw_p50, List.forall_mem_cons.mpr ⟨lw_p51, List.forall_mem_cons.mpr ⟨lw_p52, List.forall_mem_cons.mpr ⟨lw_p53, List.forall_mem_cons.mpr ⟨lw_p54, List.forall_mem_cons.mpr ⟨lw_p55, List.forall_mem_cons.mpr ⟨lw_p56, List.forall_mem_cons.mpr ⟨lw_p57, List.forall_mem_cons.mpr ⟨lw_p58, List.forall_mem_cons.mpr ⟨lw_p59, List.forall_mem_cons.mpr ⟨lw_p60, List.forall_mem_cons.mpr ⟨lw_p61, List.forall_mem_cons.mpr ⟨lw_p62, List.forall_mem_cons.mpr ⟨lw_p63, fun _ h => absurd h List.not_mem_nil⟩⟩⟩⟩⟩⟩⟩⟩⟩⟩⟩⟩⟩⟩⟩⟩
theorem lw_p64 : lw_okq (⟨"NightHoursModel", "wrong", "(II)V"⟩, 97) := ⟨⟨by decide +kernel, by decide +kernel⟩, List.mem_of_getElem? (i := 1213) (by decide +kernel), List.mem_of_getElem? (i := 1582) (by decide +kernel), List.mem_of_getElem? (i := 1583) (by decide +kernel)⟩
theorem lw_p65 : lw_okq (⟨"NightHoursModel", "knows", "(III)V"⟩, 97) := ⟨⟨by decide +kernel, by decide +kernel⟩, List.mem_of_getElem? (i := 1213) (by decide +kernel), List.mem_of_getElem? (i := 1586) (by decide +kernel), List.mem_of_getElem? (i := 1587) (by decide +kernel)⟩
theorem lw_p66 : lw_okq (⟨"NightHoursModel", "tellWay", "()V"⟩, 97) := ⟨⟨by decide +kernel, by decide +kernel⟩, List.mem_of_getElem? (i := 1213) (by decide +kernel), List.mem_of_getElem? (i := 1590) (by decide +kernel), List.mem_of_getElem? (i := 1591) (by decide +kernel)⟩
theorem lw_p67 : lw_okq (⟨"NightHoursModel", "known", "(I)I"⟩, 97) := ⟨⟨by decide +kernel, by decide +kernel⟩, List.mem_of_getElem? (i := 1213) (by decide +kernel), List.mem_of_getElem? (i := 1594) (by decide +kernel), List.mem_of_getElem? (i := 1595) (by decide +kernel)⟩
theorem lw_p68 : lw_okq (⟨"NightHoursModel", "number", "(Z)I"⟩, 97) := ⟨⟨by decide +kernel, by decide +kernel⟩, List.mem_of_getElem? (i := 1213) (by decide +kernel), List.mem_of_getElem? (i := 1598) (by decide +kernel), List.mem_of_getElem? (i := 1599) (by decide +kernel)⟩
theorem lw_p69 : lw_okq (⟨"NightHoursModel", "tellTime", "()V"⟩, 97) := ⟨⟨by decide +kernel, by decide +kernel⟩, List.mem_of_getElem? (i := 1213) (by decide +kernel), List.mem_of_getElem? (i := 1602) (by decide +kernel), List.mem_of_getElem? (i := 1603) (by decide +kernel)⟩
theorem lw_p70 : lw_okq (⟨"NightHoursModel", "tellSaying", "()V"⟩, 97) := ⟨⟨by decide +kernel, by decide +kernel⟩, List.mem_of_getElem? (i := 1213) (by decide +kernel), List.mem_of_getElem? (i := 1606) (by decide +kernel), List.mem_of_getElem? (i := 1607) (by decide +kernel)⟩
theorem lw_p71 : lw_okq (⟨"NightHoursModel", "tellAll", "(I)V"⟩, 97) := ⟨⟨by decide +kernel, by decide +kernel⟩, List.mem_of_getElem? (i := 1213) (by decide +kernel), List.mem_of_getElem? (i := 1610) (by decide +kernel), List.mem_of_getElem? (i := 1611) (by decide +kernel)⟩
theorem lw_p72 : lw_okq (⟨"NightHoursModel", "tellSpan", "(I)V"⟩, 97) := ⟨⟨by decide +kernel, by decide +kernel⟩, List.mem_of_getElem? (i := 1213) (by decide +kernel), List.mem_of_getElem? (i := 1614) (by decide +kernel), List.mem_of_getElem? (i := 1615) (by decide +kernel)⟩
theorem lw_p73 : lw_okq (⟨"NightHoursModel", "tellOpen", "()V"⟩, 97) := ⟨⟨by decide +kernel, by decide +kernel⟩, List.mem_of_getElem? (i := 1213) (by decide +kernel), List.mem_of_getElem? (i := 1618) (by decide +kernel), List.mem_of_getElem? (i := 1619) (by decide +kernel)⟩
theorem lw_p74 : lw_okq (⟨"NightHoursModel", "tellQuestion", "()V"⟩, 97) := ⟨⟨by decide +kernel, by decide +kernel⟩, List.mem_of_getElem? (i := 1213) (by decide +kernel), List.mem_of_getElem? (i := 1622) (by decide +kernel), List.mem_of_getElem? (i := 1623) (by decide +kernel)⟩
theorem lw_p75 : lw_okq (⟨"NightHoursModel", "walks", "()V"⟩, 97) := ⟨⟨by decide +kernel, by decide +kernel⟩, List.mem_of_getElem? (i := 1213) (by decide +kernel), List.mem_of_getElem? (i := 1626) (by decide +kernel), List.mem_of_getElem? (i := 1627) (by decide +kernel)⟩
theorem lw_p76 : lw_okq (⟨"NightHoursModel", "meets", "()V"⟩, 97) := ⟨⟨by decide +kernel, by decide +kernel⟩, List.mem_of_getElem? (i := 1213) (by decide +kernel), List.mem_of_getElem? (i := 1630) (by decide +kernel), List.mem_of_getElem? (i := 1631) (by decide +kernel)⟩
theorem lw_p77 : lw_okq (⟨"NightHoursModel", "changes", "()V"⟩, 97) := ⟨⟨by decide +kernel, by decide +kernel⟩, List.mem_of_getElem? (i := 1213) (by decide +kernel), List.mem_of_getElem? (i := 1634) (by decide +kernel), List.mem_of_getElem? (i := 1635) (by decide +kernel)⟩
theorem lw_p78 : lw_okq (⟨"NightHoursModel", "isTime", "(I)Z"⟩, 97) := ⟨⟨by decide +kernel, by decide +kernel⟩, List.mem_of_getElem? (i := 1213) (by decide +kernel), List.mem_of_getElem? (i := 1646) (by decide +kernel), List.mem_of_getElem? (i := 1647) (by decide +kernel)⟩
theorem lw_p79 : lw_okq (⟨"NightHoursModel", "isSaying", "(I)Z"⟩, 97) := ⟨⟨by decide +kernel, by decide +kernel⟩, List.mem_of_getElem? (i := 1213) (by decide +kernel), List.mem_of_getElem? (i := 1661) (by decide +kernel), List.mem_of_getElem? (i := 1662) (by decide +kernel)⟩
def lw_privs_5 : List (MethodName × Nat) := [(⟨"NightHoursModel", "wrong", "(II)V"⟩, 97), (⟨"NightHoursModel", "knows", "(III)V"⟩, 97), (⟨"NightHoursModel", "tellWay", "()V"⟩, 97), (⟨"NightHoursModel", "known", "(I)I"⟩, 97), (⟨"NightHoursModel", "number", "(Z)I"⟩, 97), (⟨"NightHoursModel", "tellTime", "()V"⟩, 97), (⟨"NightHoursModel", "tellSaying", "()V"⟩, 97), (⟨"NightHoursModel", "tellAll", "(I)V"⟩, 97), (⟨"NightHoursModel", "tellSpan", "(I)V"⟩, 97), (⟨"NightHoursModel", "tellOpen", "()V"⟩, 97), (⟨"NightHoursModel", "tellQuestion", "()V"⟩, 97), (⟨"NightHoursModel", "walks", "()V"⟩, 97), (⟨"NightHoursModel", "meets", "()V"⟩, 97), (⟨"NightHoursModel", "changes", "()V"⟩, 97), (⟨"NightHoursModel", "isTime", "(I)Z"⟩, 97), (⟨"NightHoursModel", "isSaying", "(I)Z"⟩, 97)]
theorem lw_r5 : ∀ q ∈ lw_privs_5, lw_okq q := List.forall_mem_cons.mpr ⟨lw_p64, List.forall_mem_cons.mpr ⟨lw_p65, List.forall_mem_cons.mpr ⟨lw_p66, List.forall_mem_cons.mpr ⟨lw_p67, List.forall_mem_cons.mpr ⟨lw_p68, List.forall_mem_cons.mpr ⟨lw_p69, List.forall_mem_cons.mpr ⟨lw_p70, List.forall_mem_cons.mpr ⟨lw_p71, List.forall_mem_cons.mpr ⟨lw_p72, List.forall_mem_cons.mpr ⟨lw_p73, List.forall_mem_cons.mpr ⟨lw_p74, List.forall_mem_cons.mpr ⟨lw_p75, List.forall_mem_cons.mpr ⟨lw_p76, List.forall_mem_cons.mpr ⟨lw_p77, List.forall_mem_cons.mpr ⟨lw_p78, List.forall_mem_cons.mpr ⟨lw_p79, fun _ h => absurd h List.not_mem_nil⟩⟩⟩⟩⟩⟩⟩⟩⟩⟩⟩⟩⟩⟩⟩⟩
theorem lw_p80 : lw_okq (⟨"NightHoursModel", "goesAll", "()V"⟩, 97) := ⟨⟨by decide +kernel, by decide +kernel⟩, List.mem_of_getElem? (i := 1213) (by decide +kernel), List.mem_of_getElem? (i := 1677) (by decide +kernel), List.mem_of_getElem? (i := 1678) (by decide +kernel)⟩
theorem lw_p81 : lw_okq (⟨"NightHoursModel", "undoubted", "()I"⟩, 97) := ⟨⟨by decide +kernel, by decide +kernel⟩, List.mem_of_getElem? (i := 1213) (by decide +kernel), List.mem_of_getElem? (i := 1681) (by decide +kernel), List.mem_of_getElem? (i := 1682) (by decide +kernel)⟩
theorem lw_p82 : lw_okq (⟨"NightHoursModel", "lists", "(I)V"⟩, 97) := ⟨⟨by decide +kernel, by decide +kernel⟩, List.mem_of_getElem? (i := 1213) (by decide +kernel), List.mem_of_getElem? (i := 1685) (by decide +kernel), List.mem_of_getElem? (i := 1686) (by decide +kernel)⟩
theorem lw_p83 : lw_okq (⟨"NightHoursModel", "begins", "(I)Z"⟩, 97) := ⟨⟨by decide +kernel, by decide +kernel⟩, List.mem_of_getElem? (i := 1213) (by decide +kernel), List.mem_of_getElem? (i := 1689) (by decide +kernel), List.mem_of_getElem? (i := 1690) (by decide +kernel)⟩
theorem lw_p84 : lw_okq (⟨"NightHoursModel", "bound", "(III)Z"⟩, 97) := ⟨⟨by decide +kernel, by decide +kernel⟩, List.mem_of_getElem? (i := 1213) (by decide +kernel), List.mem_of_getElem? (i := 1693) (by decide +kernel), List.mem_of_getElem? (i := 1694) (by decide +kernel)⟩
theorem lw_p85 : lw_okq (⟨"NightHoursModel", "holdsSpan", "(II)Z"⟩, 97) := ⟨⟨by decide +kernel, by decide +kernel⟩, List.mem_of_getElem? (i := 1213) (by decide +kernel), List.mem_of_getElem? (i := 1697) (by decide +kernel), List.mem_of_getElem? (i := 1698) (by decide +kernel)⟩
theorem lw_p86 : lw_okq (⟨"NightHoursModel", "between", "(IIII)Z"⟩, 97) := ⟨⟨by decide +kernel, by decide +kernel⟩, List.mem_of_getElem? (i := 1213) (by decide +kernel), List.mem_of_getElem? (i := 1701) (by decide +kernel), List.mem_of_getElem? (i := 1702) (by decide +kernel)⟩
theorem lw_p87 : lw_okq (⟨"NightHoursModel", "atMost", "(III)Z"⟩, 97) := ⟨⟨by decide +kernel, by decide +kernel⟩, List.mem_of_getElem? (i := 1213) (by decide +kernel), List.mem_of_getElem? (i := 1705) (by decide +kernel), List.mem_of_getElem? (i := 1706) (by decide +kernel)⟩
theorem lw_p88 : lw_okq (⟨"NightHoursModel", "openAt", "(I)I"⟩, 97) := ⟨⟨by decide +kernel, by decide +kernel⟩, List.mem_of_getElem? (i := 1213) (by decide +kernel), List.mem_of_getElem? (i := 1709) (by decide +kernel), List.mem_of_getElem? (i := 1710) (by decide +kernel)⟩
theorem lw_p89 : lw_okq (⟨"NightHoursModel", "searches", "(Z)I"⟩, 97) := ⟨⟨by decide +kernel, by decide +kernel⟩, List.mem_of_getElem? (i := 1213) (by decide +kernel), List.mem_of_getElem? (i := 1713) (by decide +kernel), List.mem_of_getElem? (i := 1714) (by decide +kernel)⟩
theorem lw_p90 : lw_okq (⟨"NightHoursModel", "choices", "(I)I"⟩, 97) := ⟨⟨by decide +kernel, by decide +kernel⟩, List.mem_of_getElem? (i := 1213) (by decide +kernel), List.mem_of_getElem? (i := 1717) (by decide +kernel), List.mem_of_getElem? (i := 1718) (by decide +kernel)⟩
theorem lw_p91 : lw_okq (⟨"NightHoursModel", "copies", "(II)V"⟩, 97) := ⟨⟨by decide +kernel, by decide +kernel⟩, List.mem_of_getElem? (i := 1213) (by decide +kernel), List.mem_of_getElem? (i := 1721) (by decide +kernel), List.mem_of_getElem? (i := 1722) (by decide +kernel)⟩
theorem lw_p92 : lw_okq (⟨"NightHoursModel", "chooses", "(II)Z"⟩, 97) := ⟨⟨by decide +kernel, by decide +kernel⟩, List.mem_of_getElem? (i := 1213) (by decide +kernel), List.mem_of_getElem? (i := 1725) (by decide +kernel), List.mem_of_getElem? (i := 1726) (by decide +kernel)⟩
theorem lw_p93 : lw_okq (⟨"NightHoursModel", "notes", "(IIZ)V"⟩, 97) := ⟨⟨by decide +kernel, by decide +kernel⟩, List.mem_of_getElem? (i := 1213) (by decide +kernel), List.mem_of_getElem? (i := 1729) (by decide +kernel), List.mem_of_getElem? (i := 1730) (by decide +kernel)⟩
theorem lw_p94 : lw_okq (⟨"NightHoursModel", "asks", "(I)I"⟩, 97) := ⟨⟨by decide +kernel, by decide +kernel⟩, List.mem_of_getElem? (i := 1213) (by decide +kernel), List.mem_of_getElem? (i := 1737) (by decide +kernel), List.mem_of_getElem? (i := 1738) (by decide +kernel)⟩
theorem lw_p95 : lw_okq (⟨"NightHoursModel", "choiceOf", "(II)I"⟩, 97) := ⟨⟨by decide +kernel, by decide +kernel⟩, List.mem_of_getElem? (i := 1213) (by decide +kernel), List.mem_of_getElem? (i := 1741) (by decide +kernel), List.mem_of_getElem? (i := 1742) (by decide +kernel)⟩
def lw_privs_6 : List (MethodName × Nat) := [(⟨"NightHoursModel", "goesAll", "()V"⟩, 97), (⟨"NightHoursModel", "undoubted", "()I"⟩, 97), (⟨"NightHoursModel", "lists", "(I)V"⟩, 97), (⟨"NightHoursModel", "begins", "(I)Z"⟩, 97), (⟨"NightHoursModel", "bound", "(III)Z"⟩, 97), (⟨"NightHoursModel", "holdsSpan", "(II)Z"⟩, 97), (⟨"NightHoursModel", "between", "(IIII)Z"⟩, 97), (⟨"NightHoursModel", "atMost", "(III)Z"⟩, 97), (⟨"NightHoursModel", "openAt", "(I)I"⟩, 97), (⟨"NightHoursModel", "searches", "(Z)I"⟩, 97), (⟨"NightHoursModel", "choices", "(I)I"⟩, 97), (⟨"NightHoursModel", "copies", "(II)V"⟩, 97), (⟨"NightHoursModel", "chooses", "(II)Z"⟩, 97), (⟨"NightHoursModel", "notes", "(IIZ)V"⟩, 97), (⟨"NightHoursModel", "asks", "(I)I"⟩, 97), (⟨"NightHoursModel", "choiceOf", "(II)I"⟩, 97)]
theorem lw_r6 : ∀ q ∈ lw_privs_6, lw_okq q := List.forall_mem_cons.mpr ⟨lw_p80, List.forall_mem_cons.mpr ⟨lw_p81, List.forall_mem_cons.mpr ⟨lw_p82, List.forall_mem_cons.mpr ⟨lw_p83, List.forall_mem_cons.mpr ⟨lw_p84, List.forall_mem_cons.mpr ⟨lw_p85, List.forall_mem_cons.mpr ⟨lw_p86, List.forall_mem_cons.mpr ⟨lw_p87, List.forall_mem_cons.mpr ⟨lw_p88, List.forall_mem_cons.mpr ⟨lw_p89, List.forall_mem_cons.mpr ⟨lw_p90, List.forall_mem_cons.mpr ⟨lw_p91, List.forall_mem_cons.mpr ⟨lw_p92, List.forall_mem_cons.mpr ⟨lw_p93, List.forall_mem_cons.mpr ⟨lw_p94, List.forall_mem_cons.mpr ⟨lw_p95, fun _ h => absurd h List.not_mem_nil⟩⟩⟩⟩⟩⟩⟩⟩⟩⟩⟩⟩⟩⟩⟩⟩
theorem lw_p96 : lw_okq (⟨"NightHoursModel", "lays", "(IZ)Z"⟩, 97) := ⟨⟨by decide +kernel, by decide +kernel⟩, List.mem_of_getElem? (i := 1213) (by decide +kernel), List.mem_of_getElem? (i := 1753) (by decide +kernel), List.mem_of_getElem? (i := 1754) (by decide +kernel)⟩
theorem lw_p97 : lw_okq (⟨"NightHoursModel", "gapNow", "(IIZ)I"⟩, 97) := ⟨⟨by decide +kernel, by decide +kernel⟩, List.mem_of_getElem? (i := 1213) (by decide +kernel), List.mem_of_getElem? (i := 1757) (by decide +kernel), List.mem_of_getElem? (i := 1758) (by decide +kernel)⟩
theorem lw_p98 : lw_okq (⟨"NightHoursModel", "isMinute", "(I)Z"⟩, 97) := ⟨⟨by decide +kernel, by decide +kernel⟩, List.mem_of_getElem? (i := 1213) (by decide +kernel), List.mem_of_getElem? (i := 1773) (by decide +kernel), List.mem_of_getElem? (i := 1774) (by decide +kernel)⟩
theorem lw_p99 : lw_okq (⟨"NightHoursModel", "bearsSpan", "(I)I"⟩, 97) := ⟨⟨by decide +kernel, by decide +kernel⟩, List.mem_of_getElem? (i := 1213) (by decide +kernel), List.mem_of_getElem? (i := 1789) (by decide +kernel), List.mem_of_getElem? (i := 1790) (by decide +kernel)⟩
theorem lw_p100 : lw_okq (⟨"NightHoursModel", "sets", "()V"⟩, 97) := ⟨⟨by decide +kernel, by decide +kernel⟩, List.mem_of_getElem? (i := 1213) (by decide +kernel), List.mem_of_getElem? (i := 1801) (by decide +kernel), List.mem_of_getElem? (i := 1802) (by decide +kernel)⟩
theorem lw_p101 : lw_okq (⟨"NightHoursModel", "sureOnes", "()I"⟩, 97) := ⟨⟨by decide +kernel, by decide +kernel⟩, List.mem_of_getElem? (i := 1213) (by decide +kernel), List.mem_of_getElem? (i := 1805) (by decide +kernel), List.mem_of_getElem? (i := 1806) (by decide +kernel)⟩
theorem lw_p102 : lw_okq (⟨"NightHoursModel", "hasWay", "(I)Z"⟩, 97) := ⟨⟨by decide +kernel, by decide +kernel⟩, List.mem_of_getElem? (i := 1213) (by decide +kernel), List.mem_of_getElem? (i := 1809) (by decide +kernel), List.mem_of_getElem? (i := 1810) (by decide +kernel)⟩
theorem lw_p103 : lw_okq (⟨"NightHoursModel", "trustIn", "(I)I"⟩, 97) := ⟨⟨by decide +kernel, by decide +kernel⟩, List.mem_of_getElem? (i := 1213) (by decide +kernel), List.mem_of_getElem? (i := 1832) (by decide +kernel), List.mem_of_getElem? (i := 1833) (by decide +kernel)⟩
theorem lw_p104 : lw_okq (⟨"NightHoursModel", "itemAt", "(I)I"⟩, 97) := ⟨⟨by decide +kernel, by decide +kernel⟩, List.mem_of_getElem? (i := 1213) (by decide +kernel), List.mem_of_getElem? (i := 1845) (by decide +kernel), List.mem_of_getElem? (i := 1846) (by decide +kernel)⟩
theorem lw_p105 : lw_okq (⟨"NightHoursModel", "pickedStands", "()Z"⟩, 97) := ⟨⟨by decide +kernel, by decide +kernel⟩, List.mem_of_getElem? (i := 1213) (by decide +kernel), List.mem_of_getElem? (i := 1853) (by decide +kernel), List.mem_of_getElem? (i := 1854) (by decide +kernel)⟩
theorem lw_p106 : lw_okq (⟨"NightHoursModel", "rings", "()Z"⟩, 97) := ⟨⟨by decide +kernel, by decide +kernel⟩, List.mem_of_getElem? (i := 1213) (by decide +kernel), List.mem_of_getElem? (i := 1861) (by decide +kernel), List.mem_of_getElem? (i := 1862) (by decide +kernel)⟩
theorem lw_p107 : lw_okq (⟨"NightHoursModel", "isPerson", "(I)Z"⟩, 97) := ⟨⟨by decide +kernel, by decide +kernel⟩, List.mem_of_getElem? (i := 1213) (by decide +kernel), List.mem_of_getElem? (i := 1877) (by decide +kernel), List.mem_of_getElem? (i := 1878) (by decide +kernel)⟩
theorem lw_p108 : lw_okq (⟨"NightHoursModel", "oneMore", "(II)V"⟩, 97) := ⟨⟨by decide +kernel, by decide +kernel⟩, List.mem_of_getElem? (i := 1213) (by decide +kernel), List.mem_of_getElem? (i := 1881) (by decide +kernel), List.mem_of_getElem? (i := 1882) (by decide +kernel)⟩
theorem lw_p109 : lw_okq (⟨"NightHoursModel", "meetsAll", "()V"⟩, 97) := ⟨⟨by decide +kernel, by decide +kernel⟩, List.mem_of_getElem? (i := 1213) (by decide +kernel), List.mem_of_getElem? (i := 1889) (by decide +kernel), List.mem_of_getElem? (i := 1890) (by decide +kernel)⟩
theorem lw_p110 : lw_okq (⟨"NightHoursModel", "sees", "(I)V"⟩, 97) := ⟨⟨by decide +kernel, by decide +kernel⟩, List.mem_of_getElem? (i := 1213) (by decide +kernel), List.mem_of_getElem? (i := 1893) (by decide +kernel), List.mem_of_getElem? (i := 1894) (by decide +kernel)⟩
theorem lw_p111 : lw_okq (⟨"NightHoursModel", "leftOf", "(II)I"⟩, 97) := ⟨⟨by decide +kernel, by decide +kernel⟩, List.mem_of_getElem? (i := 1213) (by decide +kernel), List.mem_of_getElem? (i := 1901) (by decide +kernel), List.mem_of_getElem? (i := 1902) (by decide +kernel)⟩
def lw_privs_7 : List (MethodName × Nat) := [(⟨"NightHoursModel", "lays", "(IZ)Z"⟩, 97), (⟨"NightHoursModel", "gapNow", "(IIZ)I"⟩, 97), (⟨"NightHoursModel", "isMinute", "(I)Z"⟩, 97), (⟨"NightHoursModel", "bearsSpan", "(I)I"⟩, 97), (⟨"NightHoursModel", "sets", "()V"⟩, 97), (⟨"NightHoursModel", "sureOnes", "()I"⟩, 97), (⟨"NightHoursModel", "hasWay", "(I)Z"⟩, 97), (⟨"NightHoursModel", "trustIn", "(I)I"⟩, 97), (⟨"NightHoursModel", "itemAt", "(I)I"⟩, 97), (⟨"NightHoursModel", "pickedStands", "()Z"⟩, 97), (⟨"NightHoursModel", "rings", "()Z"⟩, 97), (⟨"NightHoursModel", "isPerson", "(I)Z"⟩, 97), (⟨"NightHoursModel", "oneMore", "(II)V"⟩, 97), (⟨"NightHoursModel", "meetsAll", "()V"⟩, 97), (⟨"NightHoursModel", "sees", "(I)V"⟩, 97), (⟨"NightHoursModel", "leftOf", "(II)I"⟩, 97)]
theorem lw_r7 : ∀ q ∈ lw_privs_7, lw_okq q := List.forall_mem_cons.mpr ⟨lw_p96, List.forall_mem_cons.mpr ⟨lw_p97, List.forall_mem_cons.mpr ⟨lw_p98, List.forall_mem_cons.mpr ⟨lw_p99, List.forall_mem_cons.mpr ⟨lw_p100, List.forall_mem_cons.mpr ⟨lw_p101, List.forall_mem_cons.mpr ⟨lw_p102, List.forall_mem_cons.mpr ⟨lw_p103, List.forall_mem_cons.mpr ⟨lw_p104, List.forall_mem_cons.mpr ⟨lw_p105, List.forall_mem_cons.mpr ⟨lw_p106, List.forall_mem_cons.mpr ⟨lw_p107, List.forall_mem_cons.mpr ⟨lw_p108, List.forall_mem_cons.mpr ⟨lw_p109, List.forall_mem_cons.mpr ⟨lw_p110, List.forall_mem_cons.mpr ⟨lw_p111, fun _ h => absurd h List.not_mem_nil⟩⟩⟩⟩⟩⟩⟩⟩⟩⟩⟩⟩⟩⟩⟩⟩
theorem lw_p112 : lw_okq (⟨"NightHoursModel", "isLeft", "(II)Z"⟩, 97) := ⟨⟨by decide +kernel, by decide +kernel⟩, List.mem_of_getElem? (i := 1213) (by decide +kernel), List.mem_of_getElem? (i := 1905) (by decide +kernel), List.mem_of_getElem? (i := 1906) (by decide +kernel)⟩
theorem lw_p113 : lw_okq (⟨"NightHoursModel", "answers", "(II)Z"⟩, 97) := ⟨⟨by decide +kernel, by decide +kernel⟩, List.mem_of_getElem? (i := 1213) (by decide +kernel), List.mem_of_getElem? (i := 1909) (by decide +kernel), List.mem_of_getElem? (i := 1910) (by decide +kernel)⟩
theorem lw_p114 : lw_okq (⟨"NightHoursModel", "planOf", "(IZ)I"⟩, 97) := ⟨⟨by decide +kernel, by decide +kernel⟩, List.mem_of_getElem? (i := 1213) (by decide +kernel), List.mem_of_getElem? (i := 1925) (by decide +kernel), List.mem_of_getElem? (i := 1926) (by decide +kernel)⟩
theorem lw_p115 : lw_okq (⟨"NightHoursModel", "plans", "(I)I"⟩, 97) := ⟨⟨by decide +kernel, by decide +kernel⟩, List.mem_of_getElem? (i := 1213) (by decide +kernel), List.mem_of_getElem? (i := 1929) (by decide +kernel), List.mem_of_getElem? (i := 1930) (by decide +kernel)⟩
theorem lw_p116 : lw_okq (⟨"NightHoursModel", "laysSet", "(I)Z"⟩, 97) := ⟨⟨by decide +kernel, by decide +kernel⟩, List.mem_of_getElem? (i := 1213) (by decide +kernel), List.mem_of_getElem? (i := 1945) (by decide +kernel), List.mem_of_getElem? (i := 1946) (by decide +kernel)⟩
theorem lw_p117 : lw_okq (⟨"NightHoursModel", "gives", "(I)I"⟩, 97) := ⟨⟨by decide +kernel, by decide +kernel⟩, List.mem_of_getElem? (i := 1213) (by decide +kernel), List.mem_of_getElem? (i := 1961) (by decide +kernel), List.mem_of_getElem? (i := 1962) (by decide +kernel)⟩
def lw_privs_8 : List (MethodName × Nat) := [(⟨"NightHoursModel", "isLeft", "(II)Z"⟩, 97), (⟨"NightHoursModel", "answers", "(II)Z"⟩, 97), (⟨"NightHoursModel", "planOf", "(IZ)I"⟩, 97), (⟨"NightHoursModel", "plans", "(I)I"⟩, 97), (⟨"NightHoursModel", "laysSet", "(I)Z"⟩, 97), (⟨"NightHoursModel", "gives", "(I)I"⟩, 97)]
theorem lw_r8 : ∀ q ∈ lw_privs_8, lw_okq q := List.forall_mem_cons.mpr ⟨lw_p112, List.forall_mem_cons.mpr ⟨lw_p113, List.forall_mem_cons.mpr ⟨lw_p114, List.forall_mem_cons.mpr ⟨lw_p115, List.forall_mem_cons.mpr ⟨lw_p116, List.forall_mem_cons.mpr ⟨lw_p117, fun _ h => absurd h List.not_mem_nil⟩⟩⟩⟩⟩⟩
def lw_privs : List (MethodName × Nat) := lw_privs_1 ++ (lw_privs_2 ++ (lw_privs_3 ++ (lw_privs_4 ++ (lw_privs_5 ++ (lw_privs_6 ++ (lw_privs_7 ++ (lw_privs_8)))))))
def lw_tbl : List Cond := k2_sels lw_privs ++ tables_1
theorem lw_privs_ok : ∀ q ∈ lw_privs, lw_okq q := by
  show ∀ q ∈ lw_privs_1 ++ (lw_privs_2 ++ (lw_privs_3 ++ (lw_privs_4 ++ (lw_privs_5 ++ (lw_privs_6 ++ (lw_privs_7 ++ (lw_privs_8))))))), lw_okq q
  exact List.forall_mem_append.mpr ⟨lw_r1, List.forall_mem_append.mpr ⟨lw_r2, List.forall_mem_append.mpr ⟨lw_r3, List.forall_mem_append.mpr ⟨lw_r4, List.forall_mem_append.mpr ⟨lw_r5, List.forall_mem_append.mpr ⟨lw_r6, List.forall_mem_append.mpr ⟨lw_r7, lw_r8⟩⟩⟩⟩⟩⟩⟩
end
section
def RX0 : String := "NightHours$Asking"
def TX0 : u_T := fun k => match k with
  | 0 => ("NightHours$Asking", "going", "LNightHours$Going;", true)
  | 1 => ("NightHours$Asking", "book", "LNightHours$Book;", true)
  | 2 => ("NightHours$Asking", "wholeAnswers", "[I", true)
  | 3 => ("NightHours$Asking", "leftRow", "[I", true)
  | 4 => ("NightHours$Asking", "needed", "[I", true)
  | _ => ("NightHours$Asking", "fresh", "Z", false)
def tyX0 : Nat → FieldType := fun k => match k with
  | 0 => .object "NightHours$Going"
  | 1 => .object "NightHours$Book"
  | 2 => .array .int
  | 3 => .array .int
  | 4 => .array .int
  | _ => .boolean
abbrev wsX00 : List Cond := u_ws RX0 TX0 6
theorem nmX0 : ∀ a, a < 6 → ∀ b, b < 6 → a ≠ b → (TX0 a).2.1 ≠ (TX0 b).2.1 := by decide +kernel
theorem tyX0_ok : ∀ k, k < 6 → parseFieldDescriptor (TX0 k).2.2.1 = some (tyX0 k) := by decide +kernel
abbrev cX0_init : ByteArray := prog_2_method_1_code
def yX0_init : MethodName := ⟨RX0, "<init>", "(LNightHours$Going;LNightHours$Book;)V"⟩
abbrev cX0_answered : ByteArray := prog_2_method_2_code
def yX0_answered : MethodName := ⟨RX0, "answered", "(LNightHours$Told;IZ)I"⟩
abbrev cX0_leftWith : ByteArray := prog_2_method_3_code
def yX0_leftWith : MethodName := ⟨RX0, "leftWith", "(LNightHours$Told;II)I"⟩
abbrev cX0_isLeft : ByteArray := prog_2_method_4_code
def yX0_isLeft : MethodName := ⟨RX0, "isLeft", "(LNightHours$Told;IIII)Z"⟩
abbrev cX0_answer : ByteArray := prog_2_method_5_code
def yX0_answer : MethodName := ⟨RX0, "answer", "(LNightHours$Told;III)Z"⟩
abbrev cX0_workOut : ByteArray := prog_2_method_6_code
def yX0_workOut : MethodName := ⟨RX0, "workOut", "(LNightHours$Told;I)V"⟩
abbrev cX0_neededWith : ByteArray := prog_2_method_7_code
def yX0_neededWith : MethodName := ⟨RX0, "neededWith", "(II)I"⟩
abbrev cX0_firstQuestion : ByteArray := prog_2_method_8_code
def yX0_firstQuestion : MethodName := ⟨RX0, "firstQuestion", "(LNightHours$Told;)I"⟩
abbrev cX0_countStates : ByteArray := prog_2_method_9_code
def yX0_countStates : MethodName := ⟨RX0, "countStates", "(LNightHours$Told;)V"⟩
abbrev cX0_answersOf : ByteArray := prog_2_method_10_code
def yX0_answersOf : MethodName := ⟨RX0, "answersOf", "(LNightHours$Told;I)I"⟩
abbrev cX0_countLeft : ByteArray := prog_2_method_11_code
def yX0_countLeft : MethodName := ⟨RX0, "countLeft", "(II)I"⟩
abbrev cX0_spread : ByteArray := prog_2_method_12_code
def yX0_spread : MethodName := ⟨RX0, "spread", "(LNightHours$Told;IIII)V"⟩
def RX1 : String := "NightHours$Book"
def TX1 : u_T := fun k => match k with
  | 0 => ("NightHours$Book", "tryRow", "[I", true)
  | 1 => ("NightHours$Book", "sayRow", "[I", true)
  | _ => ("NightHours$Book", "moveRow", "[J", true)
def tyX1 : Nat → FieldType := fun k => match k with
  | 0 => .array .int
  | 1 => .array .int
  | _ => .array .long
abbrev wsX10 : List Cond := u_ws RX1 TX1 3
theorem nmX1 : ∀ a, a < 3 → ∀ b, b < 3 → a ≠ b → (TX1 a).2.1 ≠ (TX1 b).2.1 := by decide +kernel
theorem tyX1_ok : ∀ k, k < 3 → parseFieldDescriptor (TX1 k).2.2.1 = some (tyX1 k) := by decide +kernel
abbrev cX1_init : ByteArray := prog_3_method_1_code
def yX1_init : MethodName := ⟨RX1, "<init>", "()V"⟩
abbrev cX1_addTry : ByteArray := prog_3_method_2_code
def yX1_addTry : MethodName := ⟨RX1, "addTry", "(IIIZ)V"⟩
abbrev cX1_addWay : ByteArray := prog_3_method_3_code
def yX1_addWay : MethodName := ⟨RX1, "addWay", "(I[I[II)V"⟩
abbrev cX1_choiceOf : ByteArray := prog_3_method_4_code
def yX1_choiceOf : MethodName := ⟨RX1, "choiceOf", "(II)I"⟩
abbrev cX1_tryOf : ByteArray := prog_3_method_5_code
def yX1_tryOf : MethodName := ⟨RX1, "tryOf", "(II)I"⟩
def RX2 : String := "NightHours$Going"
def TX2 : u_T := fun k => match k with
  | 0 => ("NightHours$Going", "net", "LNightHours$Net;", true)
  | 1 => ("NightHours$Going", "isHard", "Z", true)
  | 2 => ("NightHours$Going", "item", "[I", true)
  | 3 => ("NightHours$Going", "chosen", "[I", true)
  | 4 => ("NightHours$Going", "told", "LNightHours$Told;", false)
  | 5 => ("NightHours$Going", "held", "LNightHours$Held;", false)
  | 6 => ("NightHours$Going", "built", "I", false)
  | 7 => ("NightHours$Going", "widened", "I", false)
  | 8 => ("NightHours$Going", "give", "I", false)
  | 9 => ("NightHours$Going", "guestPlace", "I", false)
  | 10 => ("NightHours$Going", "hasGuest", "Z", false)
  | 11 => ("NightHours$Going", "items", "I", false)
  | 12 => ("NightHours$Going", "based", "Z", false)
  | 13 => ("NightHours$Going", "tries", "I", false)
  | 14 => ("NightHours$Going", "found", "I", false)
  | 15 => ("NightHours$Going", "spent", "Z", false)
  | 16 => ("NightHours$Going", "guestLeast", "I", false)
  | _ => ("NightHours$Going", "guestMost", "I", false)
def tyX2 : Nat → FieldType := fun k => match k with
  | 0 => .object "NightHours$Net"
  | 1 => .boolean
  | 2 => .array .int
  | 3 => .array .int
  | 4 => .object "NightHours$Told"
  | 5 => .object "NightHours$Held"
  | 6 => .int
  | 7 => .int
  | 8 => .int
  | 9 => .int
  | 10 => .boolean
  | 11 => .int
  | 12 => .boolean
  | 13 => .int
  | 14 => .int
  | 15 => .boolean
  | 16 => .int
  | _ => .int
abbrev wsX20 : List Cond := u_ws RX2 TX2 18
theorem nmX2 : ∀ a, a < 18 → ∀ b, b < 18 → a ≠ b → (TX2 a).2.1 ≠ (TX2 b).2.1 := by decide +kernel
theorem tyX2_ok : ∀ k, k < 18 → parseFieldDescriptor (TX2 k).2.2.1 = some (tyX2 k) := by decide +kernel
abbrev cX2_init : ByteArray := prog_4_method_1_code
def yX2_init : MethodName := ⟨RX2, "<init>", "(IIZLNightHours$Told;LNightHours$Held;)V"⟩
abbrev cX2_begin : ByteArray := prog_4_method_2_code
def yX2_begin : MethodName := ⟨RX2, "begin", "(LNightHours$Told;LNightHours$Held;II)V"⟩
abbrev cX2_addItem : ByteArray := prog_4_method_3_code
def yX2_addItem : MethodName := ⟨RX2, "addItem", "(I)V"⟩
abbrev cX2_layBase : ByteArray := prog_4_method_4_code
def yX2_layBase : MethodName := ⟨RX2, "layBase", "(I)V"⟩
abbrev cX2_host : ByteArray := prog_4_method_5_code
def yX2_host : MethodName := ⟨RX2, "host", "(IIII)V"⟩
abbrev cX2_widen : ByteArray := prog_4_method_6_code
def yX2_widen : MethodName := ⟨RX2, "widen", "(II)V"⟩
abbrev cX2_bind : ByteArray := prog_4_method_7_code
def yX2_bind : MethodName := ⟨RX2, "bind", "(IIIII)Z"⟩
abbrev cX2_choicesOf : ByteArray := prog_4_method_8_code
def yX2_choicesOf : MethodName := ⟨RX2, "choicesOf", "(I)I"⟩
abbrev cX2_walkOf : ByteArray := prog_4_method_9_code
def yX2_walkOf : MethodName := ⟨RX2, "walkOf", "(I)I"⟩
abbrev cX2_push : ByteArray := prog_4_method_10_code
def yX2_push : MethodName := ⟨RX2, "push", "(III)Z"⟩
abbrev cX2_pushMove : ByteArray := prog_4_method_11_code
def yX2_pushMove : MethodName := ⟨RX2, "pushMove", "(III)Z"⟩
abbrev cX2_goThrough : ByteArray := prog_4_method_12_code
def yX2_goThrough : MethodName := ⟨RX2, "goThrough", "(LNightHours$Book;Z)V"⟩
abbrev cX2_noteWay : ByteArray := prog_4_method_13_code
def yX2_noteWay : MethodName := ⟨RX2, "noteWay", "(LNightHours$Book;)V"⟩
abbrev cX2_bring : ByteArray := prog_4_method_14_code
def yX2_bring : MethodName := ⟨RX2, "bring", "(LNightHours$Book;I)Z"⟩
abbrev cX2_minute : ByteArray := prog_4_method_15_code
def yX2_minute : MethodName := ⟨RX2, "minute", "(IIZ)I"⟩
abbrev cX2_distance : ByteArray := prog_4_method_16_code
def yX2_distance : MethodName := ⟨RX2, "distance", "(IIIZ)I"⟩
abbrev cX2_takes : ByteArray := prog_4_method_17_code
def yX2_takes : MethodName := ⟨RX2, "takes", "(I[I)Z"⟩
abbrev cX2_minuteWith : ByteArray := prog_4_method_18_code
def yX2_minuteWith : MethodName := ⟨RX2, "minuteWith", "(II[IZ)I"⟩
def RX3 : String := "NightHours$Grammar"
def TX3 : u_T := fun k => match k with
  | 0 => ("NightHours$Grammar", "tells", "[I", true)
  | 1 => ("NightHours$Grammar", "tell", "I", false)
  | 2 => ("NightHours$Grammar", "alls", "I", false)
  | _ => ("NightHours$Grammar", "parts", "I", false)
def tyX3 : Nat → FieldType := fun k => match k with
  | 0 => .array .int
  | 1 => .int
  | 2 => .int
  | _ => .int
abbrev wsX30 : List Cond := u_ws RX3 TX3 4
theorem nmX3 : ∀ a, a < 4 → ∀ b, b < 4 → a ≠ b → (TX3 a).2.1 ≠ (TX3 b).2.1 := by decide +kernel
theorem tyX3_ok : ∀ k, k < 4 → parseFieldDescriptor (TX3 k).2.2.1 = some (tyX3 k) := by decide +kernel
abbrev cX3_init : ByteArray := prog_5_method_1_code
def yX3_init : MethodName := ⟨RX3, "<init>", "()V"⟩
abbrev cX3_clear : ByteArray := prog_5_method_2_code
def yX3_clear : MethodName := ⟨RX3, "clear", "()V"⟩
abbrev cX3_follow : ByteArray := prog_5_method_3_code
def yX3_follow : MethodName := ⟨RX3, "follow", "(II)I"⟩
abbrev cX3_faultOf : ByteArray := prog_5_method_4_code
def yX3_faultOf : MethodName := ⟨RX3, "faultOf", "(III)I"⟩
abbrev cX3_hasRoom : ByteArray := prog_5_method_5_code
def yX3_hasRoom : MethodName := ⟨RX3, "hasRoom", "(II)Z"⟩
def RX4 : String := "NightHours$Held"
def TX4 : u_T := fun k => match k with
  | 0 => ("NightHours$Held", "doubted", "I", false)
  | 1 => ("NightHours$Held", "moreCount", "I", false)
  | 2 => ("NightHours$Held", "hours", "[I", true)
  | 3 => ("NightHours$Held", "picks", "[I", true)
  | _ => ("NightHours$Held", "more", "LNightHours$Spans;", true)
def tyX4 : Nat → FieldType := fun k => match k with
  | 0 => .int
  | 1 => .int
  | 2 => .array .int
  | 3 => .array .int
  | _ => .object "NightHours$Spans"
abbrev wsX40 : List Cond := u_ws RX4 TX4 5
theorem nmX4 : ∀ a, a < 5 → ∀ b, b < 5 → a ≠ b → (TX4 a).2.1 ≠ (TX4 b).2.1 := by decide +kernel
theorem tyX4_ok : ∀ k, k < 5 → parseFieldDescriptor (TX4 k).2.2.1 = some (tyX4 k) := by decide +kernel
abbrev cX4_init : ByteArray := prog_6_method_1_code
def yX4_init : MethodName := ⟨RX4, "<init>", "()V"⟩
abbrev cX4_clear : ByteArray := prog_6_method_2_code
def yX4_clear : MethodName := ⟨RX4, "clear", "()V"⟩
def RX5 : String := "NightHours$Net"
def TX5 : u_T := fun k => match k with
  | 0 => ("NightHours$Net", "most", "[I", true)
  | 1 => ("NightHours$Net", "stead", "[I", true)
  | 2 => ("NightHours$Net", "nearest", "[I", true)
  | 3 => ("NightHours$Net", "farthest", "[I", true)
  | 4 => ("NightHours$Net", "nodes", "I", false)
  | _ => ("NightHours$Net", "area", "I", false)
def tyX5 : Nat → FieldType := fun k => match k with
  | 0 => .array .int
  | 1 => .array .int
  | 2 => .array .int
  | 3 => .array .int
  | 4 => .int
  | _ => .int
abbrev wsX50 : List Cond := u_ws RX5 TX5 6
theorem nmX5 : ∀ a, a < 6 → ∀ b, b < 6 → a ≠ b → (TX5 a).2.1 ≠ (TX5 b).2.1 := by decide +kernel
theorem tyX5_ok : ∀ k, k < 6 → parseFieldDescriptor (TX5 k).2.2.1 = some (tyX5 k) := by decide +kernel
abbrev cX5_init : ByteArray := prog_7_method_1_code
def yX5_init : MethodName := ⟨RX5, "<init>", "(II)V"⟩
abbrev cX5_hasLevel : ByteArray := prog_7_method_2_code
def yX5_hasLevel : MethodName := ⟨RX5, "hasLevel", "(I)Z"⟩
abbrev cX5_hasNode : ByteArray := prog_7_method_3_code
def yX5_hasNode : MethodName := ⟨RX5, "hasNode", "(I)Z"⟩
abbrev cX5_blank : ByteArray := prog_7_method_4_code
def yX5_blank : MethodName := ⟨RX5, "blank", "(I)V"⟩
abbrev cX5_loose : ByteArray := prog_7_method_5_code
def yX5_loose : MethodName := ⟨RX5, "loose", "(IIII)V"⟩
abbrev cX5_copyUp : ByteArray := prog_7_method_6_code
def yX5_copyUp : MethodName := ⟨RX5, "copyUp", "(I)V"⟩
abbrev cX5_reach : ByteArray := prog_7_method_7_code
def yX5_reach : MethodName := ⟨RX5, "reach", "(III)I"⟩
abbrev cX5_tighten : ByteArray := prog_7_method_8_code
def yX5_tighten : MethodName := ⟨RX5, "tighten", "(IIII)Z"⟩
abbrev cX5_tightenRow : ByteArray := prog_7_method_9_code
def yX5_tightenRow : MethodName := ⟨RX5, "tightenRow", "(III)V"⟩
def RX6 : String := "NightHours$Quarrelling"
def TX6 : u_T := fun k => match k with
  | 0 => ("NightHours$Quarrelling", "going", "LNightHours$Going;", true)
  | 1 => ("NightHours$Quarrelling", "hasWay", "[Z", true)
  | 2 => ("NightHours$Quarrelling", "quarrelRow", "[I", true)
  | 3 => ("NightHours$Quarrelling", "givingRow", "[I", true)
  | 4 => ("NightHours$Quarrelling", "quarrelCount", "I", false)
  | 5 => ("NightHours$Quarrelling", "givingCount", "I", false)
  | 6 => ("NightHours$Quarrelling", "ringRow", "[I", true)
  | 7 => ("NightHours$Quarrelling", "ringCount", "I", false)
  | 8 => ("NightHours$Quarrelling", "fresh", "Z", false)
  | 9 => ("NightHours$Quarrelling", "ringFresh", "Z", false)
  | 10 => ("NightHours$Quarrelling", "spent", "Z", false)
  | _ => ("NightHours$Quarrelling", "tight", "Z", false)
def tyX6 : Nat → FieldType := fun k => match k with
  | 0 => .object "NightHours$Going"
  | 1 => .array .boolean
  | 2 => .array .int
  | 3 => .array .int
  | 4 => .int
  | 5 => .int
  | 6 => .array .int
  | 7 => .int
  | 8 => .boolean
  | 9 => .boolean
  | 10 => .boolean
  | _ => .boolean
abbrev wsX60 : List Cond := u_ws RX6 TX6 12
theorem nmX6 : ∀ a, a < 12 → ∀ b, b < 12 → a ≠ b → (TX6 a).2.1 ≠ (TX6 b).2.1 := by decide +kernel
theorem tyX6_ok : ∀ k, k < 12 → parseFieldDescriptor (TX6 k).2.2.1 = some (tyX6 k) := by decide +kernel
abbrev cX6_init : ByteArray := prog_8_method_1_code
def yX6_init : MethodName := ⟨RX6, "<init>", "(LNightHours$Going;)V"⟩
abbrev cX6_isKnown : ByteArray := prog_8_method_2_code
def yX6_isKnown : MethodName := ⟨RX6, "isKnown", "(LNightHours$Told;LNightHours$Held;)Z"⟩
abbrev cX6_goThroughAll : ByteArray := prog_8_method_3_code
def yX6_goThroughAll : MethodName := ⟨RX6, "goThroughAll", "(LNightHours$Told;LNightHours$Held;I)Z"⟩
abbrev cX6_listSets : ByteArray := prog_8_method_4_code
def yX6_listSets : MethodName := ⟨RX6, "listSets", "(II)V"⟩
abbrev cX6_isQuarrel : ByteArray := prog_8_method_5_code
def yX6_isQuarrel : MethodName := ⟨RX6, "isQuarrel", "(I)Z"⟩
abbrev cX6_isGivingUp : ByteArray := prog_8_method_6_code
def yX6_isGivingUp : MethodName := ⟨RX6, "isGivingUp", "(II)Z"⟩
abbrev cX6_isTight : ByteArray := prog_8_method_7_code
def yX6_isTight : MethodName := ⟨RX6, "isTight", "(LNightHours$Told;LNightHours$Held;)Z"⟩
abbrev cX6_holdTogether : ByteArray := prog_8_method_8_code
def yX6_holdTogether : MethodName := ⟨RX6, "holdTogether", "(LNightHours$Held;J)Z"⟩
abbrev cX6_itemOf : ByteArray := prog_8_method_9_code
def yX6_itemOf : MethodName := ⟨RX6, "itemOf", "(I)I"⟩
abbrev cX6_listRing : ByteArray := prog_8_method_10_code
def yX6_listRing : MethodName := ⟨RX6, "listRing", "(LNightHours$Held;)V"⟩
abbrev cX6_cheapestGiving : ByteArray := prog_8_method_11_code
def yX6_cheapestGiving : MethodName := ⟨RX6, "cheapestGiving", "(LNightHours$Told;)I"⟩
def RX7 : String := "NightHours$Reader"
def TX7 : u_T := fun k => match k with
  | 0 => ("NightHours$Reader", "tokens", "LNightHours$Tokens;", true)
  | 1 => ("NightHours$Reader", "grammar", "LNightHours$Grammar;", true)
  | 2 => ("NightHours$Reader", "names", "[J", true)
  | 3 => ("NightHours$Reader", "nameKind", "[I", true)
  | 4 => ("NightHours$Reader", "nameNumber", "[I", true)
  | 5 => ("NightHours$Reader", "nameCount", "I", false)
  | 6 => ("NightHours$Reader", "into", "LNightHours$Told;", false)
  | 7 => ("NightHours$Reader", "tell", "I", false)
  | 8 => ("NightHours$Reader", "x", "I", false)
  | 9 => ("NightHours$Reader", "y", "I", false)
  | 10 => ("NightHours$Reader", "low", "I", false)
  | 11 => ("NightHours$Reader", "sign", "I", false)
  | _ => ("NightHours$Reader", "faultPlace", "I", false)
def tyX7 : Nat → FieldType := fun k => match k with
  | 0 => .object "NightHours$Tokens"
  | 1 => .object "NightHours$Grammar"
  | 2 => .array .long
  | 3 => .array .int
  | 4 => .array .int
  | 5 => .int
  | 6 => .object "NightHours$Told"
  | 7 => .int
  | 8 => .int
  | 9 => .int
  | 10 => .int
  | 11 => .int
  | _ => .int
abbrev wsX70 : List Cond := u_ws RX7 TX7 13
theorem nmX7 : ∀ a, a < 13 → ∀ b, b < 13 → a ≠ b → (TX7 a).2.1 ≠ (TX7 b).2.1 := by decide +kernel
theorem tyX7_ok : ∀ k, k < 13 → parseFieldDescriptor (TX7 k).2.2.1 = some (tyX7 k) := by decide +kernel
abbrev cX7_init : ByteArray := prog_9_method_1_code
def yX7_init : MethodName := ⟨RX7, "<init>", "()V"⟩
abbrev cX7_readTape : ByteArray := prog_9_method_2_code
def yX7_readTape : MethodName := ⟨RX7, "readTape", "([BI)I"⟩
abbrev cX7_changePlaces : ByteArray := prog_9_method_3_code
def yX7_changePlaces : MethodName := ⟨RX7, "changePlaces", "(LNightHours$Told;)LNightHours$Told;"⟩
abbrev cX7_syntaxFault : ByteArray := prog_9_method_4_code
def yX7_syntaxFault : MethodName := ⟨RX7, "syntaxFault", "()I"⟩
abbrev cX7_meaningFault : ByteArray := prog_9_method_5_code
def yX7_meaningFault : MethodName := ⟨RX7, "meaningFault", "()I"⟩
abbrev cX7_take : ByteArray := prog_9_method_6_code
def yX7_take : MethodName := ⟨RX7, "take", "(IIJ)I"⟩
abbrev cX7_takeNew : ByteArray := prog_9_method_7_code
def yX7_takeNew : MethodName := ⟨RX7, "takeNew", "(J)I"⟩
abbrev cX7_numberNew : ByteArray := prog_9_method_8_code
def yX7_numberNew : MethodName := ⟨RX7, "numberNew", "(I)I"⟩
abbrev cX7_addSaying : ByteArray := prog_9_method_9_code
def yX7_addSaying : MethodName := ⟨RX7, "addSaying", "()I"⟩
abbrev cX7_find : ByteArray := prog_9_method_10_code
def yX7_find : MethodName := ⟨RX7, "find", "(JI)I"⟩
abbrev cX7_takePath : ByteArray := prog_9_method_11_code
def yX7_takePath : MethodName := ⟨RX7, "takePath", "(IJ)I"⟩
abbrev cX7_takeWhere : ByteArray := prog_9_method_12_code
def yX7_takeWhere : MethodName := ⟨RX7, "takeWhere", "(IJ)I"⟩
abbrev cX7_takeOpen : ByteArray := prog_9_method_13_code
def yX7_takeOpen : MethodName := ⟨RX7, "takeOpen", "(IJ)I"⟩
abbrev cX7_takeSpanTime : ByteArray := prog_9_method_14_code
def yX7_takeSpanTime : MethodName := ⟨RX7, "takeSpanTime", "(IJ)I"⟩
abbrev cX7_takeJoin : ByteArray := prog_9_method_15_code
def yX7_takeJoin : MethodName := ⟨RX7, "takeJoin", "(I)V"⟩
abbrev cX7_takeTrust : ByteArray := prog_9_method_16_code
def yX7_takeTrust : MethodName := ⟨RX7, "takeTrust", "(I)I"⟩
abbrev cX7_takeInt : ByteArray := prog_9_method_17_code
def yX7_takeInt : MethodName := ⟨RX7, "takeInt", "(III)I"⟩
abbrev cX7_endPathOrOpen : ByteArray := prog_9_method_18_code
def yX7_endPathOrOpen : MethodName := ⟨RX7, "endPathOrOpen", "(I)V"⟩
abbrev cX7_endSpan : ByteArray := prog_9_method_19_code
def yX7_endSpan : MethodName := ⟨RX7, "endSpan", "(I)V"⟩
def RX8 : String := "NightHours$Spans"
def TX8 : u_T := fun k => match k with
  | 0 => ("NightHours$Spans", "x", "[I", true)
  | 1 => ("NightHours$Spans", "y", "[I", true)
  | 2 => ("NightHours$Spans", "low", "[I", true)
  | _ => ("NightHours$Spans", "high", "[I", true)
def tyX8 : Nat → FieldType := fun k => match k with
  | 0 => .array .int
  | 1 => .array .int
  | 2 => .array .int
  | _ => .array .int
abbrev wsX80 : List Cond := u_ws RX8 TX8 4
theorem nmX8 : ∀ a, a < 4 → ∀ b, b < 4 → a ≠ b → (TX8 a).2.1 ≠ (TX8 b).2.1 := by decide +kernel
theorem tyX8_ok : ∀ k, k < 4 → parseFieldDescriptor (TX8 k).2.2.1 = some (tyX8 k) := by decide +kernel
abbrev cX8_init : ByteArray := prog_10_method_1_code
def yX8_init : MethodName := ⟨RX8, "<init>", "(I)V"⟩
abbrev cX8_put : ByteArray := prog_10_method_2_code
def yX8_put : MethodName := ⟨RX8, "put", "(III)V"⟩
abbrev cX8_bound : ByteArray := prog_10_method_3_code
def yX8_bound : MethodName := ⟨RX8, "bound", "(III)V"⟩
abbrev cX8_isSet : ByteArray := prog_10_method_4_code
def yX8_isSet : MethodName := ⟨RX8, "isSet", "(I[I)Z"⟩
abbrev cX8_holds : ByteArray := prog_10_method_5_code
def yX8_holds : MethodName := ⟨RX8, "holds", "(I[I)Z"⟩
def RX9 : String := "NightHours$Tokens"
def TX9 : u_T := fun k => match k with
  | 0 => ("NightHours$Tokens", "kind", "[I", true)
  | 1 => ("NightHours$Tokens", "place", "[I", true)
  | 2 => ("NightHours$Tokens", "value", "[J", true)
  | _ => ("NightHours$Tokens", "count", "I", false)
def tyX9 : Nat → FieldType := fun k => match k with
  | 0 => .array .int
  | 1 => .array .int
  | 2 => .array .long
  | _ => .int
abbrev wsX90 : List Cond := u_ws RX9 TX9 4
theorem nmX9 : ∀ a, a < 4 → ∀ b, b < 4 → a ≠ b → (TX9 a).2.1 ≠ (TX9 b).2.1 := by decide +kernel
theorem tyX9_ok : ∀ k, k < 4 → parseFieldDescriptor (TX9 k).2.2.1 = some (tyX9 k) := by decide +kernel
abbrev cX9_init : ByteArray := prog_11_method_1_code
def yX9_init : MethodName := ⟨RX9, "<init>", "()V"⟩
abbrev cX9_scan : ByteArray := prog_11_method_2_code
def yX9_scan : MethodName := ⟨RX9, "scan", "([BI)V"⟩
abbrev cX9_scanOne : ByteArray := prog_11_method_3_code
def yX9_scanOne : MethodName := ⟨RX9, "scanOne", "([BII)I"⟩
abbrev cX9_endOfLetters : ByteArray := prog_11_method_4_code
def yX9_endOfLetters : MethodName := ⟨RX9, "endOfLetters", "([BII)I"⟩
abbrev cX9_endOfDigits : ByteArray := prog_11_method_5_code
def yX9_endOfDigits : MethodName := ⟨RX9, "endOfDigits", "([BII)I"⟩
abbrev cX9_wordOrName : ByteArray := prog_11_method_6_code
def yX9_wordOrName : MethodName := ⟨RX9, "wordOrName", "(J)I"⟩
abbrev cX9_sign : ByteArray := prog_11_method_7_code
def yX9_sign : MethodName := ⟨RX9, "sign", "(B)I"⟩
abbrev cX9_isBlank : ByteArray := prog_11_method_8_code
def yX9_isBlank : MethodName := ⟨RX9, "isBlank", "(B)Z"⟩
abbrev cX9_isLetter : ByteArray := prog_11_method_9_code
def yX9_isLetter : MethodName := ⟨RX9, "isLetter", "(B)Z"⟩
abbrev cX9_isDigit : ByteArray := prog_11_method_10_code
def yX9_isDigit : MethodName := ⟨RX9, "isDigit", "(B)Z"⟩
def RX10 : String := "NightHours$Told"
def TX10 : u_T := fun k => match k with
  | 0 => ("NightHours$Told", "persons", "I", false)
  | 1 => ("NightHours$Told", "places", "I", false)
  | 2 => ("NightHours$Told", "times", "I", false)
  | 3 => ("NightHours$Told", "sayings", "I", false)
  | 4 => ("NightHours$Told", "questions", "I", false)
  | 5 => ("NightHours$Told", "moves", "I", false)
  | 6 => ("NightHours$Told", "sureBits", "I", false)
  | 7 => ("NightHours$Told", "walks", "[I", true)
  | 8 => ("NightHours$Told", "timePerson", "[I", true)
  | 9 => ("NightHours$Told", "timePlace", "[I", true)
  | 10 => ("NightHours$Told", "opens", "LNightHours$Spans;", true)
  | 11 => ("NightHours$Told", "trust", "[I", true)
  | 12 => ("NightHours$Told", "choices", "[I", true)
  | 13 => ("NightHours$Told", "parts", "[I", true)
  | 14 => ("NightHours$Told", "spans", "LNightHours$Spans;", true)
  | 15 => ("NightHours$Told", "asked", "LNightHours$Spans;", true)
  | 16 => ("NightHours$Told", "moveLesser", "[I", true)
  | 17 => ("NightHours$Told", "moveGreater", "[I", true)
  | _ => ("NightHours$Told", "moveWalk", "[I", true)
def tyX10 : Nat → FieldType := fun k => match k with
  | 0 => .int
  | 1 => .int
  | 2 => .int
  | 3 => .int
  | 4 => .int
  | 5 => .int
  | 6 => .int
  | 7 => .array .int
  | 8 => .array .int
  | 9 => .array .int
  | 10 => .object "NightHours$Spans"
  | 11 => .array .int
  | 12 => .array .int
  | 13 => .array .int
  | 14 => .object "NightHours$Spans"
  | 15 => .object "NightHours$Spans"
  | 16 => .array .int
  | 17 => .array .int
  | _ => .array .int
abbrev wsX100 : List Cond := u_ws RX10 TX10 19
theorem nmX10 : ∀ a, a < 19 → ∀ b, b < 19 → a ≠ b → (TX10 a).2.1 ≠ (TX10 b).2.1 := by decide +kernel
theorem tyX10_ok : ∀ k, k < 19 → parseFieldDescriptor (TX10 k).2.2.1 = some (tyX10 k) := by decide +kernel
abbrev cX10_init : ByteArray := prog_12_method_1_code
def yX10_init : MethodName := ⟨RX10, "<init>", "()V"⟩
abbrev cX10_clear : ByteArray := prog_12_method_2_code
def yX10_clear : MethodName := ⟨RX10, "clear", "()V"⟩
abbrev cX10_allBits : ByteArray := prog_12_method_3_code
def yX10_allBits : MethodName := ⟨RX10, "allBits", "()I"⟩
abbrev cX10_firstSpan : ByteArray := prog_12_method_4_code
def yX10_firstSpan : MethodName := ⟨RX10, "firstSpan", "(II)I"⟩
abbrev cX10_partsOf : ByteArray := prog_12_method_5_code
def yX10_partsOf : MethodName := ⟨RX10, "partsOf", "(II)I"⟩
abbrev cX10_walkBetween : ByteArray := prog_12_method_6_code
def yX10_walkBetween : MethodName := ⟨RX10, "walkBetween", "(II)I"⟩
abbrev cX10_trustOf : ByteArray := prog_12_method_7_code
def yX10_trustOf : MethodName := ⟨RX10, "trustOf", "(I)I"⟩
abbrev cX10_addPath : ByteArray := prog_12_method_8_code
def yX10_addPath : MethodName := ⟨RX10, "addPath", "(III)V"⟩
abbrev cX10_findWalks : ByteArray := prog_12_method_9_code
def yX10_findWalks : MethodName := ⟨RX10, "findWalks", "()V"⟩
abbrev cX10_findMoves : ByteArray := prog_12_method_10_code
def yX10_findMoves : MethodName := ⟨RX10, "findMoves", "()V"⟩
def RX11 : String := "NightHours"
def TX11 : u_T := fun k => match k with
  | 0 => ("NightHours", "tape", "[B", true)
  | 1 => ("NightHours", "reader", "LNightHours$Reader;", true)
  | 2 => ("NightHours", "held", "LNightHours$Held;", true)
  | 3 => ("NightHours", "book", "LNightHours$Book;", true)
  | 4 => ("NightHours", "all", "LNightHours$Going;", true)
  | 5 => ("NightHours", "hard", "LNightHours$Going;", true)
  | 6 => ("NightHours", "side", "LNightHours$Going;", true)
  | 7 => ("NightHours", "quarrelling", "LNightHours$Quarrelling;", true)
  | 8 => ("NightHours", "asking", "LNightHours$Asking;", true)
  | 9 => ("NightHours", "told", "LNightHours$Told;", false)
  | 10 => ("NightHours", "bytes", "I", false)
  | 11 => ("NightHours", "faultPlace", "I", false)
  | 12 => ("NightHours", "allFresh", "Z", false)
  | _ => ("NightHours", "hardFresh", "Z", false)
def tyX11 : Nat → FieldType := fun k => match k with
  | 0 => .array .byte
  | 1 => .object "NightHours$Reader"
  | 2 => .object "NightHours$Held"
  | 3 => .object "NightHours$Book"
  | 4 => .object "NightHours$Going"
  | 5 => .object "NightHours$Going"
  | 6 => .object "NightHours$Going"
  | 7 => .object "NightHours$Quarrelling"
  | 8 => .object "NightHours$Asking"
  | 9 => .object "NightHours$Told"
  | 10 => .int
  | 11 => .int
  | 12 => .boolean
  | _ => .boolean
abbrev wsX110 : List Cond := u_ws RX11 TX11 14
theorem nmX11 : ∀ a, a < 14 → ∀ b, b < 14 → a ≠ b → (TX11 a).2.1 ≠ (TX11 b).2.1 := by decide +kernel
theorem tyX11_ok : ∀ k, k < 14 → parseFieldDescriptor (TX11 k).2.2.1 = some (tyX11 k) := by decide +kernel
abbrev cX11_init : ByteArray := prog_1_method_1_code
def yX11_init : MethodName := ⟨RX11, "<init>", "()V"⟩
abbrev cX11_feed : ByteArray := prog_1_method_2_code
def yX11_feed : MethodName := ⟨RX11, "feed", "(IIIII)I"⟩
abbrev cX11_putFour : ByteArray := prog_1_method_3_code
def yX11_putFour : MethodName := ⟨RX11, "putFour", "(I)V"⟩
abbrev cX11_back : ByteArray := prog_1_method_4_code
def yX11_back : MethodName := ⟨RX11, "back", "(I)I"⟩
abbrev cX11_read : ByteArray := prog_1_method_5_code
def yX11_read : MethodName := ⟨RX11, "read", "()I"⟩
abbrev cX11_stale : ByteArray := prog_1_method_6_code
def yX11_stale : MethodName := ⟨RX11, "stale", "()V"⟩
abbrev cX11_place : ByteArray := prog_1_method_7_code
def yX11_place : MethodName := ⟨RX11, "place", "()I"⟩
abbrev cX11_doubt : ByteArray := prog_1_method_8_code
def yX11_doubt : MethodName := ⟨RX11, "doubt", "(IZ)Z"⟩
abbrev cX11_isSaying : ByteArray := prog_1_method_9_code
def yX11_isSaying : MethodName := ⟨RX11, "isSaying", "(I)Z"⟩
abbrev cX11_isSay : ByteArray := prog_1_method_10_code
def yX11_isSay : MethodName := ⟨RX11, "isSay", "(I)Z"⟩
abbrev cX11_isDoubted : ByteArray := prog_1_method_11_code
def yX11_isDoubted : MethodName := ⟨RX11, "isDoubted", "(I)Z"⟩
abbrev cX11_isTime : ByteArray := prog_1_method_12_code
def yX11_isTime : MethodName := ⟨RX11, "isTime", "(I)Z"⟩
abbrev cX11_isPlace : ByteArray := prog_1_method_13_code
def yX11_isPlace : MethodName := ⟨RX11, "isPlace", "(I)Z"⟩
abbrev cX11_isPerson : ByteArray := prog_1_method_14_code
def yX11_isPerson : MethodName := ⟨RX11, "isPerson", "(I)Z"⟩
abbrev cX11_isMinute : ByteArray := prog_1_method_15_code
def yX11_isMinute : MethodName := ⟨RX11, "isMinute", "(I)Z"⟩
abbrev cX11_walk : ByteArray := prog_1_method_16_code
def yX11_walk : MethodName := ⟨RX11, "walk", "(II)I"⟩
abbrev cX11_move : ByteArray := prog_1_method_17_code
def yX11_move : MethodName := ⟨RX11, "move", "(II)I"⟩
abbrev cX11_isGoneThrough : ByteArray := prog_1_method_18_code
def yX11_isGoneThrough : MethodName := ⟨RX11, "isGoneThrough", "()Z"⟩
abbrev cX11_levelOf : ByteArray := prog_1_method_19_code
def yX11_levelOf : MethodName := ⟨RX11, "levelOf", "(I)I"⟩
abbrev cX11_ways : ByteArray := prog_1_method_20_code
def yX11_ways : MethodName := ⟨RX11, "ways", "()I"⟩
abbrev cX11_choice : ByteArray := prog_1_method_21_code
def yX11_choice : MethodName := ⟨RX11, "choice", "(II)I"⟩
abbrev cX11_goes : ByteArray := prog_1_method_22_code
def yX11_goes : MethodName := ⟨RX11, "goes", "(II)I"⟩
abbrev cX11_hour : ByteArray := prog_1_method_23_code
def yX11_hour : MethodName := ⟨RX11, "hour", "(IIZ)I"⟩
abbrev cX11_gap : ByteArray := prog_1_method_24_code
def yX11_gap : MethodName := ⟨RX11, "gap", "(IIIZ)I"⟩
abbrev cX11_ends : ByteArray := prog_1_method_25_code
def yX11_ends : MethodName := ⟨RX11, "ends", "(IZ)I"⟩
abbrev cX11_can : ByteArray := prog_1_method_26_code
def yX11_can : MethodName := ⟨RX11, "can", "(II)I"⟩
abbrev cX11_forced : ByteArray := prog_1_method_27_code
def yX11_forced : MethodName := ⟨RX11, "forced", "(I)I"⟩
abbrev cX11_set : ByteArray := prog_1_method_28_code
def yX11_set : MethodName := ⟨RX11, "set", "(II)Z"⟩
abbrev cX11_bears : ByteArray := prog_1_method_29_code
def yX11_bears : MethodName := ⟨RX11, "bears", "(I)I"⟩
abbrev cX11_breaks : ByteArray := prog_1_method_30_code
def yX11_breaks : MethodName := ⟨RX11, "breaks", "()I"⟩
abbrev cX11_quarrels : ByteArray := prog_1_method_31_code
def yX11_quarrels : MethodName := ⟨RX11, "quarrels", "()I"⟩
abbrev cX11_quarrel : ByteArray := prog_1_method_32_code
def yX11_quarrel : MethodName := ⟨RX11, "quarrel", "(I)I"⟩
abbrev cX11_givingUps : ByteArray := prog_1_method_33_code
def yX11_givingUps : MethodName := ⟨RX11, "givingUps", "()I"⟩
abbrev cX11_givingUp : ByteArray := prog_1_method_34_code
def yX11_givingUp : MethodName := ⟨RX11, "givingUp", "(I)I"⟩
abbrev cX11_cheapest : ByteArray := prog_1_method_35_code
def yX11_cheapest : MethodName := ⟨RX11, "cheapest", "()I"⟩
abbrev cX11_price : ByteArray := prog_1_method_36_code
def yX11_price : MethodName := ⟨RX11, "price", "()I"⟩
abbrev cX11_pick : ByteArray := prog_1_method_37_code
def yX11_pick : MethodName := ⟨RX11, "pick", "(II)Z"⟩
abbrev cX11_stands : ByteArray := prog_1_method_38_code
def yX11_stands : MethodName := ⟨RX11, "stands", "()I"⟩
abbrev cX11_ring : ByteArray := prog_1_method_39_code
def yX11_ring : MethodName := ⟨RX11, "ring", "()I"⟩
abbrev cX11_ringAt : ByteArray := prog_1_method_40_code
def yX11_ringAt : MethodName := ⟨RX11, "ringAt", "(I)I"⟩
abbrev cX11_could : ByteArray := prog_1_method_41_code
def yX11_could : MethodName := ⟨RX11, "could", "(IIII)I"⟩
abbrev cX11_goWithGuest : ByteArray := prog_1_method_42_code
def yX11_goWithGuest : MethodName := ⟨RX11, "goWithGuest", "(IIII)V"⟩
abbrev cX11_been : ByteArray := prog_1_method_43_code
def yX11_been : MethodName := ⟨RX11, "been", "(IIZ)I"⟩
abbrev cX11_ask : ByteArray := prog_1_method_44_code
def yX11_ask : MethodName := ⟨RX11, "ask", "(IZ)I"⟩
abbrev cX11_next : ByteArray := prog_1_method_45_code
def yX11_next : MethodName := ⟨RX11, "next", "()I"⟩
abbrev cX11_left : ByteArray := prog_1_method_46_code
def yX11_left : MethodName := ⟨RX11, "left", "(II)I"⟩
abbrev cX11_planTo : ByteArray := prog_1_method_47_code
def yX11_planTo : MethodName := ⟨RX11, "planTo", "(I)I"⟩
abbrev cX11_plan : ByteArray := prog_1_method_48_code
def yX11_plan : MethodName := ⟨RX11, "plan", "(I)I"⟩
abbrev cX11_first : ByteArray := prog_1_method_49_code
def yX11_first : MethodName := ⟨RX11, "first", "(I)I"⟩
abbrev cX11_more : ByteArray := prog_1_method_50_code
def yX11_more : MethodName := ⟨RX11, "more", "(IIII)I"⟩
abbrev cX11_fewer : ByteArray := prog_1_method_51_code
def yX11_fewer : MethodName := ⟨RX11, "fewer", "()I"⟩
abbrev cX11_tried : ByteArray := prog_1_method_52_code
def yX11_tried : MethodName := ⟨RX11, "tried", "(II)I"⟩
abbrev cX11_setWays : ByteArray := prog_1_method_53_code
def yX11_setWays : MethodName := ⟨RX11, "setWays", "()I"⟩
abbrev cX11_slack : ByteArray := prog_1_method_54_code
def yX11_slack : MethodName := ⟨RX11, "slack", "(IIZ)I"⟩
abbrev cX11_drawn : ByteArray := prog_1_method_55_code
def yX11_drawn : MethodName := ⟨RX11, "drawn", "(III)I"⟩
abbrev cX11_whereAt : ByteArray := prog_1_method_56_code
def yX11_whereAt : MethodName := ⟨RX11, "whereAt", "(III)I"⟩
abbrev cX11_give : ByteArray := prog_1_method_57_code
def yX11_give : MethodName := ⟨RX11, "give", "()I"⟩
abbrev cX11_alone : ByteArray := prog_1_method_58_code
def yX11_alone : MethodName := ⟨RX11, "alone", "(I)I"⟩
abbrev cX11_leastGive : ByteArray := prog_1_method_59_code
def yX11_leastGive : MethodName := ⟨RX11, "leastGive", "(I)I"⟩
abbrev cX11_isKept : ByteArray := prog_1_method_60_code
def yX11_isKept : MethodName := ⟨RX11, "isKept", "(I)Z"⟩
abbrev cX11_kept : ByteArray := prog_1_method_61_code
def yX11_kept : MethodName := ⟨RX11, "kept", "(I)I"⟩
abbrev cX11_keep : ByteArray := prog_1_method_62_code
def yX11_keep : MethodName := ⟨RX11, "keep", "()I"⟩
abbrev cX11_hand : ByteArray := prog_1_method_63_code
def yX11_hand : MethodName := ⟨RX11, "hand", "(II)I"⟩
abbrev cX11_count : ByteArray := prog_1_method_64_code
def yX11_count : MethodName := ⟨RX11, "count", "(I)I"⟩
def RX12 : String := "NightHoursModel"
def TX12 : u_T := fun k => match k with
  | 0 => ("NightHoursModel", "thrown", "I", false)
  | 1 => ("NightHoursModel", "tape", "[B", true)
  | 2 => ("NightHoursModel", "taped", "I", false)
  | 3 => ("NightHoursModel", "text", "[B", true)
  | 4 => ("NightHoursModel", "size", "I", false)
  | 5 => ("NightHoursModel", "tKind", "[I", true)
  | 6 => ("NightHoursModel", "tPlace", "[I", true)
  | 7 => ("NightHoursModel", "tValue", "[I", true)
  | 8 => ("NightHoursModel", "tName", "[J", true)
  | 9 => ("NightHoursModel", "keys", "[J", true)
  | 10 => ("NightHoursModel", "tokens", "I", false)
  | 11 => ("NightHoursModel", "t", "I", false)
  | 12 => ("NightHoursModel", "open", "I", false)
  | 13 => ("NightHoursModel", "fault", "I", false)
  | 14 => ("NightHoursModel", "faultPlace", "I", false)
  | 15 => ("NightHoursModel", "worst", "I", false)
  | 16 => ("NightHoursModel", "worstPlace", "I", false)
  | 17 => ("NightHoursModel", "place", "I", false)
  | 18 => ("NightHoursModel", "live", "I", false)
  | 19 => ("NightHoursModel", "side", "I", false)
  | 20 => ("NightHoursModel", "names", "I", false)
  | 21 => ("NightHoursModel", "nameOf", "[J", true)
  | 22 => ("NightHoursModel", "nameSort", "[I", true)
  | 23 => ("NightHoursModel", "nameAt", "[I", true)
  | 24 => ("NightHoursModel", "persons", "[I", true)
  | 25 => ("NightHoursModel", "places", "[I", true)
  | 26 => ("NightHoursModel", "waysTold", "[I", true)
  | 27 => ("NightHoursModel", "wayOf", "[I", true)
  | 28 => ("NightHoursModel", "times", "[I", true)
  | 29 => ("NightHoursModel", "personOf", "[I", true)
  | 30 => ("NightHoursModel", "placeOf", "[I", true)
  | 31 => ("NightHoursModel", "sayings", "[I", true)
  | 32 => ("NightHoursModel", "isSure", "[Z", true)
  | 33 => ("NightHoursModel", "trustOf", "[I", true)
  | 34 => ("NightHoursModel", "alls", "[I", true)
  | 35 => ("NightHoursModel", "spans", "[I", true)
  | 36 => ("NightHoursModel", "spanX", "[I", true)
  | 37 => ("NightHoursModel", "spanY", "[I", true)
  | 38 => ("NightHoursModel", "spanA", "[I", true)
  | 39 => ("NightHoursModel", "spanB", "[I", true)
  | 40 => ("NightHoursModel", "opens", "[I", true)
  | 41 => ("NightHoursModel", "openOf", "[I", true)
  | 42 => ("NightHoursModel", "questions", "[I", true)
  | 43 => ("NightHoursModel", "isDoubted", "[Z", true)
  | 44 => ("NightHoursModel", "setAt", "[I", true)
  | 45 => ("NightHoursModel", "walkOf", "[I", true)
  | 46 => ("NightHoursModel", "moves", "I", false)
  | 47 => ("NightHoursModel", "moveA", "[I", true)
  | 48 => ("NightHoursModel", "moveB", "[I", true)
  | 49 => ("NightHoursModel", "moveWalk", "[I", true)
  | 50 => ("NightHoursModel", "far", "[I", true)
  | 51 => ("NightHoursModel", "nodes", "I", false)
  | 52 => ("NightHoursModel", "page", "I", false)
  | 53 => ("NightHoursModel", "isHand", "Z", false)
  | 54 => ("NightHoursModel", "mores", "I", false)
  | 55 => ("NightHoursModel", "moreX", "[I", true)
  | 56 => ("NightHoursModel", "moreY", "[I", true)
  | 57 => ("NightHoursModel", "moreA", "[I", true)
  | 58 => ("NightHoursModel", "moreB", "[I", true)
  | 59 => ("NightHoursModel", "items", "I", false)
  | 60 => ("NightHoursModel", "itemOf", "[I", true)
  | 61 => ("NightHoursModel", "chosen", "[I", true)
  | 62 => ("NightHoursModel", "nextChoice", "[I", true)
  | 63 => ("NightHoursModel", "tries", "I", false)
  | 64 => ("NightHoursModel", "isSpent", "Z", false)
  | 65 => ("NightHoursModel", "extraOf", "[I", true)
  | 66 => ("NightHoursModel", "extraWalk", "[I", true)
  | 67 => ("NightHoursModel", "extras", "I", false)
  | 68 => ("NightHoursModel", "giveSet", "I", false)
  | 69 => ("NightHoursModel", "giveBy", "I", false)
  | 70 => ("NightHoursModel", "isGone", "Z", false)
  | 71 => ("NightHoursModel", "isAllSpent", "Z", false)
  | 72 => ("NightHoursModel", "allTries", "I", false)
  | 73 => ("NightHoursModel", "ways", "I", false)
  | 74 => ("NightHoursModel", "wayItems", "I", false)
  | 75 => ("NightHoursModel", "wayChoice", "[B", true)
  | 76 => ("NightHoursModel", "triedItem", "[B", true)
  | 77 => ("NightHoursModel", "triedChoice", "[B", true)
  | 78 => ("NightHoursModel", "triedCan", "[Z", true)
  | 79 => ("NightHoursModel", "isSetsDone", "Z", false)
  | 80 => ("NightHoursModel", "isSetsSpent", "Z", false)
  | 81 => ("NightHoursModel", "hasWayOf", "[Z", true)
  | 82 => ("NightHoursModel", "quarrelMany", "I", false)
  | 83 => ("NightHoursModel", "quarrelOf", "[I", true)
  | 84 => ("NightHoursModel", "givingMany", "I", false)
  | 85 => ("NightHoursModel", "givingOf", "[I", true)
  | 86 => ("NightHoursModel", "picked", "[I", true)
  | 87 => ("NightHoursModel", "ringMany", "I", false)
  | 88 => ("NightHoursModel", "ringOf", "[I", true)
  | 89 => ("NightHoursModel", "isOut", "[Z", true)
  | 90 => ("NightHoursModel", "isBeen", "Z", false)
  | 91 => ("NightHoursModel", "beenLeast", "I", false)
  | 92 => ("NightHoursModel", "beenMost", "I", false)
  | 93 => ("NightHoursModel", "leftBy", "[I", true)
  | 94 => ("NightHoursModel", "planBy", "[I", true)
  | 95 => ("NightHoursModel", "power", "[I", true)
  | _ => ("NightHoursModel", "firstAsked", "I", false)
def tyX12 : Nat → FieldType := fun k => match k with
  | 0 => .int
  | 1 => .array .byte
  | 2 => .int
  | 3 => .array .byte
  | 4 => .int
  | 5 => .array .int
  | 6 => .array .int
  | 7 => .array .int
  | 8 => .array .long
  | 9 => .array .long
  | 10 => .int
  | 11 => .int
  | 12 => .int
  | 13 => .int
  | 14 => .int
  | 15 => .int
  | 16 => .int
  | 17 => .int
  | 18 => .int
  | 19 => .int
  | 20 => .int
  | 21 => .array .long
  | 22 => .array .int
  | 23 => .array .int
  | 24 => .array .int
  | 25 => .array .int
  | 26 => .array .int
  | 27 => .array .int
  | 28 => .array .int
  | 29 => .array .int
  | 30 => .array .int
  | 31 => .array .int
  | 32 => .array .boolean
  | 33 => .array .int
  | 34 => .array .int
  | 35 => .array .int
  | 36 => .array .int
  | 37 => .array .int
  | 38 => .array .int
  | 39 => .array .int
  | 40 => .array .int
  | 41 => .array .int
  | 42 => .array .int
  | 43 => .array .boolean
  | 44 => .array .int
  | 45 => .array .int
  | 46 => .int
  | 47 => .array .int
  | 48 => .array .int
  | 49 => .array .int
  | 50 => .array .int
  | 51 => .int
  | 52 => .int
  | 53 => .boolean
  | 54 => .int
  | 55 => .array .int
  | 56 => .array .int
  | 57 => .array .int
  | 58 => .array .int
  | 59 => .int
  | 60 => .array .int
  | 61 => .array .int
  | 62 => .array .int
  | 63 => .int
  | 64 => .boolean
  | 65 => .array .int
  | 66 => .array .int
  | 67 => .int
  | 68 => .int
  | 69 => .int
  | 70 => .boolean
  | 71 => .boolean
  | 72 => .int
  | 73 => .int
  | 74 => .int
  | 75 => .array .byte
  | 76 => .array .byte
  | 77 => .array .byte
  | 78 => .array .boolean
  | 79 => .boolean
  | 80 => .boolean
  | 81 => .array .boolean
  | 82 => .int
  | 83 => .array .int
  | 84 => .int
  | 85 => .array .int
  | 86 => .array .int
  | 87 => .int
  | 88 => .array .int
  | 89 => .array .boolean
  | 90 => .boolean
  | 91 => .int
  | 92 => .int
  | 93 => .array .int
  | 94 => .array .int
  | 95 => .array .int
  | _ => .int
abbrev wsX120 : List Cond := u_ws RX12 TX12 97
theorem nmX12 : ∀ a, a < 97 → ∀ b, b < 97 → a ≠ b → (TX12 a).2.1 ≠ (TX12 b).2.1 := by decide +kernel
theorem tyX12_ok : ∀ k, k < 97 → parseFieldDescriptor (TX12 k).2.2.1 = some (tyX12 k) := by decide +kernel
abbrev cX12_init : ByteArray := prog_14_method_2_code
def yX12_init : MethodName := ⟨RX12, "<init>", "()V"⟩
abbrev cX12_feed : ByteArray := prog_14_method_3_code
def yX12_feed : MethodName := ⟨RX12, "feed", "(IIIII)I"⟩
abbrev cX12_put : ByteArray := prog_14_method_4_code
def yX12_put : MethodName := ⟨RX12, "put", "(I)V"⟩
abbrev cX12_back : ByteArray := prog_14_method_5_code
def yX12_back : MethodName := ⟨RX12, "back", "(I)I"⟩
abbrev cX12_byteAt : ByteArray := prog_14_method_6_code
def yX12_byteAt : MethodName := ⟨RX12, "byteAt", "(I)I"⟩
abbrev cX12_isDigit : ByteArray := prog_14_method_7_code
def yX12_isDigit : MethodName := ⟨RX12, "isDigit", "(I)Z"⟩
abbrev cX12_isLetter : ByteArray := prog_14_method_8_code
def yX12_isLetter : MethodName := ⟨RX12, "isLetter", "(I)Z"⟩
abbrev cX12_appends : ByteArray := prog_14_method_9_code
def yX12_appends : MethodName := ⟨RX12, "appends", "(JI)J"⟩
abbrev cX12_word : ByteArray := prog_14_method_10_code
def yX12_word : MethodName := ⟨RX12, "word", "(IIIIIII)J"⟩
abbrev cX12_token : ByteArray := prog_14_method_11_code
def yX12_token : MethodName := ⟨RX12, "token", "(IIIJ)V"⟩
abbrev cX12_cut : ByteArray := prog_14_method_12_code
def yX12_cut : MethodName := ⟨RX12, "cut", "()V"⟩
abbrev cX12_sign : ByteArray := prog_14_method_13_code
def yX12_sign : MethodName := ⟨RX12, "sign", "(I)I"⟩
abbrev cX12_is : ByteArray := prog_14_method_14_code
def yX12_is : MethodName := ⟨RX12, "is", "(I)Z"⟩
abbrev cX12_fail : ByteArray := prog_14_method_15_code
def yX12_fail : MethodName := ⟨RX12, "fail", "(I)V"⟩
abbrev cX12_wrong : ByteArray := prog_14_method_16_code
def yX12_wrong : MethodName := ⟨RX12, "wrong", "(II)V"⟩
abbrev cX12_goesOn : ByteArray := prog_14_method_17_code
def yX12_goesOn : MethodName := ⟨RX12, "goesOn", "()V"⟩
abbrev cX12_must : ByteArray := prog_14_method_18_code
def yX12_must : MethodName := ⟨RX12, "must", "(I)V"⟩
abbrev cX12_read : ByteArray := prog_14_method_19_code
def yX12_read : MethodName := ⟨RX12, "read", "()I"⟩
abbrev cX12_changes : ByteArray := prog_14_method_20_code
def yX12_changes : MethodName := ⟨RX12, "changes", "()V"⟩
abbrev cX12_place : ByteArray := prog_14_method_21_code
def yX12_place : MethodName := ⟨RX12, "place", "()I"⟩
abbrev cX12_tell : ByteArray := prog_14_method_22_code
def yX12_tell : MethodName := ⟨RX12, "tell", "()V"⟩
abbrev cX12_named : ByteArray := prog_14_method_23_code
def yX12_named : MethodName := ⟨RX12, "named", "()I"⟩
abbrev cX12_knows : ByteArray := prog_14_method_24_code
def yX12_knows : MethodName := ⟨RX12, "knows", "(III)V"⟩
abbrev cX12_known : ByteArray := prog_14_method_25_code
def yX12_known : MethodName := ⟨RX12, "known", "(I)I"⟩
abbrev cX12_number : ByteArray := prog_14_method_26_code
def yX12_number : MethodName := ⟨RX12, "number", "(Z)I"⟩
abbrev cX12_tellName : ByteArray := prog_14_method_27_code
def yX12_tellName : MethodName := ⟨RX12, "tellName", "(I)V"⟩
abbrev cX12_tellWay : ByteArray := prog_14_method_28_code
def yX12_tellWay : MethodName := ⟨RX12, "tellWay", "()V"⟩
abbrev cX12_tellTime : ByteArray := prog_14_method_29_code
def yX12_tellTime : MethodName := ⟨RX12, "tellTime", "()V"⟩
abbrev cX12_tellSpan : ByteArray := prog_14_method_30_code
def yX12_tellSpan : MethodName := ⟨RX12, "tellSpan", "(I)V"⟩
abbrev cX12_tellSaying : ByteArray := prog_14_method_31_code
def yX12_tellSaying : MethodName := ⟨RX12, "tellSaying", "()V"⟩
abbrev cX12_tellAll : ByteArray := prog_14_method_32_code
def yX12_tellAll : MethodName := ⟨RX12, "tellAll", "(I)V"⟩
abbrev cX12_tellOpen : ByteArray := prog_14_method_33_code
def yX12_tellOpen : MethodName := ⟨RX12, "tellOpen", "()V"⟩
abbrev cX12_tellQuestion : ByteArray := prog_14_method_34_code
def yX12_tellQuestion : MethodName := ⟨RX12, "tellQuestion", "()V"⟩
abbrev cX12_walks : ByteArray := prog_14_method_35_code
def yX12_walks : MethodName := ⟨RX12, "walks", "()V"⟩
abbrev cX12_meets : ByteArray := prog_14_method_36_code
def yX12_meets : MethodName := ⟨RX12, "meets", "()V"⟩
abbrev cX12_copies : ByteArray := prog_14_method_37_code
def yX12_copies : MethodName := ⟨RX12, "copies", "(II)V"⟩
abbrev cX12_bound : ByteArray := prog_14_method_38_code
def yX12_bound : MethodName := ⟨RX12, "bound", "(III)Z"⟩
abbrev cX12_openAt : ByteArray := prog_14_method_39_code
def yX12_openAt : MethodName := ⟨RX12, "openAt", "(I)I"⟩
abbrev cX12_atMost : ByteArray := prog_14_method_40_code
def yX12_atMost : MethodName := ⟨RX12, "atMost", "(III)Z"⟩
abbrev cX12_between : ByteArray := prog_14_method_41_code
def yX12_between : MethodName := ⟨RX12, "between", "(IIII)Z"⟩
abbrev cX12_holdsSpan : ByteArray := prog_14_method_42_code
def yX12_holdsSpan : MethodName := ⟨RX12, "holdsSpan", "(II)Z"⟩
abbrev cX12_begins : ByteArray := prog_14_method_43_code
def yX12_begins : MethodName := ⟨RX12, "begins", "(I)Z"⟩
abbrev cX12_more : ByteArray := prog_14_method_44_code
def yX12_more : MethodName := ⟨RX12, "more", "(IIII)I"⟩
abbrev cX12_fewer : ByteArray := prog_14_method_45_code
def yX12_fewer : MethodName := ⟨RX12, "fewer", "()I"⟩
abbrev cX12_choices : ByteArray := prog_14_method_46_code
def yX12_choices : MethodName := ⟨RX12, "choices", "(I)I"⟩
abbrev cX12_chooses : ByteArray := prog_14_method_47_code
def yX12_chooses : MethodName := ⟨RX12, "chooses", "(II)Z"⟩
abbrev cX12_lists : ByteArray := prog_14_method_48_code
def yX12_lists : MethodName := ⟨RX12, "lists", "(I)V"⟩
abbrev cX12_notes : ByteArray := prog_14_method_49_code
def yX12_notes : MethodName := ⟨RX12, "notes", "(IIZ)V"⟩
abbrev cX12_searches : ByteArray := prog_14_method_50_code
def yX12_searches : MethodName := ⟨RX12, "searches", "(Z)I"⟩
abbrev cX12_undoubted : ByteArray := prog_14_method_51_code
def yX12_undoubted : MethodName := ⟨RX12, "undoubted", "()I"⟩
abbrev cX12_goesAll : ByteArray := prog_14_method_52_code
def yX12_goesAll : MethodName := ⟨RX12, "goesAll", "()V"⟩
abbrev cX12_hasWay : ByteArray := prog_14_method_53_code
def yX12_hasWay : MethodName := ⟨RX12, "hasWay", "(I)Z"⟩
abbrev cX12_lays : ByteArray := prog_14_method_54_code
def yX12_lays : MethodName := ⟨RX12, "lays", "(IZ)Z"⟩
abbrev cX12_in : ByteArray := prog_14_method_55_code
def yX12_in : MethodName := ⟨RX12, "in", "(III)Z"⟩
abbrev cX12_isTime : ByteArray := prog_14_method_56_code
def yX12_isTime : MethodName := ⟨RX12, "isTime", "(I)Z"⟩
abbrev cX12_isSaying : ByteArray := prog_14_method_57_code
def yX12_isSaying : MethodName := ⟨RX12, "isSaying", "(I)Z"⟩
abbrev cX12_isMinute : ByteArray := prog_14_method_58_code
def yX12_isMinute : MethodName := ⟨RX12, "isMinute", "(I)Z"⟩
abbrev cX12_doubt : ByteArray := prog_14_method_59_code
def yX12_doubt : MethodName := ⟨RX12, "doubt", "(IZ)Z"⟩
abbrev cX12_walk : ByteArray := prog_14_method_60_code
def yX12_walk : MethodName := ⟨RX12, "walk", "(II)I"⟩
abbrev cX12_move : ByteArray := prog_14_method_61_code
def yX12_move : MethodName := ⟨RX12, "move", "(II)I"⟩
abbrev cX12_ways : ByteArray := prog_14_method_62_code
def yX12_ways : MethodName := ⟨RX12, "ways", "()I"⟩
abbrev cX12_asks : ByteArray := prog_14_method_63_code
def yX12_asks : MethodName := ⟨RX12, "asks", "(I)I"⟩
abbrev cX12_choiceOf : ByteArray := prog_14_method_64_code
def yX12_choiceOf : MethodName := ⟨RX12, "choiceOf", "(II)I"⟩
abbrev cX12_choice : ByteArray := prog_14_method_65_code
def yX12_choice : MethodName := ⟨RX12, "choice", "(II)I"⟩
abbrev cX12_goes : ByteArray := prog_14_method_66_code
def yX12_goes : MethodName := ⟨RX12, "goes", "(II)I"⟩
abbrev cX12_gapNow : ByteArray := prog_14_method_67_code
def yX12_gapNow : MethodName := ⟨RX12, "gapNow", "(IIZ)I"⟩
abbrev cX12_hour : ByteArray := prog_14_method_68_code
def yX12_hour : MethodName := ⟨RX12, "hour", "(IIZ)I"⟩
abbrev cX12_gap : ByteArray := prog_14_method_69_code
def yX12_gap : MethodName := ⟨RX12, "gap", "(IIIZ)I"⟩
abbrev cX12_ends : ByteArray := prog_14_method_70_code
def yX12_ends : MethodName := ⟨RX12, "ends", "(IZ)I"⟩
abbrev cX12_can : ByteArray := prog_14_method_71_code
def yX12_can : MethodName := ⟨RX12, "can", "(II)I"⟩
abbrev cX12_forced : ByteArray := prog_14_method_72_code
def yX12_forced : MethodName := ⟨RX12, "forced", "(I)I"⟩
abbrev cX12_set : ByteArray := prog_14_method_73_code
def yX12_set : MethodName := ⟨RX12, "set", "(II)Z"⟩
abbrev cX12_bearsSpan : ByteArray := prog_14_method_74_code
def yX12_bearsSpan : MethodName := ⟨RX12, "bearsSpan", "(I)I"⟩
abbrev cX12_bears : ByteArray := prog_14_method_75_code
def yX12_bears : MethodName := ⟨RX12, "bears", "(I)I"⟩
abbrev cX12_breaks : ByteArray := prog_14_method_76_code
def yX12_breaks : MethodName := ⟨RX12, "breaks", "()I"⟩
abbrev cX12_bits : ByteArray := prog_14_method_77_code
def yX12_bits : MethodName := ⟨RX12, "bits", "(I)I"⟩
abbrev cX12_sureOnes : ByteArray := prog_14_method_78_code
def yX12_sureOnes : MethodName := ⟨RX12, "sureOnes", "()I"⟩
abbrev cX12_sets : ByteArray := prog_14_method_79_code
def yX12_sets : MethodName := ⟨RX12, "sets", "()V"⟩
abbrev cX12_quarrels : ByteArray := prog_14_method_80_code
def yX12_quarrels : MethodName := ⟨RX12, "quarrels", "()I"⟩
abbrev cX12_quarrel : ByteArray := prog_14_method_81_code
def yX12_quarrel : MethodName := ⟨RX12, "quarrel", "(I)I"⟩
abbrev cX12_givingUps : ByteArray := prog_14_method_82_code
def yX12_givingUps : MethodName := ⟨RX12, "givingUps", "()I"⟩
abbrev cX12_givingUp : ByteArray := prog_14_method_83_code
def yX12_givingUp : MethodName := ⟨RX12, "givingUp", "(I)I"⟩
abbrev cX12_trustIn : ByteArray := prog_14_method_84_code
def yX12_trustIn : MethodName := ⟨RX12, "trustIn", "(I)I"⟩
abbrev cX12_cheapest : ByteArray := prog_14_method_85_code
def yX12_cheapest : MethodName := ⟨RX12, "cheapest", "()I"⟩
abbrev cX12_price : ByteArray := prog_14_method_86_code
def yX12_price : MethodName := ⟨RX12, "price", "()I"⟩
abbrev cX12_itemAt : ByteArray := prog_14_method_87_code
def yX12_itemAt : MethodName := ⟨RX12, "itemAt", "(I)I"⟩
abbrev cX12_toldItem : ByteArray := prog_14_method_88_code
def yX12_toldItem : MethodName := ⟨RX12, "toldItem", "(I)I"⟩
abbrev cX12_pick : ByteArray := prog_14_method_89_code
def yX12_pick : MethodName := ⟨RX12, "pick", "(II)Z"⟩
abbrev cX12_pickedStands : ByteArray := prog_14_method_90_code
def yX12_pickedStands : MethodName := ⟨RX12, "pickedStands", "()Z"⟩
abbrev cX12_stands : ByteArray := prog_14_method_91_code
def yX12_stands : MethodName := ⟨RX12, "stands", "()I"⟩
abbrev cX12_rings : ByteArray := prog_14_method_92_code
def yX12_rings : MethodName := ⟨RX12, "rings", "()Z"⟩
abbrev cX12_ring : ByteArray := prog_14_method_93_code
def yX12_ring : MethodName := ⟨RX12, "ring", "()I"⟩
abbrev cX12_ringAt : ByteArray := prog_14_method_94_code
def yX12_ringAt : MethodName := ⟨RX12, "ringAt", "(I)I"⟩
abbrev cX12_isPerson : ByteArray := prog_14_method_95_code
def yX12_isPerson : MethodName := ⟨RX12, "isPerson", "(I)Z"⟩
abbrev cX12_oneMore : ByteArray := prog_14_method_96_code
def yX12_oneMore : MethodName := ⟨RX12, "oneMore", "(II)V"⟩
abbrev cX12_could : ByteArray := prog_14_method_97_code
def yX12_could : MethodName := ⟨RX12, "could", "(IIII)I"⟩
abbrev cX12_been : ByteArray := prog_14_method_98_code
def yX12_been : MethodName := ⟨RX12, "been", "(IIZ)I"⟩
abbrev cX12_meetsAll : ByteArray := prog_14_method_99_code
def yX12_meetsAll : MethodName := ⟨RX12, "meetsAll", "()V"⟩
abbrev cX12_sees : ByteArray := prog_14_method_100_code
def yX12_sees : MethodName := ⟨RX12, "sees", "(I)V"⟩
abbrev cX12_answers : ByteArray := prog_14_method_101_code
def yX12_answers : MethodName := ⟨RX12, "answers", "(II)Z"⟩
abbrev cX12_isLeft : ByteArray := prog_14_method_102_code
def yX12_isLeft : MethodName := ⟨RX12, "isLeft", "(II)Z"⟩
abbrev cX12_leftOf : ByteArray := prog_14_method_103_code
def yX12_leftOf : MethodName := ⟨RX12, "leftOf", "(II)I"⟩
abbrev cX12_ask : ByteArray := prog_14_method_104_code
def yX12_ask : MethodName := ⟨RX12, "ask", "(IZ)I"⟩
abbrev cX12_next : ByteArray := prog_14_method_105_code
def yX12_next : MethodName := ⟨RX12, "next", "()I"⟩
abbrev cX12_left : ByteArray := prog_14_method_106_code
def yX12_left : MethodName := ⟨RX12, "left", "(II)I"⟩
abbrev cX12_plans : ByteArray := prog_14_method_107_code
def yX12_plans : MethodName := ⟨RX12, "plans", "(I)I"⟩
abbrev cX12_planOf : ByteArray := prog_14_method_108_code
def yX12_planOf : MethodName := ⟨RX12, "planOf", "(IZ)I"⟩
abbrev cX12_plan : ByteArray := prog_14_method_109_code
def yX12_plan : MethodName := ⟨RX12, "plan", "(I)I"⟩
abbrev cX12_first : ByteArray := prog_14_method_110_code
def yX12_first : MethodName := ⟨RX12, "first", "(I)I"⟩
abbrev cX12_tried : ByteArray := prog_14_method_111_code
def yX12_tried : MethodName := ⟨RX12, "tried", "(II)I"⟩
abbrev cX12_laysSet : ByteArray := prog_14_method_112_code
def yX12_laysSet : MethodName := ⟨RX12, "laysSet", "(I)Z"⟩
abbrev cX12_setWays : ByteArray := prog_14_method_113_code
def yX12_setWays : MethodName := ⟨RX12, "setWays", "()I"⟩
abbrev cX12_slack : ByteArray := prog_14_method_114_code
def yX12_slack : MethodName := ⟨RX12, "slack", "(IIZ)I"⟩
abbrev cX12_drawn : ByteArray := prog_14_method_115_code
def yX12_drawn : MethodName := ⟨RX12, "drawn", "(III)I"⟩
abbrev cX12_gives : ByteArray := prog_14_method_116_code
def yX12_gives : MethodName := ⟨RX12, "gives", "(I)I"⟩
abbrev cX12_give : ByteArray := prog_14_method_117_code
def yX12_give : MethodName := ⟨RX12, "give", "()I"⟩
abbrev cX12_alone : ByteArray := prog_14_method_118_code
def yX12_alone : MethodName := ⟨RX12, "alone", "(I)I"⟩
abbrev cX12_kept : ByteArray := prog_14_method_119_code
def yX12_kept : MethodName := ⟨RX12, "kept", "(I)I"⟩
abbrev cX12_keep : ByteArray := prog_14_method_120_code
def yX12_keep : MethodName := ⟨RX12, "keep", "()I"⟩
abbrev cX12_hand : ByteArray := prog_14_method_121_code
def yX12_hand : MethodName := ⟨RX12, "hand", "(II)I"⟩
abbrev cX12_count : ByteArray := prog_14_method_122_code
def yX12_count : MethodName := ⟨RX12, "count", "(I)I"⟩
def RJ6 : String := "java/lang/Integer"
abbrev cJ6_bitCount_0f7a4 : ByteArray := prog_15_method_49_code
def yJ6_bitCount_0f7a4 : MethodName := ⟨RJ6, "bitCount", "(I)I"⟩
def RJ9 : String := "java/lang/Math"
abbrev cJ9_abs_0f7a4 : ByteArray := prog_16_method_59_code
def yJ9_abs_0f7a4 : MethodName := ⟨RJ9, "abs", "(I)I"⟩
abbrev cJ9_max_7cf53 : ByteArray := prog_16_method_65_code
def yJ9_max_7cf53 : MethodName := ⟨RJ9, "max", "(II)I"⟩
abbrev cJ9_min_7cf53 : ByteArray := prog_16_method_69_code
def yJ9_min_7cf53 : MethodName := ⟨RJ9, "min", "(II)I"⟩
def RJ10 : String := "java/lang/System"
def RJ7 : String := "java/util/Arrays"
abbrev cJ7_fill_53178 : ByteArray := prog_18_method_103_code
def yJ7_fill_53178 : MethodName := ⟨RJ7, "fill", "([II)V"⟩
def RL : String := "NightHoursLaw"
abbrev cL_law : ByteArray := code
def yL_law : MethodName := ⟨RL, "law", "([I)Z"⟩
abbrev vwCl : List vw_C := [(RX0, TX0, 6), (RX1, TX1, 3), (RX2, TX2, 18), (RX3, TX3, 4), (RX4, TX4, 5), (RX5, TX5, 6), (RX6, TX6, 12), (RX7, TX7, 13), (RX8, TX8, 4), (RX9, TX9, 4), (RX10, TX10, 19), (RX11, TX11, 14), (RX12, TX12, 97)]
end
section
/-! THE SMALL MACHINE: the same bytecode over numbered cells; all else of the machine is left out. Part 03 shows that the machine does what it does. -/
abbrev sm_I : Type := Nat → Nat → Int32
abbrev sm_L : Type := Nat → Nat → Int64
abbrev sm_R : Type := Nat → Nat → Option Nat
abbrev sm_Y : Type := sm_I × sm_L × sm_R
abbrev sm_W : Type := List (Nat × Nat) × sm_Y
abbrev sm_V : Type := List (Nat × Value)
/-- a block: its pc, the live locals if it is a cut, the block behind it, its instructions with what they mean -/
abbrev sm_B : Type := Nat × Option (List Nat) × Nat × List (Instr × List Nat)
/-- a method: name, bytes, locals, what it returns, parameters, cells and slots that it makes, places of its words, blocks -/
abbrev sm_M : Type := MethodName × ByteArray × Nat × Option FieldType × Nat × Nat × Nat × List Nat × List sm_B
abbrev sm_Z : Type := Option Value × sm_W
abbrev sm_C : Type := Nat × (Nat → Int32)
def sm_up {α : Type} (f : Nat → Nat → α) (p j : Nat) (v : α) : Nat → Nat → α := fun a => if a = p then (fun b => if b = j then v else f a b) else f a
def sm_row {α : Type} (f : Nat → Nat → α) (p : Nat) (g : Nat → α) : Nat → Nat → α := fun a => if a = p then g else f a
def sm_rv : Option Nat → Value
  | none => .null
  | some p => .ref p
def sm_lk : sm_V → Nat → Option Value
  | [], _ => none
  | (j, v) :: r, i => if j = i then some v else sm_lk r i
def sm_pick : List Nat → sm_V → Option (List Value)
  | [], _ => some []
  | i :: r, lv => match sm_lk lv i with
    | none => none
    | some v => match sm_pick r lv with
      | none => none
      | some vs => some (v :: vs)
def sm_s1 (lv : sm_V) (i : Nat) (v : Value) : sm_V := (i, v) :: lv.filter (fun q => !(q.1 == i) && !(q.1 + 1 == i && q.2.category == 2))
def sm_s2 (lv : sm_V) (i : Nat) (v : Value) : sm_V := (i, v) :: lv.filter (fun q => !(q.1 == i) && (!(q.1 == i + 1) && !(q.1 + 1 == i && q.2.category == 2)))
/-! kinds of cells: (0, c) one of the kind c; (1, n) ints, (2, n) bytes, (3, n) booleans, (4, n) longs, n of them. sm_tab: what each kind's fields are: 0 int, 1 reference, 2 boolean -/
def sm_tab : List (List Nat) := [[1, 1, 1, 1, 1, 2], [1, 1, 1], [1, 2, 1, 1, 1, 1, 0, 0, 0, 0, 2, 0, 2, 0, 0, 2, 0, 0], [1, 0, 0, 0], [0, 0, 1, 1, 1], [1, 1, 1, 1, 0, 0], [1, 1, 1, 1, 0, 0, 1, 0, 2, 2, 2, 2], [1, 1, 1, 1, 1, 0, 1, 0, 0, 0, 0, 0, 0], [1, 1, 1, 1], [1, 1, 1, 0], [0, 0, 0, 0, 0, 0, 0, 1, 1, 1, 1, 1, 1, 1, 1, 1, 1, 1, 1], [1, 1, 1, 1, 1, 1, 1, 1, 1, 1, 0, 0, 2, 2], [0, 1, 0, 1, 0, 1, 1, 1, 1, 1, 0, 0, 0, 0, 0, 0, 0, 0, 0, 0, 0, 1, 1, 1, 1, 1, 1, 1, 1, 1, 1, 1, 1, 1, 1, 1, 1, 1, 1, 1, 1, 1, 1, 1, 1, 1, 0, 1, 1, 1, 1, 0, 0, 2, 0, 1, 1, 1, 1, 0, 1, 1, 1, 0, 2, 1, 1, 0, 0, 0, 2, 2, 0, 0, 0, 1, 1, 1, 1, 2, 2, 1, 0, 1, 0, 1, 1, 0, 1, 1, 2, 0, 0, 1, 1, 1, 0]]
def sm_N (c : Nat) : Nat := (sm_tab.getD c []).length
def sm_cd (c k : Nat) : Nat := (sm_tab.getD c []).getD k 0
/-! the arrays that stand from the beginning: 1000 WORDS, 1001 STEPS, 1002 ROOM, 1003 WITH_YES, 1004 the script -/
def sm_words : List Int64 := [7825519, 482854658917, 7823737, 1953066341, 28518, 26990, 7561593, 500136506228, 1937076837, 28530, 1869636974, 108187682958948, 6386539, 6385252, 24948]
def sm_steps : List Int32 := [0, 0, 1, 0, 1, 1, 1, 15, 2, 2, 17, 0, 0, 2, 3, 3, 15, 4, 4, 15, 5, 5, 16, 2, 0, 3, 6, 6, 15, 7, 7, 17, 0, 7, 4, 8, 8, 15, 9, 9, 5, 10, 10, 15, 2, 0, 6, 11, 11, 15, 12, 12, 18, 17, 12, 7, 13, 13, 16, 16, 16, 18, 17, 0, 8, 14, 14, 15, 16, 0, 12, 15, 15, 15, 16, 17, 15, 18, 18, 14, 19, 19, 16, 25, 18, 11, 20, 20, 15, 21, 21, 16, 23, 21, 19, 22, 22, 16, 23, 23, 16, 26, 23, 19, 24, 24, 16, 26, 25, 16, 26, 26, 9, 17, 26, 13, 17, 26, 17, 0, 0, 10, 27, 27, 15, 28, 28, 11, 29, 29, 15, 30, 30, 16, 5, 0, 21, 0]
def sm_room : List Int32 := [4, 6, 12, 10, 0, 0, 10, 0, 10, 0, 4, 0, 5, 0, 0]
def sm_withyes : List Int32 := [-1431655766, -858993460, -252645136, -16711936, -65536]
def sm_sI (S : sm_C) (p : Nat) : Option (Nat × (Nat → Int32)) := match p with
  | 1001 => some (sm_steps.length, fun j => sm_steps.getD j 0)
  | 1002 => some (sm_room.length, fun j => sm_room.getD j 0)
  | 1003 => some (sm_withyes.length, fun j => sm_withyes.getD j 0)
  | 1004 => some S
  | _ => none
def sm_sL (p : Nat) : Option (Nat × (Nat → Int64)) := match p with
  | 1000 => some (sm_words.length, fun j => sm_words.getD j 0)
  | _ => none
/-! what an instruction does to locals and stack and cells' contents -/
abbrev sm_O : Type := Option (sm_V × List Value × sm_Y)
def sm_p (lv : sm_V) (m : sm_Y) (o : Option (List Value)) : sm_O := match o with
  | some s => some (lv, s, m)
  | none => none
def sm_ii (f : Int32 → Int32 → Int32) (st : List Value) : Option (List Value) := match st with
  | .int y :: .int x :: r => some (.int (f x y) :: r)
  | _ => none
def sm_iq (f : Int32 → Int32 → Int32) (st : List Value) : Option (List Value) := match st with
  | .int y :: .int x :: r => if y = 0 then none else some (.int (f x y) :: r)
  | _ => none
def sm_ll (f : Int64 → Int64 → Int64) (st : List Value) : Option (List Value) := match st with
  | .long y :: .long x :: r => some (.long (f x y) :: r)
  | _ => none
def sm_li (f : Int64 → Int32 → Int64) (st : List Value) : Option (List Value) := match st with
  | .int y :: .long x :: r => some (.long (f x y) :: r)
  | _ => none
def sm_i1 (f : Int32 → Value) (st : List Value) : Option (List Value) := match st with
  | .int x :: r => some (f x :: r)
  | _ => none
def sm_l1 (f : Int64 → Value) (st : List Value) : Option (List Value) := match st with
  | .long x :: r => some (f x :: r)
  | _ => none
def sm_lc (st : List Value) : Option (List Value) := match st with
  | .long y :: .long x :: r => some (.int (lg_cmp x y) :: r)
  | _ => none
def sm_ldi (lv : sm_V) (i : Nat) (st : List Value) : Option (List Value) := match sm_lk lv i with
  | some (.int x) => some (.int x :: st)
  | _ => none
def sm_ldl (lv : sm_V) (i : Nat) (st : List Value) : Option (List Value) := match sm_lk lv i with
  | some (.long x) => some (.long x :: st)
  | _ => none
def sm_lda (lv : sm_V) (i : Nat) (st : List Value) : Option (List Value) := match sm_lk lv i with
  | some (.ref x) => some (.ref x :: st)
  | some .null => some (.null :: st)
  | _ => none
def sm_sti (lv : sm_V) (i nL : Nat) (st : List Value) (m : sm_Y) : sm_O := match st with
  | .int x :: r => if i < nL then some (sm_s1 lv i (.int x), r, m) else none
  | _ => none
def sm_stl (lv : sm_V) (i nL : Nat) (st : List Value) (m : sm_Y) : sm_O := match st with
  | .long x :: r => if i + 1 < nL then some (sm_s2 lv i (.long x), r, m) else none
  | _ => none
def sm_sta (lv : sm_V) (i nL : Nat) (st : List Value) (m : sm_Y) : sm_O := match st with
  | .ref x :: r => if i < nL then some (sm_s1 lv i (.ref x), r, m) else none
  | .null :: r => if i < nL then some (sm_s1 lv i .null, r, m) else none
  | _ => none
def sm_inc (lv : sm_V) (i : Nat) (n : Int) (nL : Nat) (st : List Value) (m : sm_Y) : sm_O := match sm_lk lv i with
  | some (.int x) => if i < nL then some (sm_s1 lv i (.int (x + Int32.ofInt n)), st, m) else none
  | _ => none
def sm_dup (st : List Value) : Option (List Value) := match st with
  | v :: r => if v.category = 1 then some (v :: v :: r) else none
  | _ => none
def sm_dupx1 (st : List Value) : Option (List Value) := match st with
  | v :: u :: r => if v.category = 1 ∧ u.category = 1 then some (v :: u :: v :: r) else none
  | _ => none
def sm_dup2 (st : List Value) : Option (List Value) := match st with
  | v :: u :: r => if v.category = 1 ∧ u.category = 1 then some (v :: u :: v :: u :: r) else none
  | _ => none
def sm_pop (st : List Value) : Option (List Value) := match st with
  | v :: r => if v.category = 1 then some r else none
  | _ => none
def sm_out (i : Int32) (n : Nat) : Prop := i < 0 ∨ n ≤ i.toNatClampNeg
def sm_gI (S : sm_C) (lay : List (Nat × Nat)) (m : sm_Y) (st : List Value) : Option (List Value) := match st with
  | .int i :: .ref p :: r => match lay[p]? with
    | some (1, n) => if i < 0 ∨ n ≤ i.toNatClampNeg then none else some (.int (m.1 p i.toNatClampNeg) :: r)
    | some _ => none
    | none => match sm_sI S p with
      | some q => if i < 0 ∨ q.1 ≤ i.toNatClampNeg then none else some (.int (q.2 i.toNatClampNeg) :: r)
      | none => none
  | _ => none
def sm_gB (lay : List (Nat × Nat)) (m : sm_Y) (st : List Value) : Option (List Value) := match st with
  | .int i :: .ref p :: r => match lay[p]? with
    | some (2, n) => if i < 0 ∨ n ≤ i.toNatClampNeg then none else some (.int (m.1 p i.toNatClampNeg) :: r)
    | some (3, n) => if i < 0 ∨ n ≤ i.toNatClampNeg then none else some (.int (m.1 p i.toNatClampNeg) :: r)
    | _ => none
  | _ => none
def sm_gL (lay : List (Nat × Nat)) (m : sm_Y) (st : List Value) : Option (List Value) := match st with
  | .int i :: .ref p :: r => match lay[p]? with
    | some (4, n) => if i < 0 ∨ n ≤ i.toNatClampNeg then none else some (.long (m.2.1 p i.toNatClampNeg) :: r)
    | some _ => none
    | none => match sm_sL p with
      | some q => if i < 0 ∨ q.1 ≤ i.toNatClampNeg then none else some (.long (q.2 i.toNatClampNeg) :: r)
      | none => none
  | _ => none
def sm_len (S : sm_C) (lay : List (Nat × Nat)) (st : List Value) : Option (List Value) := match st with
  | .ref p :: r => match lay[p]? with
    | some (0, _) => none
    | some (t + 1, n) => if t < 4 then some (.int (Int32.ofNat n) :: r) else none
    | none => match sm_sI S p with
      | some q => some (.int (Int32.ofNat q.1) :: r)
      | none => match sm_sL p with
        | some q => some (.int (Int32.ofNat q.1) :: r)
        | none => none
  | _ => none
def sm_pI (lv : sm_V) (lay : List (Nat × Nat)) (m : sm_Y) (st : List Value) : sm_O := match st with
  | .int x :: .int i :: .ref p :: r => match lay[p]? with
    | some (1, n) => if i < 0 ∨ n ≤ i.toNatClampNeg then none else some (lv, r, sm_up m.1 p i.toNatClampNeg x, m.2)
    | _ => none
  | _ => none
def sm_pB (lv : sm_V) (lay : List (Nat × Nat)) (m : sm_Y) (st : List Value) : sm_O := match st with
  | .int x :: .int i :: .ref p :: r => match lay[p]? with
    | some (2, n) => if i < 0 ∨ n ≤ i.toNatClampNeg then none else some (lv, r, sm_up m.1 p i.toNatClampNeg (vp_nar .byte x), m.2)
    | some (3, n) => if i < 0 ∨ n ≤ i.toNatClampNeg then none else some (lv, r, sm_up m.1 p i.toNatClampNeg (vp_nar .boolean x), m.2)
    | _ => none
  | _ => none
def sm_pL (lv : sm_V) (lay : List (Nat × Nat)) (m : sm_Y) (st : List Value) : sm_O := match st with
  | .long x :: .int i :: .ref p :: r => match lay[p]? with
    | some (4, n) => if i < 0 ∨ n ≤ i.toNatClampNeg then none else some (lv, r, m.1, sm_up m.2.1 p i.toNatClampNeg x, m.2.2)
    | _ => none
  | _ => none
def sm_get (lay : List (Nat × Nat)) (m : sm_Y) (c k : Nat) (st : List Value) : Option (List Value) := match st with
  | .ref p :: r => match lay[p]? with
    | some (0, c') => if c' = c then (if sm_cd c k = 1 then some (sm_rv (m.2.2 p k) :: r) else some (.int (m.1 p k) :: r)) else none
    | _ => none
  | _ => none
def sm_put (lv : sm_V) (lay : List (Nat × Nat)) (m : sm_Y) (c k : Nat) (st : List Value) : sm_O := match st with
  | v :: .ref p :: r => match lay[p]? with
    | some (0, c') => if c' = c then (match sm_cd c k, v with
      | 0, .int x => some (lv, r, sm_up m.1 p k x, m.2)
      | 1, .ref q => some (lv, r, m.1, m.2.1, sm_up m.2.2 p k (some q))
      | 1, .null => some (lv, r, m.1, m.2.1, sm_up m.2.2 p k none)
      | 2, .int x => if x = 0 ∨ x = 1 then some (lv, r, sm_up m.1 p k x, m.2) else none
      | _, _ => none) else none
    | _ => none
  | _ => none
def sm_cpy (lv : sm_V) (lay : List (Nat × Nat)) (m : sm_Y) (st : List Value) : sm_O := match st with
  | .int n :: .int dp :: .ref a :: .int sp :: .ref a0 :: r => match lay[a0]?, lay[a]? with
    | some (1, n0), some (1, n1) => if sp < 0 ∨ dp < 0 ∨ n < 0 ∨ n0 < sp.toNatClampNeg + n.toNatClampNeg ∨ n1 < dp.toNatClampNeg + n.toNatClampNeg ∨ 8 < (r.map fun v => v.category).sum then none else some (lv, r, sm_row m.1 a (va_cpy (m.1 a0) (m.1 a) sp.toNatClampNeg dp.toNatClampNeg n.toNatClampNeg), m.2)
    | _, _ => none
  | _ => none
def sm_oin (st : List Value) : Option (List Value) := match st with
  | .ref _ :: r => if (r.map fun v => v.category).sum ≤ 8 then some r else none
  | _ => none
def sm_ma (f : Int32 → Int32 → Int32) (st : List Value) : Option (List Value) := match st with
  | .int y :: .int x :: r => if (r.map fun v => v.category).sum ≤ 8 then some (.int (f x y) :: r) else none
  | _ => none
def sm_mb (f : Int32 → Int32) (st : List Value) : Option (List Value) := match st with
  | .int x :: r => if (r.map fun v => v.category).sum ≤ 8 then some (.int (f x) :: r) else none
  | _ => none
def sm_st4 (ops : List Nat) (lv : sm_V) (lay : List (Nat × Nat)) (m : sm_Y) (st : List Value) : sm_O := match ops with
  | 0 :: _ => sm_cpy lv lay m st
  | 1 :: _ => sm_p lv m (sm_ma (fun x y => if x < y then y else x) st)
  | 2 :: _ => sm_p lv m (sm_ma (fun x y => if y < x then y else x) st)
  | 3 :: _ => sm_p lv m (sm_mb (fun x => if 0 ≤ x then x else 0 - x) st)
  | _ => none
def sm_one (S : sm_C) (nL : Nat) (i : Instr) (ops : List Nat) (lv : sm_V) (st : List Value) (lay : List (Nat × Nat)) (m : sm_Y) : sm_O := match i with
  | .iconst n => some (lv, .int (Int32.ofInt n) :: st, m)
  | .bipush n => some (lv, .int (Int8.ofInt n).toInt32 :: st, m)
  | .sipush n => some (lv, .int (Int16.ofInt n).toInt32 :: st, m)
  | .lconst n => some (lv, .long (Int64.ofNat n) :: st, m)
  | .ldc _ => some (lv, .int (Int32.ofNat (ops.getD 0 0)) :: st, m)
  | .ldc_w _ => some (lv, .int (Int32.ofNat (ops.getD 0 0)) :: st, m)
  | .ldc2_w _ => some (lv, .long (Int64.ofNat (ops.getD 0 0)) :: st, m)
  | .aconst_null => some (lv, .null :: st, m)
  | .iload k => sm_p lv m (sm_ldi lv k st)
  | .iload_n k => sm_p lv m (sm_ldi lv k st)
  | .lload k => sm_p lv m (sm_ldl lv k st)
  | .lload_n k => sm_p lv m (sm_ldl lv k st)
  | .aload k => sm_p lv m (sm_lda lv k st)
  | .aload_n k => sm_p lv m (sm_lda lv k st)
  | .istore k => sm_sti lv k nL st m
  | .istore_n k => sm_sti lv k nL st m
  | .lstore k => sm_stl lv k nL st m
  | .lstore_n k => sm_stl lv k nL st m
  | .astore k => sm_sta lv k nL st m
  | .astore_n k => sm_sta lv k nL st m
  | .iinc k n => sm_inc lv k n nL st m
  | .iadd => sm_p lv m (sm_ii (fun x y => x + y) st)
  | .isub => sm_p lv m (sm_ii (fun x y => x - y) st)
  | .imul => sm_p lv m (sm_ii (fun x y => x * y) st)
  | .iand => sm_p lv m (sm_ii (fun x y => x &&& y) st)
  | .ior => sm_p lv m (sm_ii (fun x y => x ||| y) st)
  | .ixor => sm_p lv m (sm_ii (fun x y => x ^^^ y) st)
  | .ishl => sm_p lv m (sm_ii (fun x y => x <<< (y &&& 31)) st)
  | .ishr => sm_p lv m (sm_ii (fun x y => x >>> (y &&& 31)) st)
  | .iushr => sm_p lv m (sm_ii (fun x y => (x.toUInt32 >>> (y.toUInt32 &&& Int32.toUInt32 31)).toInt32) st)
  | .idiv => sm_p lv m (sm_iq (fun x y => x / y) st)
  | .irem => sm_p lv m (sm_iq (fun x y => x - x / y * y) st)
  | .ineg => sm_p lv m (sm_i1 (fun x => .int (-x)) st)
  | .i2b => sm_p lv m (sm_i1 (fun x => .int x.toInt8.toInt32) st)
  | .i2l => sm_p lv m (sm_i1 (fun x => .long x.toInt64) st)
  | .l2i => sm_p lv m (sm_l1 (fun x => .int x.toInt32) st)
  | .ladd => sm_p lv m (sm_ll (fun x y => x + y) st)
  | .lsub => sm_p lv m (sm_ll (fun x y => x - y) st)
  | .lmul => sm_p lv m (sm_ll (fun x y => x * y) st)
  | .land => sm_p lv m (sm_ll (fun x y => x &&& y) st)
  | .lor => sm_p lv m (sm_ll (fun x y => x ||| y) st)
  | .lshl => sm_p lv m (sm_li (fun x y => x <<< (y.toInt64 &&& 63)) st)
  | .lshr => sm_p lv m (sm_li (fun x y => x >>> (y.toInt64 &&& 63)) st)
  | .lcmp => sm_p lv m (sm_lc st)
  | .dup => sm_p lv m (sm_dup st)
  | .dup_x1 => sm_p lv m (sm_dupx1 st)
  | .dup2 => sm_p lv m (sm_dup2 st)
  | .pop => sm_p lv m (sm_pop st)
  | .iaload => sm_p lv m (sm_gI S lay m st)
  | .baload => sm_p lv m (sm_gB lay m st)
  | .laload => sm_p lv m (sm_gL lay m st)
  | .arraylength => sm_p lv m (sm_len S lay st)
  | .iastore => sm_pI lv lay m st
  | .bastore => sm_pB lv lay m st
  | .lastore => sm_pL lv lay m st
  | .getfield _ => sm_p lv m (sm_get lay m (ops.getD 0 0) (ops.getD 1 0) st)
  | .putfield _ => sm_put lv lay m (ops.getD 0 0) (ops.getD 1 0) st
  | .getstatic _ => some (lv, .ref (ops.getD 0 0) :: st, m)
  | .invokestatic _ => sm_st4 ops lv lay m st
  | .invokespecial _ => sm_p lv m (sm_oin st)
  | _ => none
/-! branches -/
def sm_b1 {α : Type} (c : ClassFile.Cond) (st : List Value) (a b : List Value → Option α) : Option α := match st with
  | .int x :: r => match c with
    | .eq => if x = 0 then a r else b r
    | .ne => if x = 0 then b r else a r
    | .lt => if x < 0 then a r else b r
    | .ge => if 0 ≤ x then a r else b r
    | .gt => if 0 < x then a r else b r
    | .le => if x ≤ 0 then a r else b r
  | _ => none
def sm_b2 {α : Type} (c : ClassFile.Cond) (st : List Value) (a b : List Value → Option α) : Option α := match st with
  | .int y :: .int x :: r => match c with
    | .eq => if x = y then a r else b r
    | .ne => if x = y then b r else a r
    | .lt => if x < y then a r else b r
    | .ge => if y ≤ x then a r else b r
    | .gt => if y < x then a r else b r
    | .le => if x ≤ y then a r else b r
  | _ => none
def sm_bn {α : Type} (st : List Value) (a b : List Value → Option α) : Option α := match st with
  | .null :: r => a r
  | .ref _ :: r => b r
  | _ => none
def sm_sw {α : Type} (x : Int32) (k : Nat → Option α) (d : Nat) : Int → List Nat → Option α
  | _, [] => k d
  | v, b :: r => if x.toInt = v then k b else sm_sw x k d (v + 1) r
def sm_lo {α : Type} (x : Int32) (k : Nat → Option α) (d : Nat) : List (Int × Int) → List Nat → Option α
  | [], _ => k d
  | _ :: _, [] => none
  | v :: vs, b :: r => if x.toInt = v.1 then k b else sm_lo x k d vs r
def sm_isZ (r : Option FieldType) : Bool := match r with
  | some .boolean => true
  | _ => false
/-- the receiver of a call -/
def sm_rc (inst ci : Nat) (lay : List (Nat × Nat)) (st : List Value) (n : Nat) : Bool := match inst with
  | 0 => true
  | _ => match st.drop n with
    | .ref b :: _ => match lay[b]? with
      | some (0, c') => decide (c' = ci)
      | _ => false
    | _ => false
/-- a call: what is asked of it, then what comes back -/
def sm_inv (rec : List Value → Option sm_Z) (n nL mc ms : Nat) (rc : Bool) (st : List Value) (cs : Nat × Nat) (lim : Nat × Nat) (k : List Value → sm_W → Nat × Nat → Option sm_Z) : Option sm_Z :=
  if rc = false ∨ st.length < n ∨ nL < (lg_sl (st.take n).reverse).length ∨ 8 < ((st.drop n).map fun v => v.category).sum ∨ lim.1 < cs.1 + mc ∨ lim.2 < cs.2 + ms then none else
  match rec (st.take n).reverse with
  | none => none
  | some z => k (z.1.toList ++ st.drop n) z.2 (cs.1 + mc, cs.2 + ms)
def sm_else (P : Nat → sm_M) (S : sm_C) (rec : Nat → Nat → Nat → List Value → List Value → sm_W → Nat × Nat → Option sm_Z) (d : Nat) (M : sm_M) (i : Instr) (ops : List Nat) (lv : sm_V) (st : List Value) (w : sm_W) (cs : Nat × Nat) (k : sm_V → List Value → sm_W → Nat × Nat → Option sm_Z) : Option sm_Z := match ops with
  | g :: inst :: ci :: _ :: _ :: _ :: _ :: _ => match d with
    | 0 => none
    | d + 1 => sm_inv (fun as => rec d g 0 as [] w (0, 0)) ((P g).2.2.2.2.1 + inst) (P g).2.2.1 (P g).2.2.2.2.2.1 (P g).2.2.2.2.2.2.1 (sm_rc inst ci w.1 st (P g).2.2.2.2.1) st cs (M.2.2.2.2.2.1, M.2.2.2.2.2.2.1) (fun s' w' cs' => k lv s' w' cs')
  | _ => match sm_one S M.2.2.1 i ops lv st w.1 w.2 with
    | some q => k q.1 q.2.1 (w.1, q.2.2) cs
    | none => none
def sm_blk (P : Nat → sm_M) (S : sm_C) (rec : Nat → Nat → Nat → List Value → List Value → sm_W → Nat × Nat → Option sm_Z) (jmp : Nat → sm_V → List Value → sm_W → Nat × Nat → Option sm_Z) (d : Nat) (M : sm_M) (fall : Nat) : List (Instr × List Nat) → sm_V → List Value → sm_W → Nat × Nat → Option sm_Z
  | [], lv, st, w, cs => jmp fall lv st w cs
  | (i, ops) :: is, lv, st, w, cs => match i with
    | .goto _ => jmp (ops.getD 0 0) lv st w cs
    | .ifCond c _ => sm_b1 c st (fun r => jmp (ops.getD 0 0) lv r w cs) (fun r => jmp (ops.getD 1 0) lv r w cs)
    | .if_icmp c _ => sm_b2 c st (fun r => jmp (ops.getD 0 0) lv r w cs) (fun r => jmp (ops.getD 1 0) lv r w cs)
    | .ifnull _ => sm_bn st (fun r => jmp (ops.getD 0 0) lv r w cs) (fun r => jmp (ops.getD 1 0) lv r w cs)
    | .ifnonnull _ => sm_bn st (fun r => jmp (ops.getD 1 0) lv r w cs) (fun r => jmp (ops.getD 0 0) lv r w cs)
    | .tableswitch _ lo _ _ => match st with
      | .int x :: r => sm_sw x (fun b => jmp b lv r w cs) (ops.getD 0 0) lo (ops.drop 1)
      | _ => none
    | .lookupswitch _ ps => match st with
      | .int x :: r => sm_lo x (fun b => jmp b lv r w cs) (ops.getD 0 0) ps.toList (ops.drop 1)
      | _ => none
    | .ireturn => match st with
      | [.int x] => if cs = (M.2.2.2.2.2.1, M.2.2.2.2.2.2.1) then (if sm_isZ M.2.2.2.1 = true then (if x = 0 ∨ x = 1 then some (some (.int x), w) else none) else some (some (.int x), w)) else none
      | _ => none
    | .lreturn => match st with
      | [.long x] => if cs = (M.2.2.2.2.2.1, M.2.2.2.2.2.2.1) then some (some (.long x), w) else none
      | _ => none
    | .areturn => match st with
      | [.ref x] => if cs = (M.2.2.2.2.2.1, M.2.2.2.2.2.2.1) then some (some (.ref x), w) else none
      | _ => none
    | .return_ => match st with
      | [] => if cs = (M.2.2.2.2.2.1, M.2.2.2.2.2.2.1) then some (none, w) else none
      | _ => none
    | .new _ => if 1000 ≤ w.1.length ∨ M.2.2.2.2.2.1 < cs.1 + 1 ∨ M.2.2.2.2.2.2.1 < cs.2 + sm_N (ops.getD 0 0) then none else
        sm_blk P S rec jmp d M fall is lv (.ref w.1.length :: st) (w.1 ++ [(0, ops.getD 0 0)], sm_row w.2.1 w.1.length (fun _ => 0), w.2.2.1, sm_row w.2.2.2 w.1.length (fun _ => none)) (cs.1 + 1, cs.2 + sm_N (ops.getD 0 0))
    | .newarray _ => match st with
      | .int n :: r => if n < 0 ∨ 100000 < n.toNatClampNeg ∨ 1000 ≤ w.1.length ∨ M.2.2.2.2.2.1 < cs.1 + 1 ∨ M.2.2.2.2.2.2.1 < cs.2 + n.toNatClampNeg then none else
        sm_blk P S rec jmp d M fall is lv (.ref w.1.length :: r) (w.1 ++ [(ops.getD 0 0 + 1, n.toNatClampNeg)], sm_row w.2.1 w.1.length (fun _ => 0), sm_row w.2.2.1 w.1.length (fun _ => 0), w.2.2.2) (cs.1 + 1, cs.2 + n.toNatClampNeg)
      | _ => none
    | _ => sm_else P S rec d M i ops lv st w cs (fun lv st w cs => sm_blk P S rec jmp d M fall is lv st w cs)
def sm_go (P : Nat → sm_M) (S : sm_C) (rec : Nat → Nat → Nat → List Value → List Value → sm_W → Nat × Nat → Option sm_Z) (d f : Nat) (M : sm_M) : Nat → Nat → sm_V → List Value → sm_W → Nat × Nat → Option sm_Z
  | 0, _, _, _, _, _ => none
  | n + 1, b, lv, st, w, cs => if b = 0 then none else match M.2.2.2.2.2.2.2.2[b]? with
    | none => none
    | some (_, some live, _, _) => match sm_pick live lv with
      | none => none
      | some vs => rec d f b vs st w cs
    | some (_, none, fall, is) => sm_blk P S rec (sm_go P S rec d f M n) d M fall is lv st w cs
def sm_F (P : Nat → sm_M) (S : sm_C) (rec : Nat → Nat → Nat → List Value → List Value → sm_W → Nat × Nat → Option sm_Z) (d f b : Nat) (vs st : List Value) (w : sm_W) (cs : Nat × Nat) : Option sm_Z :=
  match (P f).2.2.2.2.2.2.2.2[b]? with
  | some (_, some live, fall, is) => sm_blk P S rec (sm_go P S rec d f (P f) 64) d (P f) fall is (if b = 0 then lv_args 0 vs else live.zip vs) st w cs
  | _ => none
def sm_run (P : Nat → sm_M) (S : sm_C) : Nat → Nat → Nat → Nat → List Value → List Value → sm_W → Nat × Nat → Option sm_Z
  | 0, _, _, _, _, _, _, _ => none
  | n + 1, d, f, b, vs, st, w, cs => sm_F P S (sm_run P S n) d f b vs st w cs
end
section
/-! the world that the small machine's cells are in the heap: cell k lies at base + k -/
def sm_wl : List Cond := lw_tbl.filter goodWord
theorem sm_wl_good {w : Cond} (h : w ∈ sm_wl) : (w.onTables && w.keeps) = true ∨ ∃ ty, w = .arrayClass ty := good_of_word (List.mem_filter.mp h).2
def sm_chunk (k : Nat) : List Cond := match k with
  | 0 => tables_1_1
  | 1 => tables_1_2
  | 2 => tables_1_3
  | 3 => tables_1_4
  | 4 => tables_1_5
  | 5 => tables_1_6
  | 6 => tables_1_7
  | 7 => tables_1_8
  | 8 => tables_1_9
  | 9 => k2_sels lw_privs_1
  | 10 => k2_sels lw_privs_2
  | 11 => k2_sels lw_privs_3
  | 12 => k2_sels lw_privs_4
  | 13 => k2_sels lw_privs_5
  | 14 => k2_sels lw_privs_6
  | 15 => k2_sels lw_privs_7
  | 16 => k2_sels lw_privs_8
  | _ => []
theorem sm_sels_app (a b : List (MethodName × Nat)) : k2_sels (a ++ b) = k2_sels a ++ k2_sels b := List.map_append
theorem sm_chunk_in {k : Nat} {w : Cond} (h : w ∈ sm_chunk k) : w ∈ lw_tbl := by
  have ht : ∀ u, u ∈ tables_1 → u ∈ lw_tbl := fun u hu => List.mem_append_right _ hu
  have hp : ∀ u, u ∈ k2_sels lw_privs → u ∈ lw_tbl := fun u hu => List.mem_append_left _ hu
  unfold sm_chunk at h
  split at h
  · exact ht w (by unfold tables_1; simp only [List.mem_append]; simp [h])
  · exact ht w (by unfold tables_1; simp only [List.mem_append]; simp [h])
  · exact ht w (by unfold tables_1; simp only [List.mem_append]; simp [h])
  · exact ht w (by unfold tables_1; simp only [List.mem_append]; simp [h])
  · exact ht w (by unfold tables_1; simp only [List.mem_append]; simp [h])
  · exact ht w (by unfold tables_1; simp only [List.mem_append]; simp [h])
  · exact ht w (by unfold tables_1; simp only [List.mem_append]; simp [h])
  · exact ht w (by unfold tables_1; simp only [List.mem_append]; simp [h])
  · exact ht w (by unfold tables_1; simp only [List.mem_append]; simp [h])
  · exact hp w (by unfold lw_privs; simp only [sm_sels_app, List.mem_append]; simp [h])
  · exact hp w (by unfold lw_privs; simp only [sm_sels_app, List.mem_append]; simp [h])
  · exact hp w (by unfold lw_privs; simp only [sm_sels_app, List.mem_append]; simp [h])
  · exact hp w (by unfold lw_privs; simp only [sm_sels_app, List.mem_append]; simp [h])
  · exact hp w (by unfold lw_privs; simp only [sm_sels_app, List.mem_append]; simp [h])
  · exact hp w (by unfold lw_privs; simp only [sm_sels_app, List.mem_append]; simp [h])
  · exact hp w (by unfold lw_privs; simp only [sm_sels_app, List.mem_append]; simp [h])
  · exact hp w (by unfold lw_privs; simp only [sm_sels_app, List.mem_append]; simp [h])
  · cases h
/-- the word is the one at that place of the tables -/
def sm_has (pos : Nat) (w : Cond) : Bool := decide ((sm_chunk (pos / 256))[pos % 256]? = some w) && goodWord w
theorem sm_has_in {pos : Nat} {w : Cond} (h : sm_has pos w = true) : w ∈ sm_wl := by
  simp only [sm_has, Bool.and_eq_true, decide_eq_true_eq] at h
  exact List.mem_filter.mpr ⟨sm_chunk_in (List.mem_of_getElem? h.1), h.2⟩
theorem sm_inw0 (k j : Nat) {w : Cond} (h : (sm_chunk k)[j]? = some w) (hg : goodWord w = true) : w ∈ sm_wl := List.mem_filter.mpr ⟨sm_chunk_in (List.mem_of_getElem? h), hg⟩
def sm_ty : Nat → FieldType
  | 0 => .int
  | 1 => .byte
  | 2 => .boolean
  | _ => .long
def sm_tys (ct : Nat → ClassId) : List (ClassId × FieldType) := [(ct 0, .int), (ct 1, .byte), (ct 2, .boolean), (ct 3, .long)]
def sm_ad (base : Nat) (tt : Nat → Nat) (p : Nat) : Nat := if p < 1000 then base + p else tt (p - 1000)
def sm_cv (base : Nat) (tt : Nat → Nat) : Value → Value
  | .ref p => .ref (sm_ad base tt p)
  | v => v
def sm_cq (base : Nat) (tt : Nat → Nat) (q : Nat × Value) : Nat × Value := (q.1, sm_cv base tt q.2)
def sm_fv (base : Nat) (tt : Nat → Nat) (w : sm_W) (c k j : Nat) : Value := if sm_cd c j = 1 then sm_cv base tt (sm_rv (w.2.2.2 k j)) else .int (w.2.1 k j)
def sm_fs (base : Nat) (tt : Nat → Nat) (w : sm_W) (c k : Nat) : List Value := (List.range (sm_N c)).map (sm_fv base tt w c k)
def sm_E (base : Nat) (ct : Nat → ClassId) (tt : Nat → Nat) (w : sm_W) (k : Nat) (q : Nat × Nat) : Nat × va_E := (base + k, match q with
  | (0, c) => .inr (c, sm_fs base tt w c k)
  | (t + 1, n) => .inl (ct t, n, if t = 3 then .inr (.inl (w.2.2.1 k)) else .inl (w.2.1 k)))
def sm_ws (base : Nat) (ct : Nat → ClassId) (tt : Nat → Nat) (w : sm_W) : va_W := w.1.mapIdx (sm_E base ct tt w)
def sm_A (base : Nat) : Nat → Prop := fun q => base ≤ q
section SmWorld
variable {base : Nat} {ct : Nat → ClassId} {tt : Nat → Nat} {lay : List (Nat × Nat)} {m m' : sm_Y} {p : Nat}
theorem sm_cv_cat (v : Value) : (sm_cv base tt v).category = v.category := by cases v <;> rfl
theorem sm_cats (r : List Value) : ((r.map (sm_cv base tt)).map fun v => v.category) = r.map fun v => v.category := by
  rw [List.map_map]; exact List.map_congr_left (fun v _ => sm_cv_cat v)
theorem sm_ws_get (w : sm_W) (k : Nat) : (sm_ws base ct tt w)[k]? = w.1[k]?.map (sm_E base ct tt w k) := by
  simp [sm_ws, List.getElem?_mapIdx]
theorem sm_lt {α : Type} {l : List α} {k : Nat} {q : α} (h : l[k]? = some q) : k < l.length := (List.getElem?_eq_some_iff.mp h).1
theorem sm_ad_w (h : p < 1000) : sm_ad base tt p = base + p := by simp [sm_ad, h]
theorem sm_ad_s (h : 1000 ≤ p) : sm_ad base tt p = tt (p - 1000) := by simp [sm_ad, Nat.not_lt.mpr h]
theorem sm_at (hn : lay.length ≤ 1000) {q : Nat × Nat} (h : lay[p]? = some q) : (sm_ws base ct tt (lay, m))[p]? = some (sm_ad base tt p, (sm_E base ct tt (lay, m) p q).2) := by
  rw [sm_ws_get]
  show lay[p]?.map _ = _
  rw [h, sm_ad_w (Nat.lt_of_lt_of_le (sm_lt h) hn)]
  rfl
theorem sm_atI (hn : lay.length ≤ 1000) {n t : Nat} (h : lay[p]? = some (t + 1, n)) (ht : ¬ t = 3) : (sm_ws base ct tt (lay, m))[p]? = some (sm_ad base tt p, .inl (ct t, n, .inl (m.1 p))) := by
  rw [sm_at hn h]; simp [sm_E, ht]
theorem sm_atL (hn : lay.length ≤ 1000) {n : Nat} (h : lay[p]? = some (4, n)) : (sm_ws base ct tt (lay, m))[p]? = some (sm_ad base tt p, .inl (ct 3, n, .inr (.inl (m.2.1 p)))) := by
  rw [sm_at hn h]; simp [sm_E]
theorem sm_atO (hn : lay.length ≤ 1000) {c : Nat} (h : lay[p]? = some (0, c)) : (sm_ws base ct tt (lay, m))[p]? = some (sm_ad base tt p, .inr (c, sm_fs base tt (lay, m) c p)) := by
  rw [sm_at hn h]; simp [sm_E]
theorem sm_atA (hn : lay.length ≤ 1000) {n t : Nat} (h : lay[p]? = some (t + 1, n)) : ∃ x : vp_A, x.1 = n ∧ (sm_ws base ct tt (lay, m))[p]? = some (sm_ad base tt p, .inl (ct t, x)) := by
  rw [sm_at hn h]; exact ⟨(n, if t = 3 then .inr (.inl (m.2.1 p)) else .inl (m.1 p)), rfl, rfl⟩
theorem sm_D (w : sm_W) : va_D (sm_A base) (sm_ws base ct tt w) := by
  refine ⟨fun i j x y hx hy hxy => ?_, fun k q hk => ?_⟩
  · rw [sm_ws_get] at hx hy
    obtain ⟨u, -, rfl⟩ := Option.map_eq_some_iff.mp hx
    obtain ⟨v, -, rfl⟩ := Option.map_eq_some_iff.mp hy
    exact Nat.add_left_cancel hxy
  · rw [sm_ws_get] at hk
    obtain ⟨u, -, rfl⟩ := Option.map_eq_some_iff.mp hk
    exact Nat.le_add_right base k
/-- one cell changes -/
theorem sm_set (hn : lay.length ≤ 1000) {q : Nat × Nat} {e : va_E} (h : lay[p]? = some q) (ho : ∀ k, k ≠ p → ∀ u, sm_E base ct tt (lay, m') k u = sm_E base ct tt (lay, m) k u) (he : (sm_E base ct tt (lay, m') p q).2 = e) :
    (sm_ws base ct tt (lay, m)).set p (sm_ad base tt p, e) = sm_ws base ct tt (lay, m') := by
  have hp := sm_lt h
  refine List.ext_getElem? (fun k => ?_)
  rw [List.getElem?_set, sm_ws_get, sm_ws_get]
  show _ = lay[k]?.map _
  by_cases hk : p = k
  · subst hk
    have hl : p < (sm_ws base ct tt (lay, m)).length := by simp [sm_ws]; exact hp
    rw [if_pos rfl, if_pos hl, h, sm_ad_w (Nat.lt_of_lt_of_le hp hn), ← he]
    rfl
  · rw [if_neg hk]
    show lay[k]?.map _ = _
    cases lay[k]? with
    | none => rfl
    | some u => simp [ho k (fun x => hk x.symm) u]
theorem sm_E_I {j : Nat} {x : Int32} {k : Nat} (hk : k ≠ p) (u : Nat × Nat) : sm_E base ct tt (lay, sm_up m.1 p j x, m.2) k u = sm_E base ct tt (lay, m) k u := by
  unfold sm_E sm_fs sm_fv sm_up; simp [hk]
theorem sm_E_L {j : Nat} {x : Int64} {k : Nat} (hk : k ≠ p) (u : Nat × Nat) : sm_E base ct tt (lay, m.1, sm_up m.2.1 p j x, m.2.2) k u = sm_E base ct tt (lay, m) k u := by
  unfold sm_E sm_fs sm_fv sm_up; simp [hk]
theorem sm_E_R {j : Nat} {x : Option Nat} {k : Nat} (hk : k ≠ p) (u : Nat × Nat) : sm_E base ct tt (lay, m.1, m.2.1, sm_up m.2.2 p j x) k u = sm_E base ct tt (lay, m) k u := by
  unfold sm_E sm_fs sm_fv sm_up; simp [hk]
theorem sm_E_row {g : Nat → Int32} {k : Nat} (hk : k ≠ p) (u : Nat × Nat) : sm_E base ct tt (lay, sm_row m.1 p g, m.2) k u = sm_E base ct tt (lay, m) k u := by
  unfold sm_E sm_fs sm_fv sm_row; simp [hk]
theorem sm_upI (f : Nat → Nat → Int32) (p j : Nat) (x : Int32) : sm_up f p j x p = upd (f p) j x := by
  unfold sm_up; rw [if_pos rfl]; rfl
theorem sm_upL (f : Nat → Nat → Int64) (p j : Nat) (x : Int64) : sm_up f p j x p = vp_updL (f p) j x := by
  unfold sm_up; rw [if_pos rfl]; rfl
theorem sm_setI (hn : lay.length ≤ 1000) {n t j : Nat} {x : Int32} (h : lay[p]? = some (t + 1, n)) (ht : ¬ t = 3) : (sm_ws base ct tt (lay, m)).set p (sm_ad base tt p, .inl (ct t, n, .inl (upd (m.1 p) j x))) = sm_ws base ct tt (lay, sm_up m.1 p j x, m.2) :=
  sm_set hn h (fun k hk u => sm_E_I hk u) (by simp [sm_E, ht, sm_upI])
theorem sm_setL (hn : lay.length ≤ 1000) {n j : Nat} {x : Int64} (h : lay[p]? = some (4, n)) : (sm_ws base ct tt (lay, m)).set p (sm_ad base tt p, .inl (ct 3, n, .inr (.inl (vp_updL (m.2.1 p) j x)))) = sm_ws base ct tt (lay, m.1, sm_up m.2.1 p j x, m.2.2) :=
  sm_set hn h (fun k hk u => sm_E_L hk u) (by simp [sm_E, sm_upL])
theorem sm_setRow (hn : lay.length ≤ 1000) {n : Nat} {g : Nat → Int32} (h : lay[p]? = some (1, n)) : (sm_ws base ct tt (lay, m)).set p (sm_ad base tt p, .inl (ct 0, n, .inl g)) = sm_ws base ct tt (lay, sm_row m.1 p g, m.2) :=
  sm_set hn h (fun k hk u => sm_E_row hk u) (by simp [sm_E, sm_row])
theorem sm_fs_get {w : sm_W} {c k j : Nat} (hj : j < sm_N c) : (sm_fs base tt w c k)[j]? = some (sm_fv base tt w c k j) := by
  simp [sm_fs, hj]
theorem sm_fs_len {w : sm_W} {c k : Nat} : (sm_fs base tt w c k).length = sm_N c := by simp [sm_fs]
theorem sm_fs_set {m m' : sm_Y} {c k j : Nat} {v : Value} (hj : j < sm_N c) (hv : sm_fv base tt (lay, m') c k j = v) (ho : ∀ i, i ≠ j → sm_fv base tt (lay, m') c k i = sm_fv base tt (lay, m) c k i) : (sm_fs base tt (lay, m) c k).set j v = sm_fs base tt (lay, m') c k := by
  refine List.ext_getElem? (fun i => ?_)
  rw [List.getElem?_set, sm_fs_len]
  by_cases hi : j = i
  · subst hi
    rw [if_pos rfl, if_pos hj, sm_fs_get hj, hv]
  · rw [if_neg hi]
    by_cases hl : i < sm_N c
    · rw [sm_fs_get hl, sm_fs_get hl, ho i (fun x => hi x.symm)]
    · rw [List.getElem?_eq_none (by rw [sm_fs_len]; omega), List.getElem?_eq_none (by rw [sm_fs_len]; omega)]
theorem sm_setFI (hn : lay.length ≤ 1000) {c j : Nat} {x : Int32} (h : lay[p]? = some (0, c)) (hj : j < sm_N c) (hc : ¬ sm_cd c j = 1) : (sm_ws base ct tt (lay, m)).set p (sm_ad base tt p, .inr (c, (sm_fs base tt (lay, m) c p).set j (.int x))) = sm_ws base ct tt (lay, sm_up m.1 p j x, m.2) :=
  sm_set hn h (fun k hk u => sm_E_I hk u) (by
    show Sum.inr (c, _) = Sum.inr (c, _)
    rw [sm_fs_set (m' := (sm_up m.1 p j x, m.2)) hj]
    · simp [sm_fv, hc, sm_up]
    · intro i hi; simp [sm_fv, sm_up, hi])
theorem sm_setFR (hn : lay.length ≤ 1000) {c j : Nat} {x : Option Nat} (h : lay[p]? = some (0, c)) (hj : j < sm_N c) (hc : sm_cd c j = 1) : (sm_ws base ct tt (lay, m)).set p (sm_ad base tt p, .inr (c, (sm_fs base tt (lay, m) c p).set j (sm_cv base tt (sm_rv x)))) = sm_ws base ct tt (lay, m.1, m.2.1, sm_up m.2.2 p j x) :=
  sm_set hn h (fun k hk u => sm_E_R hk u) (by
    show Sum.inr (c, _) = Sum.inr (c, _)
    rw [sm_fs_set (m' := (m.1, m.2.1, sm_up m.2.2 p j x)) hj]
    · simp [sm_fv, hc, sm_up]
    · intro i hi; simp [sm_fv, sm_up, hi])
theorem sm_E_new {k : Nat} {w w' : sm_W} (h1 : w'.2.1 k = w.2.1 k) (h2 : w'.2.2.1 k = w.2.2.1 k) (h3 : w'.2.2.2 k = w.2.2.2 k) (u : Nat × Nat) : sm_E base ct tt w' k u = sm_E base ct tt w k u := by
  unfold sm_E sm_fs sm_fv; rw [h1, h2, h3]
/-- one more cell -/
theorem sm_push {q : Nat × Nat} (h : ∀ k, k < lay.length → ∀ u, sm_E base ct tt (lay ++ [q], m') k u = sm_E base ct tt (lay, m) k u) : sm_ws base ct tt (lay ++ [q], m') = sm_ws base ct tt (lay, m) ++ [(base + lay.length, (sm_E base ct tt (lay ++ [q], m') lay.length q).2)] := by
  refine List.ext_getElem? (fun k => ?_)
  rw [sm_ws_get, List.getElem?_append, List.getElem?_append, sm_ws_get]
  have hl : (sm_ws base ct tt (lay, m)).length = lay.length := by simp [sm_ws]
  rw [hl]
  by_cases hk : k < lay.length
  · rw [if_pos hk, if_pos hk]
    show lay[k]?.map _ = lay[k]?.map _
    cases hq : lay[k]? with
    | none => rfl
    | some u => simp [h k hk u]
  · rw [if_neg hk, if_neg hk]
    by_cases h0 : k = lay.length
    · subst h0; simp [sm_E]
    · rw [List.getElem?_eq_none (by simp; omega), List.getElem?_eq_none (by simp; omega)]; rfl
end SmWorld
end
section
/-! each instruction: the machine does what the small machine does -/
def sm_stn : List (String × String × String) := [("NightHours$Tokens", "WORDS", "[J"), ("NightHours$Grammar", "STEPS", "[I"), ("NightHours$Grammar", "ROOM", "[I"), ("NightHours$Asking", "WITH_YES", "[I")]
def sm_nest : List (String × Nat × MethodName) := [("NightHours", 15, ⟨"NightHours$Reader", "<init>", "()V"⟩), ("NightHours$Reader", 11, ⟨"NightHours$Tokens", "<init>", "()V"⟩), ("NightHours$Reader", 20, ⟨"NightHours$Grammar", "<init>", "()V"⟩), ("NightHours", 29, ⟨"NightHours$Book", "<init>", "()V"⟩)]
def sm_G (base : Nat) (ct : Nat → ClassId) (tt : Nat → Nat) (D : va_G) (S : sm_C) (U : State) : Prop :=
  va_K D vwCl (sm_tys ct) U ∧ base ≤ U.heap.size ∧
  (∀ k q, sm_stn[k]? = some q → va_Z q.1 q.2.1 q.2.2 (.ref (tt k)) (sm_A base) U U.heap) ∧
  (∀ p q, sm_sI S p = some q → 1000 ≤ p ∧ va_T .int (tt (p - 1000)) q.1 (fun j => .int (q.2 j)) (sm_A base) U U.heap) ∧
  (∀ p q, sm_sL p = some q → 1000 ≤ p ∧ va_T .long (tt (p - 1000)) q.1 (fun j => .long (q.2 j)) (sm_A base) U U.heap) ∧
  (∀ q ∈ sm_nest, va_Nw (.methodLinkNest q.1 q.2.1 q.2.2 "NightHours") U)
def sm_X (base : Nat) (ct : Nat → ClassId) (tt : Nat → Nat) (D : va_G) (S : sm_C) (M : sm_M) (d : Nat) (p : Program) (R : Room) (s : State) (m : MethodId) (args : Array Value) (meth : Method) (c : Code) : Prop :=
  p.tables.exec = Jvm.exec ∧ c.code = M.2.1 ∧ c.maxLocals = M.2.2.1 ∧ s.vm.findClass M.1.cls = some m.cls ∧ (∀ w ∈ sm_wl, w.before args s = true) ∧ (M.1.name = "<init>" → meth.name = "<init>") ∧
  d + 1 ≤ R.frames ∧ 80 * d + 100 ≤ R.locals ∧ M.2.2.2.2.2.1 ≤ R.cells ∧ M.2.2.2.2.2.2.1 ≤ R.slots ∧ sm_G base ct tt D S s
def sm_TW (base : Nat) (ct : Nat → ClassId) (tt : Nat → Nat) (D : va_G) (M : sm_M) (p : Program) (l : Launch) (e : Env) (R : Room) (s : State) (m : MethodId) (args : Array Value) (below : List Frame) (meth : Method) (c : Code) (Q : State → Prop)
    (pc : Nat) (lv : sm_V) (st : List Value) (w : sm_W) (cs : Nat × Nat) : Prop :=
  ∀ (H : Heap) (locs : List Loc) (ls : Array Slot), lv_has ls M.2.2.1 (lv.map (sm_cq base tt)) → va_P D vwCl (sm_ws base ct tt w) H → va_S (sm_A base) s.heap H locs → s.heap.size + cs.1 = base + w.1.length → w.1.length ≤ 1000 → (cs.1 ≤ M.2.2.2.2.2.1 ∧ cs.2 ≤ M.2.2.2.2.2.2.1) →
    W p l e R s m args below meth c H locs cs.1 cs.2 Q (F0 m pc ls (st.map (sm_cv base tt)))
/-! what the kinds' tables say -/
def sm_fty : Nat → Nat → FieldType
  | 0 => tyX0
  | 1 => tyX1
  | 2 => tyX2
  | 3 => tyX3
  | 4 => tyX4
  | 5 => tyX5
  | 6 => tyX6
  | 7 => tyX7
  | 8 => tyX8
  | 9 => tyX9
  | 10 => tyX10
  | 11 => tyX11
  | _ => tyX12
def sm_CF : Prop := ∀ (ci : Nat) (C : String) (T : u_T) (N : Nat), vwCl[ci]? = some (C, T, N) → (∀ w ∈ u_ws C T N, w ∈ sm_wl) ∧ (∀ k, k < N → parseFieldDescriptor (T k).2.2.1 = some (sm_fty ci k)) ∧ (∀ a, a < N → ∀ b, b < N → a ≠ b → (T a).2.1 ≠ (T b).2.1) ∧ sm_N ci = N ∧
  ∀ k, k < N → (sm_cd ci k = 0 → sm_fty ci k = .int) ∧ (sm_cd ci k = 2 → sm_fty ci k = .boolean) ∧ (sm_cd ci k = 1 → (∃ n, sm_fty ci k = .object n) ∨ ∃ t, sm_fty ci k = .array t) ∧ sm_cd ci k ≤ 2
theorem sm_lk_in : ∀ {lv : sm_V} {i : Nat} {v : Value}, sm_lk lv i = some v → (i, v) ∈ lv
  | (j, u) :: r, i, v, h => by
    unfold sm_lk at h
    split at h
    · next e => subst e; cases h; exact List.mem_cons_self
    · exact List.mem_cons_of_mem _ (sm_lk_in h)
theorem sm_lk_ls {base : Nat} {tt : Nat → Nat} {lv : sm_V} {i : Nat} {v : Value} {ls : Array Slot} {n : Nat} (hl : lv_has ls n (lv.map (sm_cq base tt))) (h : sm_lk lv i = some v) : ls[i]? = some (.val (sm_cv base tt v)) :=
  hl.2.2 (i, sm_cv base tt v) (List.mem_map.mpr ⟨(i, v), sm_lk_in h, rfl⟩)
theorem sm_s1_map {base : Nat} {tt : Nat → Nat} {lv : sm_V} {i : Nat} {v : Value} : (i, sm_cv base tt v) :: (lv.map (sm_cq base tt)).filter (fun q => !(q.1 == i) && !(q.1 + 1 == i && q.2.category == 2)) = (sm_s1 lv i v).map (sm_cq base tt) := by
  unfold sm_s1
  rw [List.map_cons, List.filter_map]
  congr 1
  congr 1
  refine List.filter_congr (fun q _ => ?_)
  simp [sm_cq, sm_cv_cat]
theorem sm_s2_map {base : Nat} {tt : Nat → Nat} {lv : sm_V} {i : Nat} {v : Value} : (i, sm_cv base tt v) :: (lv.map (sm_cq base tt)).filter (fun q => !(q.1 == i) && (!(q.1 == i + 1) && !(q.1 + 1 == i && q.2.category == 2))) = (sm_s2 lv i v).map (sm_cq base tt) := by
  unfold sm_s2
  rw [List.map_cons, List.filter_map]
  congr 1
  congr 1
  refine List.filter_congr (fun q _ => ?_)
  simp [sm_cq, sm_cv_cat]
section SmSteps
variable {base : Nat} {ct : Nat → ClassId} {tt : Nat → Nat} {D : va_G} {S : sm_C} {M : sm_M} {d : Nat} {p : Program} {l : Launch} {e : Env} {R : Room} {s : State} {m : MethodId} {args : Array Value} {below : List Frame} {meth : Method} {c : Code} {Q : State → Prop}
variable {pc : Nat} {lv lv' : sm_V} {st st' r : List Value} {lay : List (Nat × Nat)} {me me' : sm_Y} {cs : Nat × Nat} {ops : List Nat}
/-! what an outcome says of the stack -/
theorem sm_p_of {o : Option (List Value)} (h : sm_p lv me o = some (lv', st', me')) : o = some st' ∧ lv' = lv ∧ me' = me := by
  cases o with
  | none => cases h
  | some u => cases h; exact ⟨rfl, rfl, rfl⟩
theorem sm_ii_of {f : Int32 → Int32 → Int32} (h : sm_ii f st = some st') : ∃ x y r, st = .int y :: .int x :: r ∧ st' = .int (f x y) :: r := by
  unfold sm_ii at h; split at h
  · cases h; exact ⟨_, _, _, rfl, rfl⟩
  · cases h
theorem sm_iq_of {f : Int32 → Int32 → Int32} (h : sm_iq f st = some st') : ∃ x y r, st = .int y :: .int x :: r ∧ ¬ y = 0 ∧ st' = .int (f x y) :: r := by
  unfold sm_iq at h; split at h
  · split at h
    · cases h
    · next hz => cases h; exact ⟨_, _, _, rfl, hz, rfl⟩
  · cases h
theorem sm_ll_of {f : Int64 → Int64 → Int64} (h : sm_ll f st = some st') : ∃ x y r, st = .long y :: .long x :: r ∧ st' = .long (f x y) :: r := by
  unfold sm_ll at h; split at h
  · cases h; exact ⟨_, _, _, rfl, rfl⟩
  · cases h
theorem sm_li_of {f : Int64 → Int32 → Int64} (h : sm_li f st = some st') : ∃ x y r, st = .int y :: .long x :: r ∧ st' = .long (f x y) :: r := by
  unfold sm_li at h; split at h
  · cases h; exact ⟨_, _, _, rfl, rfl⟩
  · cases h
theorem sm_i1_of {f : Int32 → Value} (h : sm_i1 f st = some st') : ∃ x r, st = .int x :: r ∧ st' = f x :: r := by
  unfold sm_i1 at h; split at h
  · cases h; exact ⟨_, _, rfl, rfl⟩
  · cases h
theorem sm_l1_of {f : Int64 → Value} (h : sm_l1 f st = some st') : ∃ x r, st = .long x :: r ∧ st' = f x :: r := by
  unfold sm_l1 at h; split at h
  · cases h; exact ⟨_, _, rfl, rfl⟩
  · cases h
theorem sm_lc_of (h : sm_lc st = some st') : ∃ x y r, st = .long y :: .long x :: r ∧ st' = .int (lg_cmp x y) :: r := by
  unfold sm_lc at h; split at h
  · cases h; exact ⟨_, _, _, rfl, rfl⟩
  · cases h
theorem sm_ldi_of {i : Nat} (h : sm_ldi lv i st = some st') : ∃ x, sm_lk lv i = some (.int x) ∧ st' = .int x :: st := by
  unfold sm_ldi at h; split at h
  · next e => cases h; exact ⟨_, e, rfl⟩
  · cases h
theorem sm_ldl_of {i : Nat} (h : sm_ldl lv i st = some st') : ∃ x, sm_lk lv i = some (.long x) ∧ st' = .long x :: st := by
  unfold sm_ldl at h; split at h
  · next e => cases h; exact ⟨_, e, rfl⟩
  · cases h
theorem sm_lda_of {i : Nat} (h : sm_lda lv i st = some st') : (∃ x, sm_lk lv i = some (.ref x) ∧ st' = .ref x :: st) ∨ (sm_lk lv i = some .null ∧ st' = .null :: st) := by
  unfold sm_lda at h; split at h
  · next e => cases h; exact Or.inl ⟨_, e, rfl⟩
  · next e => cases h; exact Or.inr ⟨e, rfl⟩
  · cases h
theorem sm_sti_of {i n : Nat} (h : sm_sti lv i n st me = some (lv', st', me')) : ∃ x, st = .int x :: st' ∧ i < n ∧ lv' = sm_s1 lv i (.int x) ∧ me' = me := by
  unfold sm_sti at h; split at h
  · split at h
    · next hi => cases h; exact ⟨_, rfl, hi, rfl, rfl⟩
    · cases h
  · cases h
theorem sm_stl_of {i n : Nat} (h : sm_stl lv i n st me = some (lv', st', me')) : ∃ x, st = .long x :: st' ∧ i + 1 < n ∧ lv' = sm_s2 lv i (.long x) ∧ me' = me := by
  unfold sm_stl at h; split at h
  · split at h
    · next hi => cases h; exact ⟨_, rfl, hi, rfl, rfl⟩
    · cases h
  · cases h
theorem sm_sta_of {i n : Nat} (h : sm_sta lv i n st me = some (lv', st', me')) : i < n ∧ me' = me ∧ ((∃ x, st = .ref x :: st' ∧ lv' = sm_s1 lv i (.ref x)) ∨ (st = .null :: st' ∧ lv' = sm_s1 lv i .null)) := by
  unfold sm_sta at h; split at h
  · split at h
    · next hi => cases h; exact ⟨hi, rfl, Or.inl ⟨_, rfl, rfl⟩⟩
    · cases h
  · split at h
    · next hi => cases h; exact ⟨hi, rfl, Or.inr ⟨rfl, rfl⟩⟩
    · cases h
  · cases h
theorem sm_inc_of {i n : Nat} {z : Int} (h : sm_inc lv i z n st me = some (lv', st', me')) : ∃ x, sm_lk lv i = some (.int x) ∧ i < n ∧ lv' = sm_s1 lv i (.int (x + Int32.ofInt z)) ∧ st' = st ∧ me' = me := by
  unfold sm_inc at h; split at h
  · next e => split at h
              · next hi => cases h; exact ⟨_, e, hi, rfl, rfl, rfl⟩
              · cases h
  · cases h
theorem sm_dup_of (h : sm_dup st = some st') : ∃ v r, st = v :: r ∧ v.category = 1 ∧ st' = v :: v :: r := by
  unfold sm_dup at h; split at h
  · split at h
    · next hc => cases h; exact ⟨_, _, rfl, hc, rfl⟩
    · cases h
  · cases h
theorem sm_dupx1_of (h : sm_dupx1 st = some st') : ∃ v u r, st = v :: u :: r ∧ v.category = 1 ∧ u.category = 1 ∧ st' = v :: u :: v :: r := by
  unfold sm_dupx1 at h; split at h
  · split at h
    · next hc => cases h; exact ⟨_, _, _, rfl, hc.1, hc.2, rfl⟩
    · cases h
  · cases h
theorem sm_dup2_of (h : sm_dup2 st = some st') : ∃ v u r, st = v :: u :: r ∧ v.category = 1 ∧ u.category = 1 ∧ st' = v :: u :: v :: u :: r := by
  unfold sm_dup2 at h; split at h
  · split at h
    · next hc => cases h; exact ⟨_, _, _, rfl, hc.1, hc.2, rfl⟩
    · cases h
  · cases h
theorem sm_pop_of (h : sm_pop st = some st') : ∃ v, st = v :: st' ∧ v.category = 1 := by
  unfold sm_pop at h; split at h
  · split at h
    · next hc => cases h; exact ⟨_, rfl, hc⟩
    · cases h
  · cases h
theorem sm_gI_of (h : sm_gI S lay me st = some st') : ∃ i a r, st = .int i :: .ref a :: r ∧ ((∃ n, lay[a]? = some (1, n) ∧ vp_in i n ∧ st' = .int (me.1 a i.toNatClampNeg) :: r) ∨ (∃ q, sm_sI S a = some q ∧ vp_in i q.1 ∧ st' = .int (q.2 i.toNatClampNeg) :: r)) := by
  unfold sm_gI at h; split at h
  · split at h
    · next e => split at h
                · cases h
                · next hi => cases h; exact ⟨_, _, _, rfl, Or.inl ⟨_, e, hi, rfl⟩⟩
    · cases h
    · split at h
      · next e => split at h
                  · cases h
                  · next hi => cases h; exact ⟨_, _, _, rfl, Or.inr ⟨_, e, hi, rfl⟩⟩
      · cases h
  · cases h
theorem sm_gB_of (h : sm_gB lay me st = some st') : ∃ i a r n, st = .int i :: .ref a :: r ∧ (lay[a]? = some (2, n) ∨ lay[a]? = some (3, n)) ∧ vp_in i n ∧ st' = .int (me.1 a i.toNatClampNeg) :: r := by
  unfold sm_gB at h; split at h
  · split at h
    · next e => split at h
                · cases h
                · next hi => cases h; exact ⟨_, _, _, _, rfl, Or.inl e, hi, rfl⟩
    · next e => split at h
                · cases h
                · next hi => cases h; exact ⟨_, _, _, _, rfl, Or.inr e, hi, rfl⟩
    · cases h
  · cases h
theorem sm_gL_of (h : sm_gL lay me st = some st') : ∃ i a r, st = .int i :: .ref a :: r ∧ ((∃ n, lay[a]? = some (4, n) ∧ vp_in i n ∧ st' = .long (me.2.1 a i.toNatClampNeg) :: r) ∨ (∃ q, sm_sL a = some q ∧ vp_in i q.1 ∧ st' = .long (q.2 i.toNatClampNeg) :: r)) := by
  unfold sm_gL at h; split at h
  · split at h
    · next e => split at h
                · cases h
                · next hi => cases h; exact ⟨_, _, _, rfl, Or.inl ⟨_, e, hi, rfl⟩⟩
    · cases h
    · split at h
      · next e => split at h
                  · cases h
                  · next hi => cases h; exact ⟨_, _, _, rfl, Or.inr ⟨_, e, hi, rfl⟩⟩
      · cases h
  · cases h
theorem sm_len_of (h : sm_len S lay st = some st') : ∃ a r, st = .ref a :: r ∧ ((∃ t n, lay[a]? = some (t + 1, n) ∧ t < 4 ∧ st' = .int (Int32.ofNat n) :: r) ∨ (∃ q, sm_sI S a = some q ∧ st' = .int (Int32.ofNat q.1) :: r) ∨ (∃ q, sm_sL a = some q ∧ st' = .int (Int32.ofNat q.1) :: r)) := by
  unfold sm_len at h; split at h
  · split at h
    · cases h
    · next e => split at h
                · next ht => cases h; exact ⟨_, _, rfl, Or.inl ⟨_, _, e, ht, rfl⟩⟩
                · cases h
    · split at h
      · next e => cases h; exact ⟨_, _, rfl, Or.inr (Or.inl ⟨_, e, rfl⟩)⟩
      · split at h
        · next e => cases h; exact ⟨_, _, rfl, Or.inr (Or.inr ⟨_, e, rfl⟩)⟩
        · cases h
  · cases h
theorem sm_pI_of (h : sm_pI lv lay me st = some (lv', st', me')) : ∃ x i a n, st = .int x :: .int i :: .ref a :: st' ∧ lay[a]? = some (1, n) ∧ vp_in i n ∧ lv' = lv ∧ me' = (sm_up me.1 a i.toNatClampNeg x, me.2) := by
  unfold sm_pI at h; split at h
  · split at h
    · next e => split at h
                · cases h
                · next hi => cases h; exact ⟨_, _, _, _, rfl, e, hi, rfl, rfl⟩
    · cases h
  · cases h
theorem sm_pB_of (h : sm_pB lv lay me st = some (lv', st', me')) : ∃ x i a n, st = .int x :: .int i :: .ref a :: st' ∧ vp_in i n ∧ lv' = lv ∧ ((lay[a]? = some (2, n) ∧ me' = (sm_up me.1 a i.toNatClampNeg (vp_nar .byte x), me.2)) ∨ (lay[a]? = some (3, n) ∧ me' = (sm_up me.1 a i.toNatClampNeg (vp_nar .boolean x), me.2))) := by
  unfold sm_pB at h; split at h
  · split at h
    · next e => split at h
                · cases h
                · next hi => cases h; exact ⟨_, _, _, _, rfl, hi, rfl, Or.inl ⟨e, rfl⟩⟩
    · next e => split at h
                · cases h
                · next hi => cases h; exact ⟨_, _, _, _, rfl, hi, rfl, Or.inr ⟨e, rfl⟩⟩
    · cases h
  · cases h
theorem sm_pL_of (h : sm_pL lv lay me st = some (lv', st', me')) : ∃ x i a n, st = .long x :: .int i :: .ref a :: st' ∧ lay[a]? = some (4, n) ∧ vp_in i n ∧ lv' = lv ∧ me' = (me.1, sm_up me.2.1 a i.toNatClampNeg x, me.2.2) := by
  unfold sm_pL at h; split at h
  · split at h
    · next e => split at h
                · cases h
                · next hi => cases h; exact ⟨_, _, _, _, rfl, e, hi, rfl, rfl⟩
    · cases h
  · cases h
theorem sm_get_of {ci k : Nat} (h : sm_get lay me ci k st = some st') : ∃ a r, st = .ref a :: r ∧ lay[a]? = some (0, ci) ∧ ((sm_cd ci k = 1 ∧ st' = sm_rv (me.2.2 a k) :: r) ∨ (¬ sm_cd ci k = 1 ∧ st' = .int (me.1 a k) :: r)) := by
  unfold sm_get at h; split at h
  · split at h
    · next e => split at h
                · next hc =>
                  subst hc
                  split at h
                  · next h1 => cases h; exact ⟨_, _, rfl, e, Or.inl ⟨h1, rfl⟩⟩
                  · next h1 => cases h; exact ⟨_, _, rfl, e, Or.inr ⟨h1, rfl⟩⟩
                · cases h
    · cases h
  · cases h
theorem sm_put_of {ci k : Nat} (h : sm_put lv lay me ci k st = some (lv', st', me')) : ∃ a v, st = v :: .ref a :: st' ∧ lay[a]? = some (0, ci) ∧ lv' = lv ∧ ((∃ x, v = .int x ∧ sm_cd ci k = 0 ∧ me' = (sm_up me.1 a k x, me.2)) ∨ (∃ x, v = .int x ∧ sm_cd ci k = 2 ∧ (x = 0 ∨ x = 1) ∧ me' = (sm_up me.1 a k x, me.2)) ∨ (∃ q, v = sm_rv q ∧ sm_cd ci k = 1 ∧ me' = (me.1, me.2.1, sm_up me.2.2 a k q))) := by
  unfold sm_put at h; split at h
  · split at h
    · next e => split at h
                · next hc =>
                  subst hc
                  split at h
                  · next h1 => cases h; exact ⟨_, _, rfl, e, rfl, Or.inl ⟨_, rfl, h1, rfl⟩⟩
                  · next h1 => cases h; exact ⟨_, _, rfl, e, rfl, Or.inr (Or.inr ⟨some _, rfl, h1, rfl⟩)⟩
                  · next h1 => cases h; exact ⟨_, _, rfl, e, rfl, Or.inr (Or.inr ⟨none, rfl, h1, rfl⟩)⟩
                  · next h1 => split at h
                               · next h2 => cases h; exact ⟨_, _, rfl, e, rfl, Or.inr (Or.inl ⟨_, rfl, h1, h2, rfl⟩)⟩
                               · cases h
                  · cases h
                · cases h
    · cases h
  · cases h
theorem sm_cpy_of (h : sm_cpy lv lay me st = some (lv', st', me')) : ∃ n dp a sp a0 n0 n1, st = .int n :: .int dp :: .ref a :: .int sp :: .ref a0 :: st' ∧ lay[a0]? = some (1, n0) ∧ lay[a]? = some (1, n1) ∧ ¬ (sp < 0 ∨ dp < 0 ∨ n < 0 ∨ n0 < sp.toNatClampNeg + n.toNatClampNeg ∨ n1 < dp.toNatClampNeg + n.toNatClampNeg ∨ 8 < (st'.map fun v => v.category).sum) ∧ lv' = lv ∧ me' = (sm_row me.1 a (va_cpy (me.1 a0) (me.1 a) sp.toNatClampNeg dp.toNatClampNeg n.toNatClampNeg), me.2) := by
  unfold sm_cpy at h; split at h
  · split at h
    · next e1 e2 => split at h
                    · cases h
                    · next hi => cases h; exact ⟨_, _, _, _, _, _, _, rfl, e1, e2, hi, rfl, rfl⟩
    · cases h
  · cases h
theorem sm_ma_of {f : Int32 → Int32 → Int32} (h : sm_ma f st = some st') : ∃ x y r, st = .int y :: .int x :: r ∧ (r.map fun v => v.category).sum ≤ 8 ∧ st' = .int (f x y) :: r := by
  unfold sm_ma at h; split at h
  · split at h
    · next hc => cases h; exact ⟨_, _, _, rfl, hc, rfl⟩
    · cases h
  · cases h
theorem sm_mb_of {f : Int32 → Int32} (h : sm_mb f st = some st') : ∃ x r, st = .int x :: r ∧ (r.map fun v => v.category).sum ≤ 8 ∧ st' = .int (f x) :: r := by
  unfold sm_mb at h; split at h
  · split at h
    · next hc => cases h; exact ⟨_, _, rfl, hc, rfl⟩
    · cases h
  · cases h
theorem sm_oin_of (h : sm_oin st = some st') : ∃ a, st = .ref a :: st' ∧ (st'.map fun v => v.category).sum ≤ 8 := by
  unfold sm_oin at h; split at h
  · split at h
    · next hc => cases h; exact ⟨_, rfl, hc⟩
    · cases h
  · cases h
end SmSteps
end
section
/-! the instructions that stay in their block -/
def sm_ln : Instr → Nat
  | .bipush _ => 2
  | .iload _ => 2
  | .lload _ => 2
  | .aload _ => 2
  | .istore _ => 2
  | .lstore _ => 2
  | .astore _ => 2
  | .ldc _ => 2
  | .newarray _ => 2
  | .sipush _ => 3
  | .ldc_w _ => 3
  | .ldc2_w _ => 3
  | .iinc _ _ => 3
  | .getfield _ => 3
  | .putfield _ => 3
  | .getstatic _ => 3
  | .invokevirtual _ => 3
  | .invokestatic _ => 3
  | .invokespecial _ => 3
  | .new _ => 3
  | .goto _ => 3
  | .ifCond _ _ => 3
  | .if_icmp _ _ => 3
  | .ifnull _ => 3
  | .ifnonnull _ => 3
  | _ => 1
def sm_fl (M : sm_M) (x : Nat) (ci k pos : Nat) : Bool := match vwCl[ci]? with
  | some (C, T, N) => decide (k < N) && sm_has pos (.fieldLink M.1.cls x C (T k).2.1 (T k).2.2.1) && decide ((T k).1 = C)
  | none => false
def sm_fp (M : sm_M) (ci k : Nat) : Bool := match vwCl[ci]? with
  | some (_, T, _) => if (T k).2.2.2 = true then decide (M.1.name = "<init>") && decide ((T k).1 = M.1.cls) else true
  | none => false
def sm_gs (M : sm_M) (x a pos : Nat) : Bool := match sm_stn[a - 1000]? with
  | some q => decide (1000 ≤ a) && sm_has pos (.fieldLink M.1.cls x q.1 q.2.1 q.2.2)
  | none => false
def sm_okst (M : sm_M) (x : Nat) (ops : List Nat) : Bool := match ops with
  | 0 :: r => sm_has (r.getD 0 0) (.methodLink M.1.cls x arraycopyName) && sm_has (r.getD 1 0) (.native arraycopyName) && sm_has (r.getD 2 0) (.static arraycopyName) && sm_has (r.getD 3 0) (.initialized "java/lang/System")
  | 1 :: r => sm_has (r.getD 0 0) (.methodLink M.1.cls x Lib.Math.max.name) && sm_has (r.getD 1 0) (.static Lib.Math.max.name)
  | 2 :: r => sm_has (r.getD 0 0) (.methodLink M.1.cls x Lib.Math.min.name) && sm_has (r.getD 1 0) (.static Lib.Math.min.name)
  | 3 :: r => sm_has (r.getD 0 0) (.methodLink M.1.cls x Lib.Math.abs.name) && sm_has (r.getD 1 0) (.static Lib.Math.abs.name)
  | _ => false
def sm_ok1 (M : sm_M) (i : Instr) (ops : List Nat) : Bool := match i with
  | .getfield x => sm_fl M x (ops.getD 0 0) (ops.getD 1 0) (ops.getD 2 0)
  | .putfield x => sm_fl M x (ops.getD 0 0) (ops.getD 1 0) (ops.getD 2 0) && sm_fp M (ops.getD 0 0) (ops.getD 1 0)
  | .ldc x => sm_has (ops.getD 1 0) (.constant M.1.cls x (Int32.ofNat (ops.getD 0 0)))
  | .ldc_w x => sm_has (ops.getD 1 0) (.constant M.1.cls x (Int32.ofNat (ops.getD 0 0)))
  | .ldc2_w x => sm_has (ops.getD 1 0) (.constantLong M.1.cls x (Int64.ofNat (ops.getD 0 0)))
  | .getstatic x => sm_gs M x (ops.getD 0 0) (ops.getD 1 0)
  | .invokestatic x => sm_okst M x ops
  | .invokespecial x => sm_has (ops.getD 0 0) (.methodLink M.1.cls x Lib.objectInit) && sm_has (ops.getD 1 0) (.instanceMethod Lib.objectInit) && sm_has (ops.getD 2 0) (.code Lib.objectInit ⟨#[0xb1]⟩ 1 none)
  | _ => true
theorem sm_tt0 {ct : Nat → ClassId} : (sm_tys ct)[0]? = some (ct 0, .int) := rfl
theorem sm_tt1 {ct : Nat → ClassId} : (sm_tys ct)[1]? = some (ct 1, .byte) := rfl
theorem sm_tt2 {ct : Nat → ClassId} : (sm_tys ct)[2]? = some (ct 2, .boolean) := rfl
theorem sm_tt3 {ct : Nat → ClassId} : (sm_tys ct)[3]? = some (ct 3, .long) := rfl
theorem sm_ttt {ct : Nat → ClassId} {t : Nat} (h : t < 4) : ∃ ty, (sm_tys ct)[t]? = some (ct t, ty) := by
  match t, h with
  | 0, _ => exact ⟨_, rfl⟩
  | 1, _ => exact ⟨_, rfl⟩
  | 2, _ => exact ⟨_, rfl⟩
  | 3, _ => exact ⟨_, rfl⟩
/-! the words of the three of Math: their code is among the tables -/
def sm_MW : Prop := Cond.code Lib.Math.max.name Lib.Math.max.code 2 (some .int) ∈ sm_wl ∧ Cond.code Lib.Math.min.name Lib.Math.min.code 2 (some .int) ∈ sm_wl ∧ Cond.code Lib.Math.abs.name Lib.Math.abs.code 1 (some .int) ∈ sm_wl ∧ Cond.initialized "java/lang/Math" ∈ sm_wl
theorem sm_mth : sm_MW := ⟨(sm_inw0 3 103 rfl rfl), (sm_inw0 3 100 rfl rfl), (sm_inw0 3 219 rfl rfl), (sm_inw0 0 15 rfl rfl)⟩
section SmOne
variable {base : Nat} {ct : Nat → ClassId} {tt : Nat → Nat} {D : va_G} {S : sm_C} {M : sm_M} {d : Nat} {p : Program} {l : Launch} {e : Env} {R : Room} {s : State} {m : MethodId} {args : Array Value} {below : List Frame} {meth : Method} {c : Code} {Q : State → Prop}
variable {pc : Nat} {lv lv' : sm_V} {st st' r : List Value} {lay : List (Nat × Nat)} {me me' : sm_Y} {cs : Nat × Nat} {ops : List Nat}
theorem sm_fl_of {x ci k pos : Nat} (h : sm_fl M x ci k pos = true) : ∃ C T N, vwCl[ci]? = some (C, T, N) ∧ k < N ∧ (Cond.fieldLink M.1.cls x C (T k).2.1 (T k).2.2.1) ∈ sm_wl ∧ (T k).1 = C := by
  unfold sm_fl at h; split at h
  · next C T N e => simp only [Bool.and_eq_true, decide_eq_true_eq] at h; exact ⟨C, T, N, e, h.1.1, sm_has_in h.1.2, h.2⟩
  · cases h
set_option maxHeartbeats 4000000 in
theorem sm_k_get (cf : sm_CF) (hX : sm_X base ct tt D S M d p R s m args meth c) {x ci k pos : Nat} (hd : decode M.2.1 pc = .ok (.getfield x, 3)) (ho : sm_fl M x ci k pos = true) (h : sm_get lay me ci k st = some st') (kk : sm_TW base ct tt D M p l e R s m args below meth c Q (pc + 3) lv st' (lay, me) cs) : sm_TW base ct tt D M p l e R s m args below meth c Q pc lv st (lay, me) cs := by
  obtain ⟨a, r, rfl, ha, hv⟩ := sm_get_of h
  obtain ⟨C, T, N, hc, hk, hw, hT⟩ := sm_fl_of ho
  obtain ⟨c1, -, -, c4, -⟩ := cf ci C T N hc
  obtain ⟨hx, hb, -, hown, hts, -, -, -, -, -, hG⟩ := hX
  intro H locs ls hl hP hS hz hn hcs
  have hfv : (sm_fs base tt (lay, me) ci a)[k]? = some (sm_fv base tt (lay, me) ci a k) := sm_fs_get (by rw [c4]; exact hk)
  refine va_get hx hb hts c1 hown hG.1 hP a (sm_atO hn ha) hc k hk (hts _ hw) (fun z hz => by rw [hT] at hz; exact hz) hfv hd ?_
  rcases hv with ⟨h1, rfl⟩ | ⟨h1, rfl⟩
  · have e : sm_fv base tt (lay, me) ci a k = sm_cv base tt (sm_rv (me.2.2 a k)) := by simp [sm_fv, h1]
    rw [e]; exact kk H locs ls hl hP hS hz hn hcs
  · have e : sm_fv base tt (lay, me) ci a k = .int (me.1 a k) := by simp [sm_fv, h1]
    rw [e]; exact kk H locs ls hl hP hS hz hn hcs
set_option maxHeartbeats 4000000 in
theorem sm_k_putG (cf : sm_CF) (hX : sm_X base ct tt D S M d p R s m args meth c) {x ci k pos a : Nat} {v : Value} (hd : decode M.2.1 pc = .ok (.putfield x, 3)) (ho : sm_fl M x ci k pos = true) (hf : sm_fp M ci k = true) (ha : lay[a]? = some (0, ci)) (hnar : narrow (sm_fty ci k) (sm_cv base tt v) = sm_cv base tt v) (hfit : fits (sm_fty ci k) (sm_cv base tt v) = true)
    (hw' : lay.length ≤ 1000 → (sm_ws base ct tt (lay, me)).set a (sm_ad base tt a, .inr (ci, (sm_fs base tt (lay, me) ci a).set k (sm_cv base tt v))) = sm_ws base ct tt (lay, me')) (kk : sm_TW base ct tt D M p l e R s m args below meth c Q (pc + 3) lv r (lay, me') cs) : sm_TW base ct tt D M p l e R s m args below meth c Q pc lv (v :: .ref a :: r) (lay, me) cs := by
  obtain ⟨C, T, N, hc, hk, hw, hT⟩ := sm_fl_of ho
  obtain ⟨c1, c2, c3, c4, -⟩ := cf ci C T N hc
  obtain ⟨hx, hb, -, hown, hts, hnm, -, -, -, -, hG⟩ := hX
  intro H locs ls hl hP hS hz hn hcs
  unfold sm_fp at hf
  rw [hc] at hf
  by_cases hfin : (T k).2.2.2 = true
  · simp only [hfin, if_true, Bool.and_eq_true, decide_eq_true_eq] at hf
    refine va_putF hx hb hts c1 (sm_fty ci) c2 c3 hown hG.1 hP (sm_D _) hS a (sm_atO hn ha) hc k hk (hts _ hw) (fun z hz => by rw [hT] at hz; exact hz) hfin (hnm hf.1) hf.2 (c2 k hk) hnar hfit (by rw [sm_fs_len, c4]; exact hk) hd (fun H1 locs1 hP1 _ hS1 => ?_)
    rw [hw' hn] at hP1
    exact kk H1 locs1 ls hl hP1 hS1 hz hn hcs
  · refine va_put hx hb hts c1 (sm_fty ci) c2 c3 hown hG.1 hP (sm_D _) hS a (sm_atO hn ha) hc k hk (hts _ hw) (fun z hz => by rw [hT] at hz; exact hz) (by simpa using hfin) (c2 k hk) hnar hfit (by rw [sm_fs_len, c4]; exact hk) hd (fun H1 locs1 hP1 _ hS1 => ?_)
    rw [hw' hn] at hP1
    exact kk H1 locs1 ls hl hP1 hS1 hz hn hcs
theorem sm_k_put (cf : sm_CF) (hX : sm_X base ct tt D S M d p R s m args meth c) {x ci k pos : Nat} (hd : decode M.2.1 pc = .ok (.putfield x, 3)) (ho : sm_fl M x ci k pos = true) (hf : sm_fp M ci k = true) (h : sm_put lv lay me ci k st = some (lv', st', me')) (kk : sm_TW base ct tt D M p l e R s m args below meth c Q (pc + 3) lv' st' (lay, me') cs) : sm_TW base ct tt D M p l e R s m args below meth c Q pc lv st (lay, me) cs := by
  obtain ⟨a, v, rfl, ha, rfl, hv⟩ := sm_put_of h
  obtain ⟨C, T, N, hc, hk, hw, hT⟩ := sm_fl_of ho
  obtain ⟨-, -, -, c4, c5⟩ := cf ci C T N hc
  obtain ⟨k0, k2, k1, -⟩ := c5 k hk
  rcases hv with ⟨x, rfl, hc0, rfl⟩ | ⟨x, rfl, hc2, hx2, rfl⟩ | ⟨q, rfl, hc1, rfl⟩
  · exact sm_k_putG cf hX (v := .int x) hd ho hf ha (by rw [k0 hc0]; rfl) (by rw [k0 hc0]; rfl) (fun hn => sm_setFI hn ha (by rw [c4]; exact hk) (by omega)) kk
  · exact sm_k_putG cf hX (v := .int x) hd ho hf ha (by rw [k2 hc2]; rcases hx2 with rfl | rfl <;> rfl) (by rw [k2 hc2]; rcases hx2 with rfl | rfl <;> rfl) (fun hn => sm_setFI hn ha (by rw [c4]; exact hk) (by omega)) kk
  · exact sm_k_putG cf hX (v := sm_rv q) hd ho hf ha (by rcases k1 hc1 with ⟨n, e⟩ | ⟨n, e⟩ <;> (rw [e]; cases q <;> rfl)) (by rcases k1 hc1 with ⟨n, e⟩ | ⟨n, e⟩ <;> (rw [e]; cases q <;> rfl)) (fun hn => sm_setFR hn ha (by rw [c4]; exact hk) hc1) kk
theorem sm_k_iald (hX : sm_X base ct tt D S M d p R s m args meth c) (hd : decode M.2.1 pc = .ok (.iaload, 1)) (h : sm_gI S lay me st = some st') (kk : sm_TW base ct tt D M p l e R s m args below meth c Q (pc + 1) lv st' (lay, me) cs) : sm_TW base ct tt D M p l e R s m args below meth c Q pc lv st (lay, me) cs := by
  obtain ⟨i, a, r, rfl, hv⟩ := sm_gI_of h
  obtain ⟨hx, hb, -, hown, hts, hnm, -, -, -, -, hG⟩ := hX
  intro H locs ls hl hP hS hz hn hcs
  rcases hv with ⟨n, ha, hin, rfl⟩ | ⟨q, hq, hin, rfl⟩
  · exact va_iald hx hb hG.1 hP a 0 (sm_atI (t := 0) hn ha (by decide)) sm_tt0 hin hd (kk H locs ls hl hP hS hz hn hcs)
  · obtain ⟨h1, hT⟩ := hG.2.2.2.1 a q hq
    show W p l e R s m args below meth c H locs cs.1 cs.2 Q (F0 m pc ls (.int i :: .ref (sm_ad base tt a) :: r.map (sm_cv base tt)))
    rw [sm_ad_s h1]
    exact va_ti hx hb hT hS hin rfl hd (kk H locs ls hl hP hS hz hn hcs)
theorem sm_k_lald (hX : sm_X base ct tt D S M d p R s m args meth c) (hd : decode M.2.1 pc = .ok (.laload, 1)) (h : sm_gL lay me st = some st') (kk : sm_TW base ct tt D M p l e R s m args below meth c Q (pc + 1) lv st' (lay, me) cs) : sm_TW base ct tt D M p l e R s m args below meth c Q pc lv st (lay, me) cs := by
  obtain ⟨i, a, r, rfl, hv⟩ := sm_gL_of h
  obtain ⟨hx, hb, -, hown, hts, hnm, -, -, -, -, hG⟩ := hX
  intro H locs ls hl hP hS hz hn hcs
  rcases hv with ⟨n, ha, hin, rfl⟩ | ⟨q, hq, hin, rfl⟩
  · exact va_lald hx hb hG.1 hP a 3 (sm_atL hn ha) sm_tt3 hin hd (kk H locs ls hl hP hS hz hn hcs)
  · obtain ⟨h1, hT⟩ := hG.2.2.2.2.1 a q hq
    show W p l e R s m args below meth c H locs cs.1 cs.2 Q (F0 m pc ls (.int i :: .ref (sm_ad base tt a) :: r.map (sm_cv base tt)))
    rw [sm_ad_s h1]
    exact va_tl hx hb hT hS hin rfl hd (kk H locs ls hl hP hS hz hn hcs)
theorem sm_k_bald (hX : sm_X base ct tt D S M d p R s m args meth c) (hd : decode M.2.1 pc = .ok (.baload, 1)) (h : sm_gB lay me st = some st') (kk : sm_TW base ct tt D M p l e R s m args below meth c Q (pc + 1) lv st' (lay, me) cs) : sm_TW base ct tt D M p l e R s m args below meth c Q pc lv st (lay, me) cs := by
  obtain ⟨i, a, r, n, rfl, hv, hin, rfl⟩ := sm_gB_of h
  obtain ⟨hx, hb, -, hown, hts, hnm, -, -, -, -, hG⟩ := hX
  intro H locs ls hl hP hS hz hn hcs
  rcases hv with ha | ha
  · exact va_bald hx hb hG.1 hP a 1 (sm_atI (t := 1) hn ha (by decide)) sm_tt1 hin hd (kk H locs ls hl hP hS hz hn hcs)
  · exact va_zald hx hb hG.1 hP a 2 (sm_atI (t := 2) hn ha (by decide)) sm_tt2 hin hd (kk H locs ls hl hP hS hz hn hcs)
theorem sm_k_alen (hX : sm_X base ct tt D S M d p R s m args meth c) (hd : decode M.2.1 pc = .ok (.arraylength, 1)) (h : sm_len S lay st = some st') (kk : sm_TW base ct tt D M p l e R s m args below meth c Q (pc + 1) lv st' (lay, me) cs) : sm_TW base ct tt D M p l e R s m args below meth c Q pc lv st (lay, me) cs := by
  obtain ⟨a, r, rfl, hv⟩ := sm_len_of h
  obtain ⟨hx, hb, -, hown, hts, hnm, -, -, -, -, hG⟩ := hX
  intro H locs ls hl hP hS hz hn hcs
  rcases hv with ⟨t, n, ha, ht, rfl⟩ | ⟨q, hq, rfl⟩ | ⟨q, hq, rfl⟩
  · obtain ⟨y, rfl, hy⟩ := sm_atA (base := base) (ct := ct) (tt := tt) (m := me) hn ha
    obtain ⟨ty, hty⟩ := sm_ttt (ct := ct) ht
    exact va_alen hx hb hG.1 hP a t hy hty rfl hd (kk H locs ls hl hP hS hz hn hcs)
  · obtain ⟨h1, hT⟩ := hG.2.2.2.1 a q hq
    show W p l e R s m args below meth c H locs cs.1 cs.2 Q (F0 m pc ls (.ref (sm_ad base tt a) :: r.map (sm_cv base tt)))
    rw [sm_ad_s h1]
    exact va_tlen hx hb hT hS rfl hd (kk H locs ls hl hP hS hz hn hcs)
  · obtain ⟨h1, hT⟩ := hG.2.2.2.2.1 a q hq
    show W p l e R s m args below meth c H locs cs.1 cs.2 Q (F0 m pc ls (.ref (sm_ad base tt a) :: r.map (sm_cv base tt)))
    rw [sm_ad_s h1]
    exact va_tlen hx hb hT hS rfl hd (kk H locs ls hl hP hS hz hn hcs)
theorem sm_k_iast (hX : sm_X base ct tt D S M d p R s m args meth c) (hd : decode M.2.1 pc = .ok (.iastore, 1)) (h : sm_pI lv lay me st = some (lv', st', me')) (kk : sm_TW base ct tt D M p l e R s m args below meth c Q (pc + 1) lv' st' (lay, me') cs) : sm_TW base ct tt D M p l e R s m args below meth c Q pc lv st (lay, me) cs := by
  obtain ⟨x, i, a, n, rfl, ha, hin, rfl, rfl⟩ := sm_pI_of h
  obtain ⟨hx, hb, -, hown, hts, hnm, -, -, -, -, hG⟩ := hX
  intro H locs ls hl hP hS hz hn hcs
  refine va_iast hx hb hG.1 hP (sm_D _) hS a 0 (sm_atI (t := 0) hn ha (by decide)) sm_tt0 hin hd (fun H1 locs1 hP1 _ hS1 => ?_)
  rw [sm_setI (t := 0) hn ha (by decide)] at hP1
  exact kk H1 locs1 ls hl hP1 hS1 hz hn hcs
theorem sm_k_last (hX : sm_X base ct tt D S M d p R s m args meth c) (hd : decode M.2.1 pc = .ok (.lastore, 1)) (h : sm_pL lv lay me st = some (lv', st', me')) (kk : sm_TW base ct tt D M p l e R s m args below meth c Q (pc + 1) lv' st' (lay, me') cs) : sm_TW base ct tt D M p l e R s m args below meth c Q pc lv st (lay, me) cs := by
  obtain ⟨x, i, a, n, rfl, ha, hin, rfl, rfl⟩ := sm_pL_of h
  obtain ⟨hx, hb, -, hown, hts, hnm, -, -, -, -, hG⟩ := hX
  intro H locs ls hl hP hS hz hn hcs
  refine va_last hx hb hG.1 hP (sm_D _) hS a 3 (sm_atL hn ha) sm_tt3 hin hd (fun H1 locs1 hP1 _ hS1 => ?_)
  rw [sm_setL hn ha] at hP1
  exact kk H1 locs1 ls hl hP1 hS1 hz hn hcs
theorem sm_k_bast (hX : sm_X base ct tt D S M d p R s m args meth c) (hd : decode M.2.1 pc = .ok (.bastore, 1)) (h : sm_pB lv lay me st = some (lv', st', me')) (kk : sm_TW base ct tt D M p l e R s m args below meth c Q (pc + 1) lv' st' (lay, me') cs) : sm_TW base ct tt D M p l e R s m args below meth c Q pc lv st (lay, me) cs := by
  obtain ⟨x, i, a, n, rfl, hin, rfl, hv⟩ := sm_pB_of h
  obtain ⟨hx, hb, -, hown, hts, hnm, -, -, -, -, hG⟩ := hX
  intro H locs ls hl hP hS hz hn hcs
  rcases hv with ⟨ha, rfl⟩ | ⟨ha, rfl⟩
  · refine va_bast hx hb hG.1 hP (sm_D _) hS a 1 (sm_atI (t := 1) hn ha (by decide)) sm_tt1 hin hd (fun H1 locs1 hP1 _ hS1 => ?_)
    rw [sm_setI (t := 1) hn ha (by decide)] at hP1
    exact kk H1 locs1 ls hl hP1 hS1 hz hn hcs
  · refine va_zast hx hb hG.1 hP (sm_D _) hS a 2 (sm_atI (t := 2) hn ha (by decide)) sm_tt2 hin hd (fun H1 locs1 hP1 _ hS1 => ?_)
    rw [sm_setI (t := 2) hn ha (by decide)] at hP1
    exact kk H1 locs1 ls hl hP1 hS1 hz hn hcs
theorem sm_nfw : nativeFrameWords "java/lang/System" "arraycopy" 5 ≤ 60 := by decide +kernel
theorem sm_k_copy (hX : sm_X base ct tt D S M d p R s m args meth c) {x : Nat} (hd : decode M.2.1 pc = .ok (.invokestatic x, 3)) {r0 : List Nat} (ho : sm_okst M x (0 :: r0) = true) (h : sm_cpy lv lay me st = some (lv', st', me')) (kk : sm_TW base ct tt D M p l e R s m args below meth c Q (pc + 3) lv' st' (lay, me') cs) : sm_TW base ct tt D M p l e R s m args below meth c Q pc lv st (lay, me) cs := by
  obtain ⟨n, dp, a, sp, a0, n0, n1, rfl, ha0, ha, hi, rfl, rfl⟩ := sm_cpy_of h
  obtain ⟨hx, hb, hml, hown, hts, hnm, hfr, hlo, -, -, hG⟩ := hX
  have ho : (sm_has (r0.getD 0 0) (.methodLink M.1.cls x arraycopyName) && sm_has (r0.getD 1 0) (.native arraycopyName) && sm_has (r0.getD 2 0) (.static arraycopyName) && sm_has (r0.getD 3 0) (.initialized "java/lang/System")) = true := ho
  simp only [Bool.and_eq_true] at ho
  intro H locs ls hl hP hS hz hn hcs
  have hcat := sm_cats (base := base) (tt := tt) st'
  obtain ⟨nw, hnw, h60⟩ : ∃ nw, nativeFrameWords "java/lang/System" "arraycopy" 5 = nw ∧ nw ≤ 60 := ⟨_, rfl, sm_nfw⟩
  refine va_copyi hx hb (hml.trans hl.1.symm) hown (hts _ (sm_has_in ho.1.1.1)) (hts _ (sm_has_in ho.1.1.2)) (hts _ (sm_has_in ho.1.2)) (hts _ (sm_has_in ho.2)) hG.1 hP (sm_D _) hS a0 a 0 0 (sm_atI (t := 0) hn ha0 (by decide)) (sm_atI (t := 0) hn ha (by decide)) sm_tt0 sm_tt0 rfl (fun q => hi (Or.inl q)) (fun q => hi (Or.inr (Or.inl q))) (fun q => hi (Or.inr (Or.inr (Or.inl q)))) (Nat.not_lt.mp (fun q => hi (Or.inr (Or.inr (Or.inr (Or.inl q)))))) (Nat.not_lt.mp (fun q => hi (Or.inr (Or.inr (Or.inr (Or.inr (Or.inl q))))))) (fun _ _ => rfl) (Nat.le_trans (Nat.le_add_left 1 d) hfr) (by rw [hcat, hnw]; exact Nat.le_trans (Nat.add_le_add (Nat.not_lt.mp (fun q => hi (Or.inr (Or.inr (Or.inr (Or.inr (Or.inr q))))))) (Nat.add_le_add_right h60 11)) (Nat.le_trans (Nat.le_trans (by decide : 8 + (60 + 11) ≤ 100) (Nat.le_add_left 100 (80 * d))) hlo)) hd (fun H1 locs1 hP1 _ hS1 => ?_)
  rw [sm_setRow hn ha] at hP1
  exact kk H1 locs1 ls hl hP1 hS1 hz hn hcs
theorem sm_k_oin (hX : sm_X base ct tt D S M d p R s m args meth c) {x : Nat} (hd : decode M.2.1 pc = .ok (.invokespecial x, 3)) (ho : sm_ok1 M (.invokespecial x) ops = true) (h : sm_oin st = some st') (kk : sm_TW base ct tt D M p l e R s m args below meth c Q (pc + 3) lv st' (lay, me) cs) : sm_TW base ct tt D M p l e R s m args below meth c Q pc lv st (lay, me) cs := by
  obtain ⟨a, rfl, hc⟩ := sm_oin_of h
  obtain ⟨hx, hb, hml, hown, hts, hnm, hfr, hlo, -, -, hG⟩ := hX
  have ho : (sm_has (ops.getD 0 0) (.methodLink M.1.cls x Lib.objectInit) && sm_has (ops.getD 1 0) (.instanceMethod Lib.objectInit) && sm_has (ops.getD 2 0) (.code Lib.objectInit ⟨#[0xb1]⟩ 1 none)) = true := ho
  simp only [Bool.and_eq_true] at ho
  intro H locs ls hl hP hS hz hn hcs
  have hcat := sm_cats (base := base) (tt := tt) st'
  have hr := lv_room (m := m) (pc := pc) (ls := ls) (rest := (Value.ref a :: st').map (sm_cv base tt)) (st := st'.map (sm_cv base tt)) (by rw [hcat]; exact hc)
  exact W.objInit hx hb hown (hts _ (sm_has_in ho.1.1)) (hts _ (sm_has_in ho.1.2)) (hts _ (sm_has_in ho.2)) rfl (hl.1.trans hml.symm) rfl hd (by omega) (by omega) (kk H locs ls hl hP hS hz hn hcs)
theorem sm_k_max (hX : sm_X base ct tt D S M d p R s m args meth c) {x : Nat} (hd : decode M.2.1 pc = .ok (.invokestatic x, 3)) {r0 : List Nat} (ho : sm_okst M x (1 :: r0) = true) (h : sm_ma (fun x y => if x < y then y else x) st = some st') (kk : sm_TW base ct tt D M p l e R s m args below meth c Q (pc + 3) lv st' (lay, me) cs) : sm_TW base ct tt D M p l e R s m args below meth c Q pc lv st (lay, me) cs := by
  obtain ⟨a, b, r, rfl, hc, rfl⟩ := sm_ma_of h
  obtain ⟨hx, hb, hml, hown, hts, hnm, hfr, hlo, hce, hsl, hG⟩ := hX
  have ho : (sm_has (r0.getD 0 0) (.methodLink M.1.cls x Lib.Math.max.name) && sm_has (r0.getD 1 0) (.static Lib.Math.max.name)) = true := ho
  simp only [Bool.and_eq_true] at ho
  intro H locs ls hl hP hS hz hn hcs
  have hcat := sm_cats (base := base) (tt := tt) r
  exact va_mmax hx hb (hml.trans hl.1.symm) hown (hts _ (sm_has_in ho.1)) (hts _ (sm_has_in ho.2)) (hts _ sm_mth.2.2.2) (hts _ sm_mth.1) (by omega) (by rw [hcat]; omega) (Nat.le_trans hcs.1 hce) (Nat.le_trans hcs.2 hsl) hd (kk H locs ls hl hP hS hz hn hcs)
theorem sm_k_min (hX : sm_X base ct tt D S M d p R s m args meth c) {x : Nat} (hd : decode M.2.1 pc = .ok (.invokestatic x, 3)) {r0 : List Nat} (ho : sm_okst M x (2 :: r0) = true) (h : sm_ma (fun x y => if y < x then y else x) st = some st') (kk : sm_TW base ct tt D M p l e R s m args below meth c Q (pc + 3) lv st' (lay, me) cs) : sm_TW base ct tt D M p l e R s m args below meth c Q pc lv st (lay, me) cs := by
  obtain ⟨a, b, r, rfl, hc, rfl⟩ := sm_ma_of h
  obtain ⟨hx, hb, hml, hown, hts, hnm, hfr, hlo, hce, hsl, hG⟩ := hX
  have ho : (sm_has (r0.getD 0 0) (.methodLink M.1.cls x Lib.Math.min.name) && sm_has (r0.getD 1 0) (.static Lib.Math.min.name)) = true := ho
  simp only [Bool.and_eq_true] at ho
  intro H locs ls hl hP hS hz hn hcs
  have hcat := sm_cats (base := base) (tt := tt) r
  exact va_mmin hx hb (hml.trans hl.1.symm) hown (hts _ (sm_has_in ho.1)) (hts _ (sm_has_in ho.2)) (hts _ sm_mth.2.2.2) (hts _ sm_mth.2.1) (by omega) (by rw [hcat]; omega) (Nat.le_trans hcs.1 hce) (Nat.le_trans hcs.2 hsl) hd (kk H locs ls hl hP hS hz hn hcs)
theorem sm_k_abs (hX : sm_X base ct tt D S M d p R s m args meth c) {x : Nat} (hd : decode M.2.1 pc = .ok (.invokestatic x, 3)) {r0 : List Nat} (ho : sm_okst M x (3 :: r0) = true) (h : sm_mb (fun x => if 0 ≤ x then x else 0 - x) st = some st') (kk : sm_TW base ct tt D M p l e R s m args below meth c Q (pc + 3) lv st' (lay, me) cs) : sm_TW base ct tt D M p l e R s m args below meth c Q pc lv st (lay, me) cs := by
  obtain ⟨a, r, rfl, hc, rfl⟩ := sm_mb_of h
  obtain ⟨hx, hb, hml, hown, hts, hnm, hfr, hlo, hce, hsl, hG⟩ := hX
  have ho : (sm_has (r0.getD 0 0) (.methodLink M.1.cls x Lib.Math.abs.name) && sm_has (r0.getD 1 0) (.static Lib.Math.abs.name)) = true := ho
  simp only [Bool.and_eq_true] at ho
  intro H locs ls hl hP hS hz hn hcs
  have hcat := sm_cats (base := base) (tt := tt) r
  exact va_mabs hx hb (hml.trans hl.1.symm) hown (hts _ (sm_has_in ho.1)) (hts _ (sm_has_in ho.2)) (hts _ sm_mth.2.2.2) (hts _ sm_mth.2.2.1) (by omega) (by rw [hcat]; omega) (Nat.le_trans hcs.1 hce) (Nat.le_trans hcs.2 hsl) hd (kk H locs ls hl hP hS hz hn hcs)
theorem sm_k_st4 (hX : sm_X base ct tt D S M d p R s m args meth c) {x : Nat} (hd : decode M.2.1 pc = .ok (.invokestatic x, 3)) (ho : sm_okst M x ops = true) (h : sm_st4 ops lv lay me st = some (lv', st', me')) (kk : sm_TW base ct tt D M p l e R s m args below meth c Q (pc + 3) lv' st' (lay, me') cs) : sm_TW base ct tt D M p l e R s m args below meth c Q pc lv st (lay, me) cs := by
  unfold sm_st4 at h
  split at h
  · exact sm_k_copy hX hd ho h kk
  · obtain ⟨h2, rfl, rfl⟩ := sm_p_of h; exact sm_k_max hX hd ho h2 kk
  · obtain ⟨h2, rfl, rfl⟩ := sm_p_of h; exact sm_k_min hX hd ho h2 kk
  · obtain ⟨h2, rfl, rfl⟩ := sm_p_of h; exact sm_k_abs hX hd ho h2 kk
  · cases h
theorem sm_k_gets (hX : sm_X base ct tt D S M d p R s m args meth c) {x : Nat} (hd : decode M.2.1 pc = .ok (.getstatic x, 3)) (ho : sm_ok1 M (.getstatic x) ops = true) (kk : sm_TW base ct tt D M p l e R s m args below meth c Q (pc + 3) lv (.ref (ops.getD 0 0) :: st) (lay, me) cs) : sm_TW base ct tt D M p l e R s m args below meth c Q pc lv st (lay, me) cs := by
  obtain ⟨hx, hb, hml, hown, hts, hnm, hfr, hlo, -, -, hG⟩ := hX
  intro H locs ls hl hP hS hz hn hcs
  have ho : sm_gs M x (ops.getD 0 0) (ops.getD 1 0) = true := ho
  unfold sm_gs at ho
  split at ho
  · next q hq =>
    simp only [Bool.and_eq_true, decide_eq_true_eq] at ho
    have hz2 := hG.2.2.1 _ q hq
    refine va_gets hx hb hz2 hS hown (hts _ (sm_has_in ho.2)) (fun z hz => hz) hd ?_
    have k1 := kk H locs ls hl hP hS hz hn hcs
    have e1 : (Value.ref (ops.getD 0 0) :: st).map (sm_cv base tt) = Value.ref (tt (ops.getD 0 0 - 1000)) :: st.map (sm_cv base tt) := by
      show Value.ref (sm_ad base tt (ops.getD 0 0)) :: _ = _
      rw [sm_ad_s ho.1]
    rw [e1] at k1
    exact k1
  · cases ho
set_option maxHeartbeats 8000000 in
theorem sm_one_ok (cf : sm_CF) (hX : sm_X base ct tt D S M d p R s m args meth c) {i : Instr} (hd : decode M.2.1 pc = .ok (i, sm_ln i)) (ho : sm_ok1 M i ops = true) (h : sm_one S M.2.2.1 i ops lv st lay me = some (lv', st', me')) (k : sm_TW base ct tt D M p l e R s m args below meth c Q (pc + sm_ln i) lv' st' (lay, me') cs) : sm_TW base ct tt D M p l e R s m args below meth c Q pc lv st (lay, me) cs := by
  cases i with
  | iconst n => cases h; exact fun H locs ls hl hP hS hz hn hcs => lv_iconst hX.1 hX.2.1 hd rfl (k H locs ls hl hP hS hz hn hcs)
  | bipush n => cases h; exact fun H locs ls hl hP hS hz hn hcs => lv_bipush hX.1 hX.2.1 hd rfl (k H locs ls hl hP hS hz hn hcs)
  | sipush n => cases h; exact fun H locs ls hl hP hS hz hn hcs => lv_sipush hX.1 hX.2.1 hd rfl (k H locs ls hl hP hS hz hn hcs)
  | lconst n => cases h; exact fun H locs ls hl hP hS hz hn hcs => lv_lconst hX.1 hX.2.1 hd rfl (k H locs ls hl hP hS hz hn hcs)
  | aconst_null => cases h; exact fun H locs ls hl hP hS hz hn hcs => lv_null hX.1 hX.2.1 hd (k H locs ls hl hP hS hz hn hcs)
  | ldc x => cases h; exact fun H locs ls hl hP hS hz hn hcs => lv_ldc hX.1 hX.2.1 hX.2.2.2.1 (hX.2.2.2.2.1 _ (sm_has_in ho)) hd (k H locs ls hl hP hS hz hn hcs)
  | ldc_w x => cases h; exact fun H locs ls hl hP hS hz hn hcs => lv_ldcw hX.1 hX.2.1 hX.2.2.2.1 (hX.2.2.2.2.1 _ (sm_has_in ho)) hd (k H locs ls hl hP hS hz hn hcs)
  | ldc2_w x => cases h; exact fun H locs ls hl hP hS hz hn hcs => lv_ldc2 hX.1 hX.2.1 hX.2.2.2.1 (hX.2.2.2.2.1 _ (sm_has_in ho)) hd (k H locs ls hl hP hS hz hn hcs)
  | iload x => obtain ⟨h2, rfl, rfl⟩ := sm_p_of h; obtain ⟨v, hv, rfl⟩ := sm_ldi_of h2; exact fun H locs ls hl hP hS hz hn hcs => lv_iload hX.1 hX.2.1 hd (sm_lk_ls hl hv) (k H locs ls hl hP hS hz hn hcs)
  | iload_n x => obtain ⟨h2, rfl, rfl⟩ := sm_p_of h; obtain ⟨v, hv, rfl⟩ := sm_ldi_of h2; exact fun H locs ls hl hP hS hz hn hcs => lv_iload_n hX.1 hX.2.1 hd rfl (sm_lk_ls hl hv) (k H locs ls hl hP hS hz hn hcs)
  | lload x => obtain ⟨h2, rfl, rfl⟩ := sm_p_of h; obtain ⟨v, hv, rfl⟩ := sm_ldl_of h2; exact fun H locs ls hl hP hS hz hn hcs => lv_lload hX.1 hX.2.1 hd (sm_lk_ls hl hv) (k H locs ls hl hP hS hz hn hcs)
  | lload_n x => obtain ⟨h2, rfl, rfl⟩ := sm_p_of h; obtain ⟨v, hv, rfl⟩ := sm_ldl_of h2; exact fun H locs ls hl hP hS hz hn hcs => lv_lload_n hX.1 hX.2.1 hd rfl (sm_lk_ls hl hv) (k H locs ls hl hP hS hz hn hcs)
  | aload x => obtain ⟨h2, rfl, rfl⟩ := sm_p_of h; (rcases sm_lda_of h2 with ⟨v, hv, rfl⟩ | ⟨hv, rfl⟩; exact fun H locs ls hl hP hS hz hn hcs => lv_aload hX.1 hX.2.1 hd (sm_lk_ls hl hv) (k H locs ls hl hP hS hz hn hcs); exact fun H locs ls hl hP hS hz hn hcs => lv_aloadN hX.1 hX.2.1 hd (sm_lk_ls hl hv) (k H locs ls hl hP hS hz hn hcs))
  | aload_n x => obtain ⟨h2, rfl, rfl⟩ := sm_p_of h; (rcases sm_lda_of h2 with ⟨v, hv, rfl⟩ | ⟨hv, rfl⟩; exact fun H locs ls hl hP hS hz hn hcs => lv_aload_n hX.1 hX.2.1 hd rfl (sm_lk_ls hl hv) (k H locs ls hl hP hS hz hn hcs); exact fun H locs ls hl hP hS hz hn hcs => lv_aload_nN hX.1 hX.2.1 hd rfl (sm_lk_ls hl hv) (k H locs ls hl hP hS hz hn hcs))
  | istore x => obtain ⟨v, rfl, hi, rfl, rfl⟩ := sm_sti_of h; exact fun H locs ls hl hP hS hz hn hcs => lv_istore hX.1 hX.2.1 hd hl hi (sm_s1_map (v := .int v)) (fun ls hl => k H locs ls hl hP hS hz hn hcs)
  | istore_n x => obtain ⟨v, rfl, hi, rfl, rfl⟩ := sm_sti_of h; exact fun H locs ls hl hP hS hz hn hcs => lv_istore_n hX.1 hX.2.1 hd rfl hl hi (sm_s1_map (v := .int v)) (fun ls hl => k H locs ls hl hP hS hz hn hcs)
  | lstore x => obtain ⟨v, rfl, hi, rfl, rfl⟩ := sm_stl_of h; exact fun H locs ls hl hP hS hz hn hcs => lv_lstore hX.1 hX.2.1 hd hl hi (sm_s2_map (v := .long v)) (fun ls hl => k H locs ls hl hP hS hz hn hcs)
  | lstore_n x => obtain ⟨v, rfl, hi, rfl, rfl⟩ := sm_stl_of h; exact fun H locs ls hl hP hS hz hn hcs => lv_lstore_n hX.1 hX.2.1 hd rfl hl hi (sm_s2_map (v := .long v)) (fun ls hl => k H locs ls hl hP hS hz hn hcs)
  | astore x => obtain ⟨hi, rfl, hv⟩ := sm_sta_of h; (rcases hv with ⟨v, rfl, rfl⟩ | ⟨rfl, rfl⟩; exact fun H locs ls hl hP hS hz hn hcs => lv_astore hX.1 hX.2.1 hd hl hi (sm_s1_map (v := .ref v)) (fun ls hl => k H locs ls hl hP hS hz hn hcs); exact fun H locs ls hl hP hS hz hn hcs => lv_astoreN hX.1 hX.2.1 hd hl hi (sm_s1_map (v := .null)) (fun ls hl => k H locs ls hl hP hS hz hn hcs))
  | astore_n x => obtain ⟨hi, rfl, hv⟩ := sm_sta_of h; (rcases hv with ⟨v, rfl, rfl⟩ | ⟨rfl, rfl⟩; exact fun H locs ls hl hP hS hz hn hcs => lv_astore_n hX.1 hX.2.1 hd rfl hl hi (sm_s1_map (v := .ref v)) (fun ls hl => k H locs ls hl hP hS hz hn hcs); exact fun H locs ls hl hP hS hz hn hcs => lv_astore_nN hX.1 hX.2.1 hd rfl hl hi (sm_s1_map (v := .null)) (fun ls hl => k H locs ls hl hP hS hz hn hcs))
  | iinc x n => obtain ⟨v, hv, hi, rfl, rfl, rfl⟩ := sm_inc_of h; exact fun H locs ls hl hP hS hz hn hcs => (by obtain ⟨j, hj⟩ := List.getElem?_of_mem (List.mem_map.mpr ⟨(x, Value.int v), sm_lk_in hv, rfl⟩ : (x, Value.int v) ∈ lv.map (sm_cq base tt)); exact lv_iinc hX.1 hX.2.1 hd hl hj rfl hi (sm_s1_map (v := .int _)) (fun ls hl => k H locs ls hl hP hS hz hn hcs))
  | iadd => obtain ⟨h2, rfl, rfl⟩ := sm_p_of h; obtain ⟨x, y, r, rfl, rfl⟩ := sm_ii_of h2; exact fun H locs ls hl hP hS hz hn hcs => lv_iadd hX.1 hX.2.1 hd (k H locs ls hl hP hS hz hn hcs)
  | isub => obtain ⟨h2, rfl, rfl⟩ := sm_p_of h; obtain ⟨x, y, r, rfl, rfl⟩ := sm_ii_of h2; exact fun H locs ls hl hP hS hz hn hcs => lv_isub hX.1 hX.2.1 hd (k H locs ls hl hP hS hz hn hcs)
  | imul => obtain ⟨h2, rfl, rfl⟩ := sm_p_of h; obtain ⟨x, y, r, rfl, rfl⟩ := sm_ii_of h2; exact fun H locs ls hl hP hS hz hn hcs => lv_imul hX.1 hX.2.1 hd (k H locs ls hl hP hS hz hn hcs)
  | iand => obtain ⟨h2, rfl, rfl⟩ := sm_p_of h; obtain ⟨x, y, r, rfl, rfl⟩ := sm_ii_of h2; exact fun H locs ls hl hP hS hz hn hcs => lv_iand hX.1 hX.2.1 hd (k H locs ls hl hP hS hz hn hcs)
  | ior => obtain ⟨h2, rfl, rfl⟩ := sm_p_of h; obtain ⟨x, y, r, rfl, rfl⟩ := sm_ii_of h2; exact fun H locs ls hl hP hS hz hn hcs => lv_ior hX.1 hX.2.1 hd (k H locs ls hl hP hS hz hn hcs)
  | ixor => obtain ⟨h2, rfl, rfl⟩ := sm_p_of h; obtain ⟨x, y, r, rfl, rfl⟩ := sm_ii_of h2; exact fun H locs ls hl hP hS hz hn hcs => lv_ixor hX.1 hX.2.1 hd (k H locs ls hl hP hS hz hn hcs)
  | ishl => obtain ⟨h2, rfl, rfl⟩ := sm_p_of h; obtain ⟨x, y, r, rfl, rfl⟩ := sm_ii_of h2; exact fun H locs ls hl hP hS hz hn hcs => lv_ishl hX.1 hX.2.1 hd (k H locs ls hl hP hS hz hn hcs)
  | ishr => obtain ⟨h2, rfl, rfl⟩ := sm_p_of h; obtain ⟨x, y, r, rfl, rfl⟩ := sm_ii_of h2; exact fun H locs ls hl hP hS hz hn hcs => lv_ishr hX.1 hX.2.1 hd (k H locs ls hl hP hS hz hn hcs)
  | iushr => obtain ⟨h2, rfl, rfl⟩ := sm_p_of h; obtain ⟨x, y, r, rfl, rfl⟩ := sm_ii_of h2; exact fun H locs ls hl hP hS hz hn hcs => lv_iushr hX.1 hX.2.1 hd rfl (k H locs ls hl hP hS hz hn hcs)
  | idiv => obtain ⟨h2, rfl, rfl⟩ := sm_p_of h; obtain ⟨x, y, r, rfl, hy, rfl⟩ := sm_iq_of h2; exact fun H locs ls hl hP hS hz hn hcs => lv_idiv hX.1 hX.2.1 hd hy (k H locs ls hl hP hS hz hn hcs)
  | irem => obtain ⟨h2, rfl, rfl⟩ := sm_p_of h; obtain ⟨x, y, r, rfl, hy, rfl⟩ := sm_iq_of h2; exact fun H locs ls hl hP hS hz hn hcs => lv_irem hX.1 hX.2.1 hd hy (k H locs ls hl hP hS hz hn hcs)
  | ineg => obtain ⟨h2, rfl, rfl⟩ := sm_p_of h; obtain ⟨x, r, rfl, rfl⟩ := sm_i1_of h2; exact fun H locs ls hl hP hS hz hn hcs => lv_ineg hX.1 hX.2.1 hd (k H locs ls hl hP hS hz hn hcs)
  | i2b => obtain ⟨h2, rfl, rfl⟩ := sm_p_of h; obtain ⟨x, r, rfl, rfl⟩ := sm_i1_of h2; exact fun H locs ls hl hP hS hz hn hcs => lv_i2b hX.1 hX.2.1 hd rfl (k H locs ls hl hP hS hz hn hcs)
  | i2l => obtain ⟨h2, rfl, rfl⟩ := sm_p_of h; obtain ⟨x, r, rfl, rfl⟩ := sm_i1_of h2; exact fun H locs ls hl hP hS hz hn hcs => lv_i2l hX.1 hX.2.1 hd rfl (k H locs ls hl hP hS hz hn hcs)
  | l2i => obtain ⟨h2, rfl, rfl⟩ := sm_p_of h; obtain ⟨x, r, rfl, rfl⟩ := sm_l1_of h2; exact fun H locs ls hl hP hS hz hn hcs => lv_l2i hX.1 hX.2.1 hd rfl (k H locs ls hl hP hS hz hn hcs)
  | ladd => obtain ⟨h2, rfl, rfl⟩ := sm_p_of h; obtain ⟨x, y, r, rfl, rfl⟩ := sm_ll_of h2; exact fun H locs ls hl hP hS hz hn hcs => lv_ladd hX.1 hX.2.1 hd (k H locs ls hl hP hS hz hn hcs)
  | lsub => obtain ⟨h2, rfl, rfl⟩ := sm_p_of h; obtain ⟨x, y, r, rfl, rfl⟩ := sm_ll_of h2; exact fun H locs ls hl hP hS hz hn hcs => lv_lsub hX.1 hX.2.1 hd (k H locs ls hl hP hS hz hn hcs)
  | lmul => obtain ⟨h2, rfl, rfl⟩ := sm_p_of h; obtain ⟨x, y, r, rfl, rfl⟩ := sm_ll_of h2; exact fun H locs ls hl hP hS hz hn hcs => lv_lmul hX.1 hX.2.1 hd (k H locs ls hl hP hS hz hn hcs)
  | land => obtain ⟨h2, rfl, rfl⟩ := sm_p_of h; obtain ⟨x, y, r, rfl, rfl⟩ := sm_ll_of h2; exact fun H locs ls hl hP hS hz hn hcs => lv_land hX.1 hX.2.1 hd (k H locs ls hl hP hS hz hn hcs)
  | lor => obtain ⟨h2, rfl, rfl⟩ := sm_p_of h; obtain ⟨x, y, r, rfl, rfl⟩ := sm_ll_of h2; exact fun H locs ls hl hP hS hz hn hcs => lv_lor hX.1 hX.2.1 hd (k H locs ls hl hP hS hz hn hcs)
  | lshl => obtain ⟨h2, rfl, rfl⟩ := sm_p_of h; obtain ⟨x, y, r, rfl, rfl⟩ := sm_li_of h2; exact fun H locs ls hl hP hS hz hn hcs => lv_lshl hX.1 hX.2.1 hd rfl (k H locs ls hl hP hS hz hn hcs)
  | lshr => obtain ⟨h2, rfl, rfl⟩ := sm_p_of h; obtain ⟨x, y, r, rfl, rfl⟩ := sm_li_of h2; exact fun H locs ls hl hP hS hz hn hcs => lv_lshr hX.1 hX.2.1 hd rfl (k H locs ls hl hP hS hz hn hcs)
  | lcmp => obtain ⟨h2, rfl, rfl⟩ := sm_p_of h; obtain ⟨x, y, r, rfl, rfl⟩ := sm_lc_of h2; exact fun H locs ls hl hP hS hz hn hcs => W.lcmp hX.1 hX.2.1 hd (k H locs ls hl hP hS hz hn hcs)
  | dup => obtain ⟨h2, rfl, rfl⟩ := sm_p_of h; obtain ⟨v, r, rfl, hv, rfl⟩ := sm_dup_of h2; exact fun H locs ls hl hP hS hz hn hcs => lv_dup hX.1 hX.2.1 hd ((sm_cv_cat v).trans hv) (k H locs ls hl hP hS hz hn hcs)
  | dup_x1 => obtain ⟨h2, rfl, rfl⟩ := sm_p_of h; obtain ⟨v, u, r, rfl, hv, hu, rfl⟩ := sm_dupx1_of h2; exact fun H locs ls hl hP hS hz hn hcs => lv_dup_x1 hX.1 hX.2.1 hd ((sm_cv_cat v).trans hv) ((sm_cv_cat u).trans hu) (k H locs ls hl hP hS hz hn hcs)
  | dup2 => obtain ⟨h2, rfl, rfl⟩ := sm_p_of h; obtain ⟨v, u, r, rfl, hv, hu, rfl⟩ := sm_dup2_of h2; exact fun H locs ls hl hP hS hz hn hcs => lv_dup2_11 hX.1 hX.2.1 hd ((sm_cv_cat v).trans hv) ((sm_cv_cat u).trans hu) (k H locs ls hl hP hS hz hn hcs)
  | pop => obtain ⟨h2, rfl, rfl⟩ := sm_p_of h; obtain ⟨v, rfl, hv⟩ := sm_pop_of h2; exact fun H locs ls hl hP hS hz hn hcs => lv_pop hX.1 hX.2.1 hd ((sm_cv_cat v).trans hv) (k H locs ls hl hP hS hz hn hcs)
  | iaload => obtain ⟨h2, rfl, rfl⟩ := sm_p_of h; exact sm_k_iald hX hd h2 k
  | baload => obtain ⟨h2, rfl, rfl⟩ := sm_p_of h; exact sm_k_bald hX hd h2 k
  | laload => obtain ⟨h2, rfl, rfl⟩ := sm_p_of h; exact sm_k_lald hX hd h2 k
  | arraylength => obtain ⟨h2, rfl, rfl⟩ := sm_p_of h; exact sm_k_alen hX hd h2 k
  | iastore => exact sm_k_iast hX hd h k
  | bastore => exact sm_k_bast hX hd h k
  | lastore => exact sm_k_last hX hd h k
  | getfield x => obtain ⟨h2, rfl, rfl⟩ := sm_p_of h; exact sm_k_get cf hX hd ho h2 k
  | putfield x => exact sm_k_put cf hX hd (Bool.and_eq_true_iff.mp ho).1 (Bool.and_eq_true_iff.mp ho).2 h k
  | getstatic x => cases h; exact sm_k_gets hX hd ho k
  | invokestatic x => exact sm_k_st4 hX hd ho h k
  | invokespecial x => obtain ⟨h2, rfl, rfl⟩ := sm_p_of h; exact sm_k_oin hX hd ho h2 k
  | _ => cases h
end SmOne
end
section
/-! blocks, calls, methods -/
def sm_blks (M : sm_M) : List sm_B := M.2.2.2.2.2.2.2.2
def sm_tg (M : sm_M) (pc : Nat) (off : Int) (b : Nat) : Bool := match (sm_blks M)[b]? with
  | some B => decide ((pc : Int) + off = (B.1 : Int))
  | none => false
def sm_tgs (M : sm_M) (pc : Nat) : List Int → List Nat → Bool
  | [], [] => true
  | o :: os, b :: bs => sm_tg M pc o b && sm_tgs M pc os bs
  | _, _ => false
def sm_okN (M : sm_M) (x ci p1 p2 p3 : Nat) : Bool := match vwCl[ci]? with
  | some (C, _, N) => sm_has p1 (.classLink M.1.cls x C) && sm_has p2 (.instantiable C N) && sm_has p3 (.initialized C)
  | none => false
def sm_okV (P : Nat → sm_M) (M : sm_M) (x g inst ci p1 p2 p3 : Nat) : Bool := match vwCl[ci]? with
  | some (C, _, _) => decide (inst = 1) && decide ((P g).1.cls = C) && sm_has p1 (.methodLink M.1.cls x (P g).1) && sm_has p2 (.instanceMethod (P g).1) && sm_has p3 (.selects C (P g).1 (P g).1)
  | none => false
def sm_okS (P : Nat → sm_M) (M : sm_M) (x g inst p1 p2 : Nat) : Bool := decide (inst = 0) && sm_has p1 (.methodLink M.1.cls x (P g).1) && sm_has p2 (.static (P g).1)
def sm_okP (P : Nat → sm_M) (M : sm_M) (x g inst nst p1 p2 : Nat) : Bool := decide (inst = 1) && decide ((P g).1.name = "<init>") && decide ((P g).2.2.2.1 = none) && (if nst = 1 then decide (sm_nest[p1]? = some (M.1.cls, x, (P g).1)) else sm_has p1 (.methodLink M.1.cls x (P g).1)) && sm_has p2 (.instanceMethod (P g).1)
def sm_okD (P : Nat → sm_M) (M : sm_M) (i : Instr) (g inst ci : Nat) (r : List Nat) : Bool := match i with
  | .invokevirtual x => sm_okV P M x g inst ci (r.getD 0 0) (r.getD 1 0) (r.getD 2 0)
  | .invokestatic x => sm_okS P M x g inst (r.getD 0 0) (r.getD 1 0)
  | .invokespecial x => sm_okP P M x g inst (r.getD 3 0) (r.getD 0 0) (r.getD 1 0)
  | _ => false
def sm_okC (P : Nat → sm_M) (M : sm_M) (i : Instr) (g inst ci : Nat) (r : List Nat) : Bool := decide ((P g).2.2.2.2.2.2.2.1.getD 2 0 = 1) && sm_okD P M i g inst ci r
def sm_okE (P : Nat → sm_M) (M : sm_M) (i : Instr) (ops : List Nat) : Bool := match ops with
  | g :: inst :: ci :: a1 :: a2 :: a3 :: a4 :: r => sm_okC P M i g inst ci (a1 :: a2 :: a3 :: a4 :: r)
  | _ => sm_ok1 M i ops
def sm_dec (M : sm_M) (pc : Nat) (i : Instr) : Bool := decide (decode M.2.1 pc = .ok (i, sm_ln i))
def sm_decS (M : sm_M) (pc : Nat) (i : Instr) (len : Nat) : Bool := decide (decode M.2.1 pc = .ok (i, len))
def sm_isI (r : Option FieldType) : Bool := match r with
  | some .int => true
  | some .boolean => true
  | _ => false
def sm_isO (r : Option FieldType) : Bool := match r with
  | some (.object _) => true
  | _ => false
def sm_okA (M : sm_M) (at' : ArrayType) (t pos : Nat) : Bool := decide (t < 4) && decide (newarray.typeOf at' = sm_ty t) && sm_has pos (.arrayClass (newarray.typeOf at'))
def sm_okI (P : Nat → sm_M) (M : sm_M) (pc : Nat) (i : Instr) (ops : List Nat) (k : Nat → Bool) : Bool := match i with
  | .goto off => sm_dec M pc (.goto off) && sm_tg M pc off (ops.getD 0 0)
  | .ifCond c off => sm_dec M pc (.ifCond c off) && sm_tg M pc off (ops.getD 0 0) && sm_tg M pc 3 (ops.getD 1 0)
  | .if_icmp c off => sm_dec M pc (.if_icmp c off) && sm_tg M pc off (ops.getD 0 0) && sm_tg M pc 3 (ops.getD 1 0)
  | .ifnull off => sm_dec M pc (.ifnull off) && sm_tg M pc off (ops.getD 0 0) && sm_tg M pc 3 (ops.getD 1 0)
  | .ifnonnull off => sm_dec M pc (.ifnonnull off) && sm_tg M pc off (ops.getD 0 0) && sm_tg M pc 3 (ops.getD 1 0)
  | .tableswitch df lo hi offs => (match decode M.2.1 pc with
    | .ok (j, _) => decide (j = .tableswitch df lo hi offs)
    | _ => false) && sm_tg M pc df (ops.getD 0 0) && sm_tgs M pc offs.toList (ops.drop 1) && decide (lo + offs.toList.length = hi + 1)
  | .lookupswitch df ps => (match decode M.2.1 pc with
    | .ok (j, _) => decide (j = .lookupswitch df ps)
    | _ => false) && sm_tg M pc df (ops.getD 0 0) && sm_tgs M pc (ps.toList.map (fun q => q.2)) (ops.drop 1) && (ps.toList.zip (ps.toList.drop 1)).all (fun (a, next) => a.1 < next.1)
  | .ireturn => sm_dec M pc .ireturn && sm_isI M.2.2.2.1
  | .lreturn => sm_dec M pc .lreturn && decide (M.2.2.2.1 = some .long)
  | .areturn => sm_dec M pc .areturn && sm_isO M.2.2.2.1
  | .return_ => sm_dec M pc .return_ && decide (M.2.2.2.1 = none)
  | .new x => sm_dec M pc (.new x) && sm_okN M x (ops.getD 0 0) (ops.getD 1 0) (ops.getD 2 0) (ops.getD 3 0) && k (pc + 3)
  | .newarray at' => sm_dec M pc (.newarray at') && sm_okA M at' (ops.getD 0 0) (ops.getD 1 0) && k (pc + 2)
  | i => sm_dec M pc i && sm_okE P M i ops && k (pc + sm_ln i)
def sm_okL (P : Nat → sm_M) (M : sm_M) (fall : Nat) : List (Instr × List Nat) → Nat → Bool
  | [], pc => sm_tg M pc 0 fall
  | (i, ops) :: is, pc => sm_okI P M pc i ops (sm_okL P M fall is)
/-- a method's table is in order -/
def sm_okM (P : Nat → sm_M) (M : sm_M) : Bool := plainName M.1.cls && decide (M.1.cls ≠ "java/lang/invoke/MethodHandle") && decide (M.1.cls ≠ "java/lang/invoke/VarHandle") &&
  decide ((parseMethodDescriptor M.1.desc).map (fun d => d.parameters.length) = some M.2.2.2.2.1) && decide (M.2.2.1 ≤ 60) && (match (sm_blks M)[0]? with
    | some B => decide (B.1 = 0)
    | none => false) && (sm_blks M).all (fun B => sm_okL P M B.2.2.1 B.2.2.2 B.1)
def sm_Cal (M : sm_M) : Prop := Cond.code M.1 M.2.1 M.2.2.1 M.2.2.2.1 ∈ sm_wl ∧ Cond.initialized M.1.cls ∈ sm_wl
/-- its table is in order, and if it is called its words are among the tables' -/
def sm_OK (P : Nat → sm_M) (M : sm_M) : Prop := sm_okM P M = true ∧ (M.2.2.2.2.2.2.2.1.getD 2 0 = 1 → sm_Cal M)
theorem sm_dec_of {M : sm_M} {pc : Nat} {i : Instr} (h : sm_dec M pc i = true) : decode M.2.1 pc = .ok (i, sm_ln i) := of_decide_eq_true h
theorem sm_tg_of {M : sm_M} {pc b : Nat} {off : Int} (h : sm_tg M pc off b = true) : ∃ B, (sm_blks M)[b]? = some B ∧ (pc : Int) + off = (B.1 : Int) := by
  unfold sm_tg at h; split at h
  · next B e => exact ⟨B, e, of_decide_eq_true h⟩
  · cases h
def sm_mw (M : sm_M) : List Cond := .code M.1 M.2.1 M.2.2.1 M.2.2.2.1 :: sm_wl
def sm_rm (d : Nat) (M : sm_M) : Room := { frames := d + 1, cells := M.2.2.2.2.2.1, slots := M.2.2.2.2.2.2.1, locals := 80 * d + 100 }
def sm_Pre (base : Nat) (ct : Nat → ClassId) (tt : Nat → Nat) (D : va_G) (S : sm_C) (w : sm_W) (U : State) : Prop := U.heap.size = base + w.1.length ∧ w.1.length ≤ 1000 ∧ va_P D vwCl (sm_ws base ct tt w) U.heap ∧ sm_G base ct tt D S U
def sm_Q (base : Nat) (ct : Nat → ClassId) (tt : Nat → Nat) (D : va_G) (z : sm_Z) : Array Value → State → Outcome → State → Prop := fun _ st oc t => oc = .returned (z.1.map (sm_cv base tt)) ∧ va_P D vwCl (sm_ws base ct tt z.2) t.heap ∧ va_F (sm_A base) st t
def sm_ret (i : Instr) (v : Option Value) (ret : Option FieldType) : Prop := (i = .ireturn ∧ ∃ x, v = some (.int x) ∧ (ret = some .int ∨ (ret = some .boolean ∧ (x = 0 ∨ x = 1)))) ∨ (i = .lreturn ∧ ∃ x, v = some (.long x) ∧ ret = some .long) ∨ (i = .areturn ∧ ∃ x, v = some (.ref x) ∧ ∃ n, ret = some (.object n)) ∨ (i = .return_ ∧ v = none ∧ ret = none)
def sm_end (base : Nat) (ct : Nat → ClassId) (tt : Nat → Nat) (D : va_G) (M : sm_M) (p : Program) (l : Launch) (e : Env) (R : Room) (s : State) (m : MethodId) (args : Array Value) (below : List Frame) (meth : Method) (c : Code) (Q : State → Prop) (z : sm_Z) : Prop :=
  ∀ (H : Heap) (locs : List Loc) (pc : Nat) (ls : Array Slot) (i : Instr), decode M.2.1 pc = .ok (i, 1) → sm_ret i z.1 M.2.2.2.1 → va_P D vwCl (sm_ws base ct tt z.2) H → va_S (sm_A base) s.heap H locs →
    W p l e R s m args below meth c H locs M.2.2.2.2.2.1 M.2.2.2.2.2.2.1 Q (F0 m pc ls ((z.1.map (sm_cv base tt)).toList))
theorem sm_G.moved {base : Nat} {ct : Nat → ClassId} {tt : Nat → Nat} {D : va_G} {S : sm_C} {s U : State} {H : Heap} {locs : List Loc} (h : sm_G base ct tt D S s) (hW : s.WarmedH U.vm) (hU : U.heap = H) (hS : va_S (sm_A base) s.heap H locs) : sm_G base ct tt D S U := by
  obtain ⟨h1, h2, h3, h4, h5, h6⟩ := h
  have hk : ∀ a : Nat, a < s.heap.size → ¬ sm_A base a → U.heap[a]? = s.heap[a]? := fun a ha hn => by rw [hU]; exact hS.2.1 a ha hn
  refine ⟨va_K.moved hW.alike h1, by rw [hU]; exact Nat.le_trans h2 hS.1, fun k q hq => (va_Z.moved hW.alike (h3 k q hq)).kept hk, fun p q hq => ?_, fun p q hq => ?_, fun q hq => va_Nw.warmM hW (h6 q hq)⟩
  · exact ⟨(h4 p q hq).1, (va_T.moved hW.alike (h4 p q hq).2).kept hk⟩
  · exact ⟨(h5 p q hq).1, (va_T.moved hW.alike (h5 p q hq).2).kept hk⟩
theorem sm_blind {base : Nat} {ct : Nat → ClassId} {tt : Nat → Nat} {D : va_G} {S : sm_C} {w : sm_W} {as : List Value} : FrameBlind (va_Pc as (sm_Pre base ct tt D S w)) := by
  intro a U g mk h
  obtain ⟨h0, h1, h2, h3, h4, h5, h6, h7, h8, h9⟩ := h
  refine ⟨h0, h1, h2, h3, va_K.moved (u := U) (U := U.calling g mk a) (Vm.Alike.refl U.vm) h4, h5, fun k q hq => va_Z.moved (u := U) (U := U.calling g mk a) (Vm.Alike.refl U.vm) (h6 k q hq), fun p q hq => ⟨(h7 p q hq).1, va_T.moved (u := U) (U := U.calling g mk a) (Vm.Alike.refl U.vm) (h7 p q hq).2⟩, fun p q hq => ⟨(h8 p q hq).1, va_T.moved (u := U) (U := U.calling g mk a) (Vm.Alike.refl U.vm) (h8 p q hq).2⟩, fun q hq => va_Nw.same rfl (u := U) (U := U.calling g mk a) rfl (h9 q hq)⟩
theorem sm_args_map {base : Nat} {tt : Nat → Nat} : ∀ (vs : List Value) (i : Nat), lv_args i (vs.map (sm_cv base tt)) = (lv_args i vs).map (sm_cq base tt)
  | [], _ => rfl
  | v :: vs, i => by
    show (i, sm_cv base tt v) :: lv_args _ _ = (i, sm_cv base tt v) :: (lv_args _ vs).map _
    rw [sm_cv_cat, sm_args_map vs]
theorem sm_sl_len {base : Nat} {tt : Nat → Nat} (vs : List Value) : (lg_sl (vs.map (sm_cv base tt))).length = (lg_sl vs).length := by
  induction vs with
  | nil => rfl
  | cons v r ih =>
    simp only [lg_sl, List.map_cons, List.flatMap_cons, List.length_append, sm_cv_cat] at ih ⊢
    rw [ih]
    split <;> rfl
theorem sm_pick_of : ∀ {live : List Nat} {lv : sm_V} {vs : List Value}, sm_pick live lv = some vs → ∀ q ∈ live.zip vs, q ∈ lv
  | [], lv, vs, h, q, hq => by simp at hq
  | i :: r, lv, vs, h, q, hq => by
    unfold sm_pick at h
    split at h
    · cases h
    · next v hv =>
      split at h
      · cases h
      · next vs' hvs =>
        cases h
        rcases List.mem_cons.mp hq with rfl | hq
        · exact sm_lk_in hv
        · exact sm_pick_of hvs q hq
section SmMain
variable {base : Nat} {ct : Nat → ClassId} {tt : Nat → Nat} {D : va_G} {S : sm_C} {M : sm_M} {d : Nat} {p : Program} {l : Launch} {e : Env} {R : Room} {s : State} {m : MethodId} {args : Array Value} {below : List Frame} {meth : Method} {c : Code} {Q : State → Prop}
variable {pc : Nat} {lv lv' : sm_V} {st st' r : List Value} {w : sm_W} {cs : Nat × Nat} {ops : List Nat} {z : sm_Z}
theorem sm_sub (h : ∀ q ∈ lv', q ∈ lv) (k : sm_TW base ct tt D M p l e R s m args below meth c Q pc lv' st w cs) : sm_TW base ct tt D M p l e R s m args below meth c Q pc lv st w cs := by
  intro H locs ls hl hP hS hz hn hcs
  refine k H locs ls ⟨hl.1, hl.2.1, fun q hq => ?_⟩ hP hS hz hn hcs
  obtain ⟨u, hu, rfl⟩ := List.mem_map.mp hq
  exact hl.2.2 _ (List.mem_map.mpr ⟨u, h u hu, rfl⟩)
theorem sm_after {mc ms cells slots : Nat} {H : Heap} {locs : List Loc} {ls : Array Slot} {st0 rest : List Value} {a : Array Value} (hr : va_Run p l e R s m args below meth c H locs cells slots mc ms (F0 m pc ls st0) rest (sm_Q base ct tt D z a) (sm_A base)) (hS : va_S (sm_A base) s.heap H locs)
    (kk : ∀ (H1 : Heap) (locs1 : List Loc), va_P D vwCl (sm_ws base ct tt z.2) H1 → va_S (sm_A base) s.heap H1 locs1 → W p l e R s m args below meth c H1 locs1 (cells + mc) (slots + ms) Q (F0 m (pc + 3) ls ((z.1.map (sm_cv base tt)).toList ++ rest))) : W p l e R s m args below meth c H locs cells slots Q (F0 m pc ls st0) := by
  intro T hT X
  obtain ⟨v, st₀, t, T', L, h0, X', hL, e1, e2, ⟨hv, hP1, hz, hk⟩, st⟩ := hr T hT X
  have hv := Outcome.returned.inj hv
  subst hv
  rw [h0] at hz hk
  obtain ⟨t2, a1, b1⟩ := kk T'.heap (locs ++ L) (by rw [e1]; exact hP1) ⟨Nat.le_trans hS.1 (by rw [e1]; exact hz), fun q h1 h2 => by rw [e1, hk q (Nat.lt_of_lt_of_le h1 hS.1) h2]; exact hS.2.1 q h1 h2, fun q hq => by
      rcases List.mem_append.mp hq with h | h
      · exact hS.2.2 q h
      · exact hL q h⟩ T' rfl X'
  exact ⟨t2, st t2 a1, b1⟩
theorem sm_size_le {H : Heap} {locs : List Loc} (hb : base ≤ s.heap.size) (hP : va_P D vwCl (sm_ws base ct tt w) H) (hS : va_S (sm_A base) s.heap H locs) (hz : s.heap.size + cs.1 = base + w.1.length) : base + w.1.length ≤ H.size := by
  cases hw : w.1.length with
  | zero =>
    have := hS.1
    rw [hw] at hz
    omega
  | succ n =>
    have hn : n < w.1.length := by omega
    have h1 : (sm_ws base ct tt w)[n]? = some (sm_E base ct tt w n w.1[n]) := by rw [sm_ws_get, List.getElem?_eq_getElem hn]; rfl
    have h2 : base + n < H.size := (hP n _ h1).lt
    omega
theorem sm_sized {H : Heap} {locs : List Loc} {g : JFrame} (hb : base ≤ s.heap.size) (hP : va_P D vwCl (sm_ws base ct tt w) H) (hS : va_S (sm_A base) s.heap H locs) (hz : s.heap.size + cs.1 = base + w.1.length) (k : H.size = base + w.1.length → W p l e R s m args below meth c H locs cs.1 cs.2 Q g) : W p l e R s m args below meth c H locs cs.1 cs.2 Q g := by
  intro T hT X
  have h1 := X.heapSize
  have h2 := sm_size_le hb hP hS hz
  rw [hT] at h1
  exact k (by omega) T hT X
end SmMain
end
section
section SmCalls
variable {base : Nat} {ct : Nat → ClassId} {tt : Nat → Nat} {D : va_G} {S : sm_C} {M : sm_M} {d : Nat} {p : Program} {l : Launch} {e : Env} {R : Room} {s : State} {m : MethodId} {args : Array Value} {below : List Frame} {meth : Method} {c : Code} {Q : State → Prop}
variable {pc : Nat} {lv lv' : sm_V} {st st' r : List Value} {lay : List (Nat × Nat)} {me : sm_Y} {w : sm_W} {cs : Nat × Nat} {ops : List Nat} {z : sm_Z} {P : Nat → sm_M}
theorem sm_Aq {q : Nat} (hb : base ≤ s.heap.size) (h : s.heap.size ≤ q) : sm_A base q := Nat.le_trans hb h
/-- the address of a new cell -/
theorem sm_newq {H1 : Heap} {q n : Nat} {x : va_E} (hD : va_D (sm_A base) (sm_ws base ct tt w ++ [(q, x)])) (hP : va_P D vwCl (sm_ws base ct tt w ++ [(q, x)]) H1) (hz : H1.size ≤ base + w.1.length + 1) : q = base + w.1.length := by
  have hlen : (sm_ws base ct tt w).length = w.1.length := by simp [sm_ws]
  have hq : (sm_ws base ct tt w ++ [(q, x)])[w.1.length]? = some (q, x) := by
    rw [List.getElem?_append_right (by omega), hlen, Nat.sub_self]; rfl
  have h1 : base ≤ q := hD.2 _ _ hq
  have h2 : q < H1.size := (hP _ _ hq).lt
  rcases Nat.lt_or_ge q (base + w.1.length) with h | h
  · have hk : q - base < w.1.length := by omega
    have hg : (sm_ws base ct tt w ++ [(q, x)])[q - base]? = some (sm_E base ct tt w (q - base) w.1[q - base]) := by
      rw [List.getElem?_append_left (by omega), sm_ws_get, List.getElem?_eq_getElem hk]; rfl
    have := hD.1 _ _ _ _ hq hg (by show q = base + (q - base); omega)
    omega
  · omega
theorem sm_sizedX {H1 : Heap} {locs : List Loc} {g : JFrame} {n : Nat} {cells slots : Nat} (hz : s.heap.size + cells = n) (k : H1.size ≤ n → W p l e R s m args below meth c H1 locs cells slots Q g) : W p l e R s m args below meth c H1 locs cells slots Q g := by
  intro T hT X
  have h1 := X.heapSize
  rw [hT] at h1
  exact k (by omega) T hT X
set_option maxHeartbeats 4000000 in
theorem sm_k_new (cf : sm_CF) (hX : sm_X base ct tt D S M d p R s m args meth c) {x ci p1 p2 p3 : Nat} (hd : decode M.2.1 pc = .ok (.new x, 3)) (ho : sm_okN M x ci p1 p2 p3 = true) (hg : ¬ (1000 ≤ lay.length ∨ M.2.2.2.2.2.1 < cs.1 + 1 ∨ M.2.2.2.2.2.2.1 < cs.2 + sm_N ci))
    (kk : sm_TW base ct tt D M p l e R s m args below meth c Q (pc + 3) lv (.ref lay.length :: st) (lay ++ [(0, ci)], sm_row me.1 lay.length (fun _ => 0), me.2.1, sm_row me.2.2 lay.length (fun _ => none)) (cs.1 + 1, cs.2 + sm_N ci)) : sm_TW base ct tt D M p l e R s m args below meth c Q pc lv st (lay, me) cs := by
  obtain ⟨hx, hb, hml, hown, hts, hnm, hfr, hlo, hce, hsl, hG⟩ := hX
  unfold sm_okN at ho
  split at ho
  · next C T N hc =>
    simp only [Bool.and_eq_true] at ho
    obtain ⟨c1, c2, c3, c4, c5⟩ := cf ci C T N hc
    intro H locs ls hl hP hS hz hn hcs
    have hfs : ∀ j, j < N → defaultValue (sm_fty ci j) = vp_V (sm_fs base tt (lay ++ [(0, ci)], sm_row me.1 lay.length (fun _ => 0), me.2.1, sm_row me.2.2 lay.length (fun _ => none)) ci lay.length) j := by
      intro j hj
      obtain ⟨k0, k2, k1, k3⟩ := c5 j hj
      have e1 : vp_V (sm_fs base tt (lay ++ [(0, ci)], sm_row me.1 lay.length (fun _ => 0), me.2.1, sm_row me.2.2 lay.length (fun _ => none)) ci lay.length) j = sm_fv base tt (lay ++ [(0, ci)], sm_row me.1 lay.length (fun _ => 0), me.2.1, sm_row me.2.2 lay.length (fun _ => none)) ci lay.length j := by
        simp [vp_V, List.getD, sm_fs_get (show j < sm_N ci by rw [c4]; exact hj)]
      rw [e1]
      rcases (show sm_cd ci j = 0 ∨ sm_cd ci j = 1 ∨ sm_cd ci j = 2 by omega) with h | h | h
      · rw [k0 h]; simp [sm_fv, h, sm_row]; rfl
      · rcases k1 h with ⟨n, e⟩ | ⟨n, e⟩ <;> (rw [e]; simp [sm_fv, h, sm_row, sm_rv, sm_cv]; rfl)
      · rw [k2 h]; simp [sm_fv, h, sm_row]; rfl
    rw [c4] at hg kk
    refine va_new hx hb hts c1 (sm_fty ci) c2 hown (hts _ (sm_has_in ho.1.1)) (hts _ (sm_has_in ho.1.2)) (hts _ (sm_has_in ho.2)) hG.1 hP (sm_D _) hS (fun q h => sm_Aq hG.2.1 h) hc hfs (by omega) (by omega) hd (fun q H1 hP1 hD1 hS1 => ?_)
    refine sm_sizedX (n := base + lay.length + 1) (by have : s.heap.size + cs.1 = base + lay.length := hz; omega) (fun hsz => ?_)
    have hq := sm_newq (w := (lay, me)) (n := 0) hD1 hP1 hsz
    have hq : q = base + lay.length := hq
    subst hq
    have hpush := sm_push (base := base) (ct := ct) (tt := tt) (lay := lay) (m := me) (m' := (sm_row me.1 lay.length (fun _ => 0), me.2.1, sm_row me.2.2 lay.length (fun _ => none))) (q := (0, ci)) (fun k hk u => by apply sm_E_new <;> simp [sm_row, Nat.ne_of_lt hk])
    have hP2 : va_P D vwCl (sm_ws base ct tt (lay ++ [(0, ci)], sm_row me.1 lay.length (fun _ => 0), me.2.1, sm_row me.2.2 lay.length (fun _ => none))) H1 := by
      rw [hpush]; exact hP1
    have k1 := kk H1 locs ls hl hP2 hS1 (by show s.heap.size + (cs.1 + 1) = base + (lay ++ [(0, ci)]).length; have : s.heap.size + cs.1 = base + lay.length := hz; simp; omega) (by show (lay ++ [(0, ci)]).length ≤ 1000; simp; omega) ⟨by show cs.1 + 1 ≤ _; omega, by show cs.2 + N ≤ _; omega⟩
    have e2 : (Value.ref lay.length :: st).map (sm_cv base tt) = Value.ref (base + lay.length) :: st.map (sm_cv base tt) := by
      show Value.ref (sm_ad base tt lay.length) :: _ = _
      rw [sm_ad_w (by omega)]
    rw [e2] at k1
    exact k1
  · cases ho
theorem sm_comp {t : Nat} (h : t < 4) : componentBytes (sm_ty t) ≤ 8 := by
  match t, h with
  | 0, _ => decide
  | 1, _ => decide
  | 2, _ => decide
  | 3, _ => decide
set_option maxHeartbeats 4000000 in
theorem sm_k_newa (hX : sm_X base ct tt D S M d p R s m args meth c) {at' : ArrayType} {t pos : Nat} {n : Int32} (hd : decode M.2.1 pc = .ok (.newarray at', 2)) (ho : sm_okA M at' t pos = true) (hg : ¬ (n < 0 ∨ 100000 < n.toNatClampNeg ∨ 1000 ≤ lay.length ∨ M.2.2.2.2.2.1 < cs.1 + 1 ∨ M.2.2.2.2.2.2.1 < cs.2 + n.toNatClampNeg))
    (kk : sm_TW base ct tt D M p l e R s m args below meth c Q (pc + 2) lv (.ref lay.length :: r) (lay ++ [(t + 1, n.toNatClampNeg)], sm_row me.1 lay.length (fun _ => 0), sm_row me.2.1 lay.length (fun _ => 0), me.2.2) (cs.1 + 1, cs.2 + n.toNatClampNeg)) : sm_TW base ct tt D M p l e R s m args below meth c Q pc lv (.int n :: r) (lay, me) cs := by
  obtain ⟨hx, hb, hml, hown, hts, hnm, hfr, hlo, hce, hsl, hG⟩ := hX
  simp only [sm_okA, Bool.and_eq_true, decide_eq_true_eq] at ho
  obtain ⟨⟨ht, hty⟩, hpos⟩ := ho
  intro H locs ls hl hP hS hz hn hcs
  have hcomp := sm_comp ht
  refine va_newa (a0 := (n.toNatClampNeg, if t = 3 then .inr (.inl (fun _ => 0)) else .inl (fun _ => 0))) hx hb (hts _ (sm_has_in hpos)) hty hG.1 hP (sm_D _) hS (fun q h => sm_Aq hG.2.1 h) (fun cA => ?_) (fun q => hg (Or.inl q)) rfl ?_ (by omega) (by omega) hd (fun q cA H1 hK1 hP1 hD1 hS1 => ?_)
  · match t, ht with
    | 0, _ => rfl
    | 1, _ => rfl
    | 2, _ => rfl
    | 3, _ => rfl
  · have h1 : n.toNatClampNeg ≤ 100000 := by omega
    exact Nat.le_trans (Nat.mul_le_mul h1 hcomp) (by decide)
  · have hcA : cA = ct t := by
      have h1 := (hK1.2 4 (cA, sm_ty t) rfl).2
      have h2 : ∃ ty, (sm_tys ct)[t]? = some (ct t, ty) ∧ ty = sm_ty t := by
        match t, ht with
        | 0, _ => exact ⟨_, rfl, rfl⟩
        | 1, _ => exact ⟨_, rfl, rfl⟩
        | 2, _ => exact ⟨_, rfl, rfl⟩
        | 3, _ => exact ⟨_, rfl, rfl⟩
      obtain ⟨ty, h3, rfl⟩ := h2
      have h4 := (hG.1.2 t _ h3).2
      match t, ht, h1, h4 with
      | 0, _, h1, h4 => exact Option.some.inj (h1.symm.trans h4)
      | 1, _, h1, h4 => exact Option.some.inj (h1.symm.trans h4)
      | 2, _, h1, h4 => exact Option.some.inj (h1.symm.trans h4)
      | 3, _, h1, h4 => exact Option.some.inj (h1.symm.trans h4)
    subst hcA
    refine sm_sizedX (n := base + lay.length + 1) (by have : s.heap.size + cs.1 = base + lay.length := hz; omega) (fun hsz => ?_)
    have hq := sm_newq (w := (lay, me)) (n := 0) hD1 hP1 hsz
    have hq : q = base + lay.length := hq
    subst hq
    have hpush := sm_push (base := base) (ct := ct) (tt := tt) (lay := lay) (m := me) (m' := (sm_row me.1 lay.length (fun _ => 0), sm_row me.2.1 lay.length (fun _ => 0), me.2.2)) (q := (t + 1, n.toNatClampNeg)) (fun k hk u => by apply sm_E_new <;> simp [sm_row, Nat.ne_of_lt hk])
    have hP2 : va_P D vwCl (sm_ws base ct tt (lay ++ [(t + 1, n.toNatClampNeg)], sm_row me.1 lay.length (fun _ => 0), sm_row me.2.1 lay.length (fun _ => 0), me.2.2)) H1 := by
      rw [hpush]
      have e3 : (sm_E base ct tt (lay ++ [(t + 1, n.toNatClampNeg)], sm_row me.1 lay.length (fun _ => 0), sm_row me.2.1 lay.length (fun _ => 0), me.2.2) lay.length (t + 1, n.toNatClampNeg)).2 = .inl (ct t, n.toNatClampNeg, if t = 3 then .inr (.inl (fun _ => 0)) else .inl (fun _ => 0)) := by
        simp [sm_E, sm_row]
      rw [e3]; exact hP1
    have k1 := kk H1 locs ls hl hP2 hS1 (by show s.heap.size + (cs.1 + 1) = base + (lay ++ [(t + 1, n.toNatClampNeg)]).length; have : s.heap.size + cs.1 = base + lay.length := hz; simp; omega) (by show (lay ++ [(t + 1, n.toNatClampNeg)]).length ≤ 1000; simp; omega) ⟨by show cs.1 + 1 ≤ _; omega, by show cs.2 + n.toNatClampNeg ≤ _; omega⟩
    have e2 : (Value.ref lay.length :: r).map (sm_cv base tt) = Value.ref (base + lay.length) :: r.map (sm_cv base tt) := by
      show Value.ref (sm_ad base tt lay.length) :: _ = _
      rw [sm_ad_w (by omega)]
    rw [e2] at k1
    exact k1
end SmCalls
end
section
theorem sm_okM_of {P : Nat → sm_M} {M : sm_M} (h : sm_okM P M = true) : plainName M.1.cls = true ∧ (M.1.cls ≠ "java/lang/invoke/MethodHandle" ∧ M.1.cls ≠ "java/lang/invoke/VarHandle" ∧ (parseMethodDescriptor M.1.desc).map (fun d => d.parameters.length) = some M.2.2.2.2.1) ∧ M.2.2.1 ≤ 60 ∧ (∃ B, (sm_blks M)[0]? = some B ∧ B.1 = 0) ∧ ∀ B ∈ sm_blks M, sm_okL P M B.2.2.1 B.2.2.2 B.1 = true := by
  unfold sm_okM at h
  simp only [Bool.and_eq_true, decide_eq_true_eq] at h
  obtain ⟨⟨⟨⟨⟨⟨h1, h2⟩, h3⟩, h6⟩, h7⟩, h8⟩, h9⟩ := h
  refine ⟨h1, ⟨h2, h3, h6⟩, h7, ?_, List.all_eq_true.mp h9⟩
  split at h8
  · next B e => exact ⟨B, e, of_decide_eq_true h8⟩
  · cases h8
theorem sm_gI2 {M : sm_M} (h : Cond.code M.1 M.2.1 M.2.2.1 M.2.2.2.1 ∈ sm_wl) : GoodIn sm_wl (sm_mw M) := fun w hw => by
  rcases List.mem_cons.mp hw with rfl | hw
  · exact ⟨h, sm_wl_good h⟩
  · exact ⟨hw, sm_wl_good hw⟩
theorem sm_rc_of {ci n : Nat} {lay : List (Nat × Nat)} {st : List Value} (h : sm_rc 1 ci lay st n = true) : ∃ X b rest, st = X ++ .ref b :: rest ∧ X.length = n ∧ lay[b]? = some (0, ci) := by
  unfold sm_rc at h
  split at h
  · next hh => cases hh
  · split at h
    · next b rest e =>
      split at h
      · next c' e2 =>
        have hc := of_decide_eq_true h
        subst hc
        refine ⟨st.take n, b, rest, ?_, ?_, e2⟩
        · rw [← e, List.take_append_drop]
        · have hl : n < st.length := by
            rcases Nat.lt_or_ge n st.length with q | q
            · exact q
            · rw [List.drop_eq_nil_of_le q] at e; cases e
          simp; omega
      · cases h
    · cases h
section SmRun
variable {base : Nat} {ct : Nat → ClassId} {tt : Nat → Nat} {D : va_G} {S : sm_C} {M : sm_M} {d : Nat} {p : Program} {l : Launch} {e : Env} {R : Room} {s : State} {m : MethodId} {args : Array Value} {below : List Frame} {meth : Method} {c : Code} {Q : State → Prop}
variable {pc : Nat} {lv lv' : sm_V} {st st' r : List Value} {lay : List (Nat × Nat)} {me : sm_Y} {w : sm_W} {cs : Nat × Nat} {ops : List Nat} {z z' : sm_Z} {P : Nat → sm_M}
theorem sm_tl (o : Option Value) (r : List Value) : (o.map (sm_cv base tt)).toList ++ r.map (sm_cv base tt) = (o.toList ++ r).map (sm_cv base tt) := by
  cases o <;> simp
set_option maxHeartbeats 4000000 in
theorem sm_k_V (okP : ∀ f, sm_OK P (P f)) (hX : sm_X base ct tt D S M (d + 1) p R s m args meth c) {x g ci p1 p2 p3 : Nat} {X rest : List Value} {b : Nat} (hcal : sm_Cal (P g)) (hd : decode M.2.1 pc = .ok (.invokevirtual x, 3)) (ho : sm_okV P M x g 1 ci p1 p2 p3 = true) (hb1 : w.1[b]? = some (0, ci)) (hn1 : X.length = (P g).2.2.2.2.1) (h8 : (rest.map fun v => v.category).sum ≤ 8) (hce1 : cs.1 + (P g).2.2.2.2.2.1 ≤ M.2.2.2.2.2.1) (hsl1 : cs.2 + (P g).2.2.2.2.2.2.1 ≤ M.2.2.2.2.2.2.1)
    (hM : Met l (P g).1 (sm_mw (P g)) (sm_rm d (P g)) (va_Pc ((Value.ref b :: X.reverse).map (sm_cv base tt)) (sm_Pre base ct tt D S w)) (sm_Q base ct tt D z') (P g).2.2.2.2.2.1 (P g).2.2.2.2.2.2.1 (sm_A base)) (hlen : z'.2.1.length = w.1.length + (P g).2.2.2.2.2.1) (hlen2 : z'.2.1.length ≤ 1000)
    (kk : sm_TW base ct tt D M p l e R s m args below meth c Q (pc + 3) lv (z'.1.toList ++ rest) z'.2 (cs.1 + (P g).2.2.2.2.2.1, cs.2 + (P g).2.2.2.2.2.2.1)) : sm_TW base ct tt D M p l e R s m args below meth c Q pc lv (X ++ .ref b :: rest) w cs := by
  obtain ⟨hx, hb, hml, hown, hts, hnm, hfr, hlo, hce, hsl, hG⟩ := hX
  obtain ⟨g1, ⟨g2, g3, g4⟩, g7, -, -⟩ := sm_okM_of (okP g).1
  obtain ⟨g5, g6⟩ := hcal
  unfold sm_okV at ho
  split at ho
  · next C T N hc =>
    simp only [Bool.and_eq_true, decide_eq_true_eq] at ho
    obtain ⟨⟨⟨⟨-, hcls⟩, o1⟩, o2⟩, o3⟩ := ho
    intro H locs ls hl hP hS hz hn hcs
    refine sm_sized hG.2.1 hP hS hz (fun hsz => ?_)
    have hT : GoodIn sm_wl (wsV M.1.cls x C (P g).1 (sm_mw (P g))) := fun u hu => by
      rcases List.mem_append.mp hu with h | h
      · simp only [List.mem_cons, List.not_mem_nil, or_false] at h
        rcases h with rfl | rfl | rfl | rfl
        · exact ⟨sm_has_in o1, sm_wl_good (sm_has_in o1)⟩
        · exact ⟨sm_has_in o2, sm_wl_good (sm_has_in o2)⟩
        · exact ⟨sm_has_in o3, sm_wl_good (sm_has_in o3)⟩
        · rw [← hcls]; exact ⟨g6, sm_wl_good g6⟩
      · exact sm_gI2 g5 u h
    have hatO : (sm_ws base ct tt w)[b]? = some (sm_ad base tt b, .inr (ci, sm_fs base tt w ci b)) := sm_atO (lay := w.1) (m := w.2) hn hb1
    have hst : (F0 m pc ls ((X ++ .ref b :: rest).map (sm_cv base tt))).stack = ((X.reverse).map (sm_cv base tt)).reverse ++ .ref (sm_ad base tt b) :: rest.map (sm_cv base tt) := by
      simp [List.map_reverse]; rfl
    refine sm_after (va_runV (As := (X.reverse).map (sm_cv base tt)) (rest := rest.map (sm_cv base tt)) (b := sm_ad base tt b) (C := C) ⟨hx, hb, hml, hown, hts⟩ hM (cwV (P g).2.2.2.2.1 hts hT rfl rfl rfl ⟨hcls, g2, g3, g4⟩ ⟨by show d + 1 + 1 ≤ R.frames; omega, by show 8 + ((P g).2.2.1 + 11) + (80 * d + 100) ≤ R.locals; omega⟩) ⟨sm_blind, va_recv hG.1 hP hc hatO, fun U hU hW => ⟨rfl, by rw [hU]; exact hsz, hn, by rw [hU]; exact hP, hG.moved hW hU hS⟩⟩ rfl (by simp [hn1]) hl.1 hst (lv_room (by rw [sm_cats]; exact h8)) hd ⟨by omega, by omega⟩) hS (fun H1 locs1 hP1 hS1 => ?_)
    rw [sm_tl]
    exact kk H1 locs1 ls hl hP1 hS1 (by show s.heap.size + (cs.1 + _) = base + z'.2.1.length; rw [hlen]; have : s.heap.size + cs.1 = base + w.1.length := hz; omega) hlen2 ⟨hce1, hsl1⟩
  · cases ho
set_option maxHeartbeats 4000000 in
theorem sm_k_S (okP : ∀ f, sm_OK P (P f)) (hX : sm_X base ct tt D S M (d + 1) p R s m args meth c) {x g p1 p2 : Nat} {X rest : List Value} (hcal : sm_Cal (P g)) (hd : decode M.2.1 pc = .ok (.invokestatic x, 3)) (ho : sm_okS P M x g 0 p1 p2 = true) (hn1 : X.length = (P g).2.2.2.2.1) (h8 : (rest.map fun v => v.category).sum ≤ 8) (hce1 : cs.1 + (P g).2.2.2.2.2.1 ≤ M.2.2.2.2.2.1) (hsl1 : cs.2 + (P g).2.2.2.2.2.2.1 ≤ M.2.2.2.2.2.2.1)
    (hM : Met l (P g).1 (sm_mw (P g)) (sm_rm d (P g)) (va_Pc ((X.reverse).map (sm_cv base tt)) (sm_Pre base ct tt D S w)) (sm_Q base ct tt D z') (P g).2.2.2.2.2.1 (P g).2.2.2.2.2.2.1 (sm_A base)) (hlen : z'.2.1.length = w.1.length + (P g).2.2.2.2.2.1) (hlen2 : z'.2.1.length ≤ 1000)
    (kk : sm_TW base ct tt D M p l e R s m args below meth c Q (pc + 3) lv (z'.1.toList ++ rest) z'.2 (cs.1 + (P g).2.2.2.2.2.1, cs.2 + (P g).2.2.2.2.2.2.1)) : sm_TW base ct tt D M p l e R s m args below meth c Q pc lv (X ++ rest) w cs := by
  obtain ⟨hx, hb, hml, hown, hts, hnm, hfr, hlo, hce, hsl, hG⟩ := hX
  obtain ⟨g1, ⟨g2, g3, g4⟩, g7, -, -⟩ := sm_okM_of (okP g).1
  obtain ⟨g5, g6⟩ := hcal
  simp only [sm_okS, Bool.and_eq_true, decide_eq_true_eq] at ho
  obtain ⟨⟨-, o1⟩, o2⟩ := ho
  intro H locs ls hl hP hS hz hn hcs
  refine sm_sized hG.2.1 hP hS hz (fun hsz => ?_)
  have hT : GoodIn sm_wl (va_wsS M.1.cls x (P g).1 (sm_mw (P g))) := fun u hu => by
    rcases List.mem_append.mp hu with h | h
    · simp only [List.mem_cons, List.not_mem_nil, or_false] at h
      rcases h with rfl | rfl | rfl
      · exact ⟨sm_has_in o1, sm_wl_good (sm_has_in o1)⟩
      · exact ⟨sm_has_in o2, sm_wl_good (sm_has_in o2)⟩
      · exact ⟨g6, sm_wl_good g6⟩
    · exact sm_gI2 g5 u h
  have hst : (F0 m pc ls ((X ++ rest).map (sm_cv base tt))).stack = ((X.reverse).map (sm_cv base tt)).reverse ++ rest.map (sm_cv base tt) := by
    simp [List.map_reverse]
  refine sm_after (va_runS (As := (X.reverse).map (sm_cv base tt)) (rest := rest.map (sm_cv base tt)) ⟨hx, hb, hml, hown, hts⟩ hM (va_cwS (P g).2.2.2.2.1 hts hT rfl rfl rfl ⟨g2, g3, g4⟩ ⟨by show d + 1 + 1 ≤ R.frames; omega, by show 8 + ((P g).2.2.1 + 11) + (80 * d + 100) ≤ R.locals; omega⟩) ⟨sm_blind, fun U hU hW => ⟨rfl, by rw [hU]; exact hsz, hn, by rw [hU]; exact hP, hG.moved hW hU hS⟩⟩ rfl (by simp [hn1]) hl.1 hst (lv_room (by rw [sm_cats]; exact h8)) hd ⟨by omega, by omega⟩) hS (fun H1 locs1 hP1 hS1 => ?_)
  rw [sm_tl]
  exact kk H1 locs1 ls hl hP1 hS1 (by show s.heap.size + (cs.1 + _) = base + z'.2.1.length; rw [hlen]; have : s.heap.size + cs.1 = base + w.1.length := hz; omega) hlen2 ⟨hce1, hsl1⟩
set_option maxHeartbeats 4000000 in
theorem sm_k_P (okP : ∀ f, sm_OK P (P f)) (hX : sm_X base ct tt D S M (d + 1) p R s m args meth c) {x g nst p1 p2 : Nat} {X rest : List Value} {b : Nat} (hcal : sm_Cal (P g)) (hd : decode M.2.1 pc = .ok (.invokespecial x, 3)) (ho : sm_okP P M x g 1 nst p1 p2 = true) (hn1 : X.length = (P g).2.2.2.2.1) (h8 : (rest.map fun v => v.category).sum ≤ 8) (hce1 : cs.1 + (P g).2.2.2.2.2.1 ≤ M.2.2.2.2.2.1) (hsl1 : cs.2 + (P g).2.2.2.2.2.2.1 ≤ M.2.2.2.2.2.2.1)
    (hM : Met l (P g).1 (sm_mw (P g)) (sm_rm d (P g)) (va_Pc ((Value.ref b :: X.reverse).map (sm_cv base tt)) (sm_Pre base ct tt D S w)) (sm_Q base ct tt D z') (P g).2.2.2.2.2.1 (P g).2.2.2.2.2.2.1 (sm_A base)) (hlen : z'.2.1.length = w.1.length + (P g).2.2.2.2.2.1) (hlen2 : z'.2.1.length ≤ 1000)
    (kk : sm_TW base ct tt D M p l e R s m args below meth c Q (pc + 3) lv (z'.1.toList ++ rest) z'.2 (cs.1 + (P g).2.2.2.2.2.1, cs.2 + (P g).2.2.2.2.2.2.1)) : sm_TW base ct tt D M p l e R s m args below meth c Q pc lv (X ++ .ref b :: rest) w cs := by
  obtain ⟨hx, hb, hml, hown, hts, hnm, hfr, hlo, hce, hsl, hG⟩ := hX
  obtain ⟨g1, ⟨g2, g3, g4⟩, g7, -, -⟩ := sm_okM_of (okP g).1
  obtain ⟨g5, g6⟩ := hcal
  simp only [sm_okP, Bool.and_eq_true, decide_eq_true_eq] at ho
  obtain ⟨⟨⟨⟨-, hin⟩, hret⟩, o1⟩, o2⟩ := ho
  intro H locs ls hl hP hS hz hn hcs
  refine sm_sized hG.2.1 hP hS hz (fun hsz => ?_)
  have hst : (F0 m pc ls ((X ++ .ref b :: rest).map (sm_cv base tt))).stack = ((X.reverse).map (sm_cv base tt)).reverse ++ .ref (sm_ad base tt b) :: rest.map (sm_cv base tt) := by
    simp [List.map_reverse]; rfl
  have hwe : sm_mw (P g) = Cond.code (P g).1 (P g).2.1 (P g).2.2.1 none :: sm_wl := by rw [← hret]; rfl
  have hrm : (sm_rm d (P g)).frames + 1 ≤ R.frames ∧ 8 + ((P g).2.2.1 + 11) + (sm_rm d (P g)).locals ≤ R.locals := ⟨by show d + 1 + 1 ≤ R.frames; omega, by show 8 + ((P g).2.2.1 + 11) + (80 * d + 100) ≤ R.locals; omega⟩
  have hpre : PreS s H (va_Pc ((Value.ref b :: X.reverse).map (sm_cv base tt)) (sm_Pre base ct tt D S w)) (.ref (sm_ad base tt b) :: (X.reverse).map (sm_cv base tt)) := ⟨sm_blind, fun U hU hW => ⟨rfl, by rw [hU]; exact hsz, hn, by rw [hU]; exact hP, hG.moved hW hU hS⟩⟩
  have hgo : ∀ (H1 : Heap) (locs1 : List Loc), va_P D vwCl (sm_ws base ct tt z'.2) H1 → va_S (sm_A base) s.heap H1 locs1 → W p l e R s m args below meth c H1 locs1 (cs.1 + (P g).2.2.2.2.2.1) (cs.2 + (P g).2.2.2.2.2.2.1) Q (F0 m (pc + 3) ls ((z'.1.map (sm_cv base tt)).toList ++ rest.map (sm_cv base tt))) := by
    intro H1 locs1 hP1 hS1
    rw [sm_tl]
    exact kk H1 locs1 ls hl hP1 hS1 (by show s.heap.size + (cs.1 + _) = base + z'.2.1.length; rw [hlen]; have : s.heap.size + cs.1 = base + w.1.length := hz; omega) hlen2 ⟨hce1, hsl1⟩
  by_cases hns : nst = 1
  · rw [if_pos hns] at o1
    have o1 := of_decide_eq_true o1
    have hN := hG.2.2.2.2.2 _ (List.mem_of_getElem? o1)
    exact sm_after (va_runIN (As := (X.reverse).map (sm_cv base tt)) (rest := rest.map (sm_cv base tt)) (b := sm_ad base tt b) ⟨hx, hb, hml, hown, hts⟩ hM ⟨va_cnB (P g).2.2.2.2.1 hts (sm_gI2 g5) hwe rfl rfl hN (hts _ g6) ⟨g2, g3, g4⟩ hrm, hin, hts _ (sm_has_in o2)⟩ hpre rfl (by simp [hn1]) hl.1 hst (lv_room (by rw [sm_cats]; exact h8)) hd ⟨by omega, by omega⟩) hS hgo
  · rw [if_neg hns] at o1
    exact sm_after (va_runI (As := (X.reverse).map (sm_cv base tt)) (rest := rest.map (sm_cv base tt)) (b := sm_ad base tt b) ⟨hx, hb, hml, hown, hts⟩ hM (cwI (P g).2.2.2.2.1 hts (sm_gI2 g5) hwe rfl rfl (hts _ g6) (hts _ (sm_has_in o1)) (hts _ (sm_has_in o2)) hin ⟨g2, g3, g4⟩ hrm) hpre rfl (by simp [hn1]) hl.1 hst (lv_room (by rw [sm_cats]; exact h8)) hd ⟨by omega, by omega⟩) hS hgo
end SmRun
end
section
/-! how many cells there are in the end -/
def sm_Ln (M : sm_M) (z : sm_Z) (w : sm_W) (cs : Nat × Nat) : Prop := z.2.1.length + cs.1 = w.1.length + M.2.2.2.2.2.1 ∧ (w.1.length ≤ 1000 → z.2.1.length ≤ 1000)
section SmLen
variable {α : Type} {z : α} {st : List Value} {a b : List Value → Option α}
theorem sm_b1_or {c : ClassFile.Cond} (h : sm_b1 c st a b = some z) : (∃ r, a r = some z) ∨ ∃ r, b r = some z := by
  unfold sm_b1 at h
  split at h
  · cases c <;> (dsimp only at h; split at h <;> first | exact Or.inl ⟨_, h⟩ | exact Or.inr ⟨_, h⟩)
  · cases h
theorem sm_b2_or {c : ClassFile.Cond} (h : sm_b2 c st a b = some z) : (∃ r, a r = some z) ∨ ∃ r, b r = some z := by
  unfold sm_b2 at h
  split at h
  · cases c <;> (dsimp only at h; split at h <;> first | exact Or.inl ⟨_, h⟩ | exact Or.inr ⟨_, h⟩)
  · cases h
theorem sm_bn_or (h : sm_bn st a b = some z) : (∃ r, a r = some z) ∨ ∃ r, b r = some z := by
  unfold sm_bn at h
  split at h
  · exact Or.inl ⟨_, h⟩
  · exact Or.inr ⟨_, h⟩
  · cases h
theorem sm_sw_or {x : Int32} {k : Nat → Option α} {d : Nat} : ∀ {bs : List Nat} {v : Int}, sm_sw x k d v bs = some z → (∃ (j b : Nat), bs[j]? = some b ∧ x.toInt = v + (j : Int) ∧ k b = some z) ∨ ((∀ j : Nat, j < bs.length → ¬ x.toInt = v + (j : Int)) ∧ k d = some z)
  | [], v, h => Or.inr ⟨fun j hj => absurd hj (Nat.not_lt_zero j), h⟩
  | b :: r, v, h => by
    unfold sm_sw at h
    split at h
    · next e => exact Or.inl ⟨0, b, rfl, by simpa using e, h⟩
    · next e =>
      rcases sm_sw_or h with ⟨j, b', h1, h2, h3⟩ | ⟨h1, h2⟩
      · exact Or.inl ⟨j + 1, b', h1, by rw [h2]; push_cast; omega, h3⟩
      · refine Or.inr ⟨fun j hj => ?_, h2⟩
        cases j with
        | zero => simpa using e
        | succ j => have := h1 j (by simpa using hj); push_cast; omega
theorem sm_lo_or {x : Int32} {k : Nat → Option α} {d : Nat} {df : Int} : ∀ {vs : List (Int × Int)} {bs : List Nat}, sm_lo x k d vs bs = some z → (∃ (j b : Nat) (q : Int × Int), bs[j]? = some b ∧ vs[j]? = some q ∧ Op.lookupswitch.offset vs df x.toInt = q.2 ∧ k b = some z) ∨ (Op.lookupswitch.offset vs df x.toInt = df ∧ k d = some z)
  | [], bs, h => Or.inr ⟨rfl, by cases bs <;> exact h⟩
  | v :: vs, [], h => by cases h
  | v :: vs, b :: r, h => by
    unfold sm_lo at h
    split at h
    · next e => exact Or.inl ⟨0, b, v, rfl, rfl, by simp [Op.lookupswitch.offset, e], h⟩
    · next e =>
      have e2 : Op.lookupswitch.offset (v :: vs) df x.toInt = Op.lookupswitch.offset vs df x.toInt := by
        show (if v.1 = x.toInt then v.2 else Op.lookupswitch.offset vs df x.toInt) = _
        rw [if_neg (fun q => e q.symm)]
      rw [e2]
      rcases sm_lo_or (df := df) h with ⟨j, b', q, h1, h2, h3, h4⟩ | h2
      · exact Or.inl ⟨j + 1, b', q, h1, h2, h3, h4⟩
      · exact Or.inr h2
end SmLen
theorem sm_tgs_of {M : sm_M} {pc : Nat} : ∀ {os : List Int} {bs : List Nat}, sm_tgs M pc os bs = true → bs.length = os.length ∧ ∀ (j : Nat) (b : Nat), bs[j]? = some b → ∃ o, os[j]? = some o ∧ sm_tg M pc o b = true
  | [], [], _ => ⟨rfl, fun j b h => by simp at h⟩
  | [], _ :: _, h => by cases h
  | _ :: _, [], h => by cases h
  | o :: os, b :: bs, h => by
    have h : (sm_tg M pc o b && sm_tgs M pc os bs) = true := h
    simp only [Bool.and_eq_true] at h
    obtain ⟨h1, h2⟩ := sm_tgs_of h.2
    refine ⟨by simp [h1], fun j b' hj => ?_⟩
    cases j with
    | zero => cases hj; exact ⟨o, rfl, h.1⟩
    | succ j => exact h2 j b' hj
def sm_isE : Instr → Bool
  | .goto _ => false
  | .ifCond _ _ => false
  | .if_icmp _ _ => false
  | .ifnull _ => false
  | .ifnonnull _ => false
  | .tableswitch _ _ _ _ => false
  | .lookupswitch _ _ => false
  | .ireturn => false
  | .lreturn => false
  | .areturn => false
  | .return_ => false
  | .new _ => false
  | .newarray _ => false
  | _ => true
section SmLen2
variable {P : Nat → sm_M} {S : sm_C} {rec : Nat → Nat → Nat → List Value → List Value → sm_W → Nat × Nat → Option sm_Z} {jmp : Nat → sm_V → List Value → sm_W → Nat × Nat → Option sm_Z} {d fall : Nat} {M : sm_M} {z : sm_Z} {k : sm_V → List Value → sm_W → Nat × Nat → Option sm_Z}
theorem sm_inv_of {rc : List Value → Option sm_Z} {n nL mc ms : Nat} {rb : Bool} {st : List Value} {cs lim : Nat × Nat} {kk : List Value → sm_W → Nat × Nat → Option sm_Z} (h : sm_inv rc n nL mc ms rb st cs lim kk = some z) :
    ∃ z', rb = true ∧ n ≤ st.length ∧ (lg_sl (st.take n).reverse).length ≤ nL ∧ ((st.drop n).map fun v => v.category).sum ≤ 8 ∧ cs.1 + mc ≤ lim.1 ∧ cs.2 + ms ≤ lim.2 ∧ rc (st.take n).reverse = some z' ∧ kk (z'.1.toList ++ st.drop n) z'.2 (cs.1 + mc, cs.2 + ms) = some z := by
  unfold sm_inv at h
  split at h
  · cases h
  · next hc =>
    simp only [not_or, Nat.not_lt, Bool.not_eq_false] at hc
    split at h
    · cases h
    · next z' e => exact ⟨z', hc.1, hc.2.1, hc.2.2.1, hc.2.2.2.1, hc.2.2.2.2.1, hc.2.2.2.2.2, e, h⟩
theorem sm_else_len (hr : ∀ d' g as w' z', rec d' g 0 as [] w' (0, 0) = some z' → sm_Ln (P g) z' w' (0, 0)) {i : Instr} {ops : List Nat} {lv : sm_V} {st : List Value} {w : sm_W} {cs : Nat × Nat} (hk : ∀ lv st w cs, k lv st w cs = some z → sm_Ln M z w cs) (h : sm_else P S rec d M i ops lv st w cs k = some z) : sm_Ln M z w cs := by
  unfold sm_else at h
  split at h
  · split at h
    · cases h
    · obtain ⟨z', -, -, -, -, -, -, h1, h2⟩ := sm_inv_of h
      have l1 := hr _ _ _ _ _ h1
      have l2 := hk _ _ _ _ h2
      obtain ⟨a1, a2⟩ := l1
      obtain ⟨b1, b2⟩ := l2
      simp only [sm_Ln] at *
      exact ⟨by omega, fun q => b2 (a2 q)⟩
  · split at h
    · have h3 := hk _ _ _ _ h
      exact h3
    · cases h
theorem sm_blk_else {i : Instr} {ops : List Nat} {is : List (Instr × List Nat)} {lv : sm_V} {st : List Value} {w : sm_W} {cs : Nat × Nat} (h : sm_isE i = true) : sm_blk P S rec jmp d M fall ((i, ops) :: is) lv st w cs = sm_else P S rec d M i ops lv st w cs (fun lv st w cs => sm_blk P S rec jmp d M fall is lv st w cs) := by
  cases i <;> first | rfl | cases h
set_option maxHeartbeats 4000000 in
theorem sm_blk_len (hr : ∀ d' g as w' z', rec d' g 0 as [] w' (0, 0) = some z' → sm_Ln (P g) z' w' (0, 0)) (hj : ∀ b lv st w cs, jmp b lv st w cs = some z → sm_Ln M z w cs) : ∀ (is : List (Instr × List Nat)) (lv : sm_V) (st : List Value) (w : sm_W) (cs : Nat × Nat), sm_blk P S rec jmp d M fall is lv st w cs = some z → sm_Ln M z w cs := by
  intro is
  induction is with
  | nil => intro lv st w cs h; exact hj _ _ _ _ _ h
  | cons q is ih =>
    obtain ⟨i, ops⟩ := q
    intro lv st w cs h
    cases i with
    | goto off => exact hj _ _ _ _ _ h
    | ifCond c off => rcases sm_b1_or h with ⟨r, h⟩ | ⟨r, h⟩ <;> exact hj _ _ _ _ _ h
    | if_icmp c off => rcases sm_b2_or h with ⟨r, h⟩ | ⟨r, h⟩ <;> exact hj _ _ _ _ _ h
    | ifnull off => rcases sm_bn_or h with ⟨r, h⟩ | ⟨r, h⟩ <;> exact hj _ _ _ _ _ h
    | ifnonnull off => rcases sm_bn_or h with ⟨r, h⟩ | ⟨r, h⟩ <;> exact hj _ _ _ _ _ h
    | tableswitch df lo hi offs =>
      unfold sm_blk at h
      dsimp only at h
      split at h
      · rcases sm_sw_or h with ⟨j, b, -, -, h⟩ | ⟨-, h⟩ <;> exact hj _ _ _ _ _ h
      · cases h
    | lookupswitch df ps =>
      unfold sm_blk at h
      dsimp only at h
      split at h
      · rcases sm_lo_or (df := 0) h with ⟨j, b, q, -, -, -, h⟩ | ⟨-, h⟩ <;> exact hj _ _ _ _ _ h
      · cases h
    | ireturn =>
      unfold sm_blk at h
      dsimp only at h
      split at h
      · split at h
        · next hc =>
          subst hc
          have hw : z.2 = w := by
            split at h
            · split at h
              · cases h; rfl
              · cases h
            · cases h; rfl
          rw [← hw]; exact ⟨rfl, fun q => q⟩
        · cases h
      · cases h
    | lreturn =>
      unfold sm_blk at h
      dsimp only at h
      split at h
      · split at h
        · next hc => subst hc; cases h; exact ⟨rfl, fun q => q⟩
        · cases h
      · cases h
    | areturn =>
      unfold sm_blk at h
      dsimp only at h
      split at h
      · split at h
        · next hc => subst hc; cases h; exact ⟨rfl, fun q => q⟩
        · cases h
      · cases h
    | return_ =>
      unfold sm_blk at h
      dsimp only at h
      split at h
      · split at h
        · next hc => subst hc; cases h; exact ⟨rfl, fun q => q⟩
        · cases h
      · cases h
    | new x =>
      unfold sm_blk at h
      dsimp only at h
      split at h
      · cases h
      · next hc =>
        obtain ⟨h1, h2⟩ := ih _ _ _ _ h
        simp only [List.length_append, List.length_cons, List.length_nil] at h1 h2
        simp only [not_or, Nat.not_le] at hc
        exact ⟨by omega, fun q => h2 (by omega)⟩
    | newarray at' =>
      unfold sm_blk at h
      dsimp only at h
      split at h
      · split at h
        · cases h
        · next hc =>
          obtain ⟨h1, h2⟩ := ih _ _ _ _ h
          simp only [List.length_append, List.length_cons, List.length_nil] at h1 h2
          simp only [not_or, Nat.not_le] at hc
          exact ⟨by omega, fun q => h2 (by omega)⟩
      · cases h
    | _ => rw [sm_blk_else rfl] at h; exact sm_else_len hr ih h
theorem sm_go_len {f : Nat} (hr : ∀ d' g as w' z', rec d' g 0 as [] w' (0, 0) = some z' → sm_Ln (P g) z' w' (0, 0)) (hc : ∀ b vs st w cs, rec d f b vs st w cs = some z → sm_Ln M z w cs) : ∀ (n : Nat) (b : Nat) (lv : sm_V) (st : List Value) (w : sm_W) (cs : Nat × Nat), sm_go P S rec d f M n b lv st w cs = some z → sm_Ln M z w cs := by
  intro n
  induction n with
  | zero => intro b lv st w cs h; cases h
  | succ n ih =>
    intro b lv st w cs h
    unfold sm_go at h
    split at h
    · cases h
    · split at h
      · cases h
      · split at h
        · cases h
        · exact hc _ _ _ _ _ h
      · exact sm_blk_len hr ih _ _ _ _ _ h
theorem sm_run_len : ∀ (n d f b : Nat) (vs st : List Value) (w : sm_W) (cs : Nat × Nat) (z : sm_Z), sm_run P S n d f b vs st w cs = some z → sm_Ln (P f) z w cs
  | 0, _, _, _, _, _, _, _, _, h => by cases h
  | n + 1, d, f, b, vs, st, w, cs, z, h => by
    have h : sm_F P S (sm_run P S n) d f b vs st w cs = some z := h
    unfold sm_F at h
    split at h
    · exact sm_blk_len (fun d' g as w' z' h => sm_run_len n d' g 0 as [] w' (0, 0) z' h) (fun b lv st w cs h => sm_go_len (fun d' g as w' z' h => sm_run_len n d' g 0 as [] w' (0, 0) z' h) (fun b vs st w cs h => sm_run_len n d f b vs st w cs z h) 64 b lv st w cs h) _ _ _ _ _ h
    · cases h
end SmLen2
end
section
/-! the small machine's run is the machine's -/
section SmFin
variable {base : Nat} {ct : Nat → ClassId} {tt : Nat → Nat} {D : va_G} {S : sm_C} {M : sm_M} {d : Nat} {p : Program} {l : Launch} {e : Env} {R : Room} {s : State} {m : MethodId} {args : Array Value} {below : List Frame} {meth : Method} {c : Code} {Q : State → Prop}
variable {pc : Nat} {lv lv' : sm_V} {st st' r : List Value} {lay : List (Nat × Nat)} {me : sm_Y} {w : sm_W} {cs : Nat × Nat} {ops : List Nat} {z z' : sm_Z} {P : Nat → sm_M}
variable {rec : Nat → Nat → Nat → List Value → List Value → sm_W → Nat × Nat → Option sm_Z} {jmp : Nat → sm_V → List Value → sm_W → Nat × Nat → Option sm_Z} {fall : Nat}
theorem sm_i3 {t : Nat} (h : (pc : Int) + 3 = (t : Int)) : t = pc + 3 := by omega
theorem sm_b1_ok (hX : sm_X base ct tt D S M d p R s m args meth c) {c' : ClassFile.Cond} {off : Int} {ta tb : Nat} {a b : List Value → Option sm_Z} (hd : decode M.2.1 pc = .ok (.ifCond c' off, 3)) (hta : (pc : Int) + off = (ta : Int)) (htb : (pc : Int) + 3 = (tb : Int)) (ha : ∀ r, a r = some z → sm_TW base ct tt D M p l e R s m args below meth c Q ta lv r w cs) (hb : ∀ r, b r = some z → sm_TW base ct tt D M p l e R s m args below meth c Q tb lv r w cs) (h : sm_b1 c' st a b = some z) : sm_TW base ct tt D M p l e R s m args below meth c Q pc lv st w cs := by
  have e3 := sm_i3 htb
  subst e3
  unfold sm_b1 at h
  split at h
  · intro H locs ls hl hP hS hz hn hcs
    cases c' <;> dsimp only at h
    · exact lv_if_eq hX.1 hX.2.1 hd hta (fun q => ha _ (by rw [if_pos q] at h; exact h) H locs ls hl hP hS hz hn hcs) (fun q => hb _ (by rw [if_neg q] at h; exact h) H locs ls hl hP hS hz hn hcs)
    · exact lv_if_ne hX.1 hX.2.1 hd hta (fun q => ha _ (by rw [if_neg q] at h; exact h) H locs ls hl hP hS hz hn hcs) (fun q => hb _ (by rw [if_pos q] at h; exact h) H locs ls hl hP hS hz hn hcs)
    · exact lv_if_lt hX.1 hX.2.1 hd hta (fun q => ha _ (by rw [if_pos q] at h; exact h) H locs ls hl hP hS hz hn hcs) (fun q => hb _ (by rw [if_neg q] at h; exact h) H locs ls hl hP hS hz hn hcs)
    · exact lv_if_ge hX.1 hX.2.1 hd hta (fun q => ha _ (by rw [if_pos q] at h; exact h) H locs ls hl hP hS hz hn hcs) (fun q => hb _ (by rw [if_neg q] at h; exact h) H locs ls hl hP hS hz hn hcs)
    · exact lv_if_gt hX.1 hX.2.1 hd hta (fun q => ha _ (by rw [if_pos q] at h; exact h) H locs ls hl hP hS hz hn hcs) (fun q => hb _ (by rw [if_neg q] at h; exact h) H locs ls hl hP hS hz hn hcs)
    · exact lv_if_le hX.1 hX.2.1 hd hta (fun q => ha _ (by rw [if_pos q] at h; exact h) H locs ls hl hP hS hz hn hcs) (fun q => hb _ (by rw [if_neg q] at h; exact h) H locs ls hl hP hS hz hn hcs)
  · cases h
theorem sm_b2_ok (hX : sm_X base ct tt D S M d p R s m args meth c) {c' : ClassFile.Cond} {off : Int} {ta tb : Nat} {a b : List Value → Option sm_Z} (hd : decode M.2.1 pc = .ok (.if_icmp c' off, 3)) (hta : (pc : Int) + off = (ta : Int)) (htb : (pc : Int) + 3 = (tb : Int)) (ha : ∀ r, a r = some z → sm_TW base ct tt D M p l e R s m args below meth c Q ta lv r w cs) (hb : ∀ r, b r = some z → sm_TW base ct tt D M p l e R s m args below meth c Q tb lv r w cs) (h : sm_b2 c' st a b = some z) : sm_TW base ct tt D M p l e R s m args below meth c Q pc lv st w cs := by
  have e3 := sm_i3 htb
  subst e3
  unfold sm_b2 at h
  split at h
  · intro H locs ls hl hP hS hz hn hcs
    cases c' <;> dsimp only at h
    · exact lv_icmp_eq hX.1 hX.2.1 hd hta (fun q => ha _ (by rw [if_pos q] at h; exact h) H locs ls hl hP hS hz hn hcs) (fun q => hb _ (by rw [if_neg q] at h; exact h) H locs ls hl hP hS hz hn hcs)
    · exact lv_icmp_ne hX.1 hX.2.1 hd hta (fun q => ha _ (by rw [if_neg q] at h; exact h) H locs ls hl hP hS hz hn hcs) (fun q => hb _ (by rw [if_pos q] at h; exact h) H locs ls hl hP hS hz hn hcs)
    · exact lv_icmp_lt hX.1 hX.2.1 hd hta (fun q => ha _ (by rw [if_pos q] at h; exact h) H locs ls hl hP hS hz hn hcs) (fun q => hb _ (by rw [if_neg q] at h; exact h) H locs ls hl hP hS hz hn hcs)
    · exact lv_icmp_ge hX.1 hX.2.1 hd hta (fun q => ha _ (by rw [if_pos q] at h; exact h) H locs ls hl hP hS hz hn hcs) (fun q => hb _ (by rw [if_neg q] at h; exact h) H locs ls hl hP hS hz hn hcs)
    · exact lv_icmp_gt hX.1 hX.2.1 hd hta (fun q => ha _ (by rw [if_pos q] at h; exact h) H locs ls hl hP hS hz hn hcs) (fun q => hb _ (by rw [if_neg q] at h; exact h) H locs ls hl hP hS hz hn hcs)
    · exact lv_icmp_le hX.1 hX.2.1 hd hta (fun q => ha _ (by rw [if_pos q] at h; exact h) H locs ls hl hP hS hz hn hcs) (fun q => hb _ (by rw [if_neg q] at h; exact h) H locs ls hl hP hS hz hn hcs)
  · cases h
theorem sm_bnull_ok (hX : sm_X base ct tt D S M d p R s m args meth c) {off : Int} {ta tb : Nat} {a b : List Value → Option sm_Z} (hd : decode M.2.1 pc = .ok (.ifnull off, 3)) (hta : (pc : Int) + off = (ta : Int)) (htb : (pc : Int) + 3 = (tb : Int)) (ha : ∀ r, a r = some z → sm_TW base ct tt D M p l e R s m args below meth c Q ta lv r w cs) (hb : ∀ r, b r = some z → sm_TW base ct tt D M p l e R s m args below meth c Q tb lv r w cs) (h : sm_bn st a b = some z) : sm_TW base ct tt D M p l e R s m args below meth c Q pc lv st w cs := by
  have e3 := sm_i3 htb
  subst e3
  unfold sm_bn at h
  split at h
  · exact fun H locs ls hl hP hS hz hn hcs => lv_ifnullN hX.1 hX.2.1 hd hta (ha _ h H locs ls hl hP hS hz hn hcs)
  · exact fun H locs ls hl hP hS hz hn hcs => lv_ifnull hX.1 hX.2.1 hd (hb _ h H locs ls hl hP hS hz hn hcs)
  · cases h
theorem sm_bnon_ok (hX : sm_X base ct tt D S M d p R s m args meth c) {off : Int} {ta tb : Nat} {a b : List Value → Option sm_Z} (hd : decode M.2.1 pc = .ok (.ifnonnull off, 3)) (hta : (pc : Int) + off = (ta : Int)) (htb : (pc : Int) + 3 = (tb : Int)) (ha : ∀ r, a r = some z → sm_TW base ct tt D M p l e R s m args below meth c Q tb lv r w cs) (hb : ∀ r, b r = some z → sm_TW base ct tt D M p l e R s m args below meth c Q ta lv r w cs) (h : sm_bn st a b = some z) : sm_TW base ct tt D M p l e R s m args below meth c Q pc lv st w cs := by
  have e3 := sm_i3 htb
  subst e3
  unfold sm_bn at h
  split at h
  · exact fun H locs ls hl hP hS hz hn hcs => lv_ifnonnullN hX.1 hX.2.1 hd (ha _ h H locs ls hl hP hS hz hn hcs)
  · exact fun H locs ls hl hP hS hz hn hcs => lv_ifnonnull hX.1 hX.2.1 hd hta (hb _ h H locs ls hl hP hS hz hn hcs)
  · cases h
/-- what a run that was asked for brings -/
def sm_Hr (base : Nat) (ct : Nat → ClassId) (tt : Nat → Nat) (D : va_G) (S : sm_C) (P : Nat → sm_M) (l : Launch) (rec : Nat → Nat → Nat → List Value → List Value → sm_W → Nat × Nat → Option sm_Z) : Prop :=
  ∀ (d' g : Nat) (as : List Value) (w' : sm_W) (z' : sm_Z), (lg_sl as).length ≤ (P g).2.2.1 → w'.1.length ≤ 1000 → rec d' g 0 as [] w' (0, 0) = some z' → (Met l (P g).1 (sm_mw (P g)) (sm_rm d' (P g)) (va_Pc (as.map (sm_cv base tt)) (sm_Pre base ct tt D S w')) (sm_Q base ct tt D z') (P g).2.2.2.2.2.1 (P g).2.2.2.2.2.2.1 (sm_A base)) ∧ sm_Ln (P g) z' w' (0, 0)
set_option maxHeartbeats 4000000 in
theorem sm_else_ok (cf : sm_CF) (okP : ∀ f, sm_OK P (P f)) (hX : sm_X base ct tt D S M d p R s m args meth c) (hr : sm_Hr base ct tt D S P l rec) {i : Instr} {k : sm_V → List Value → sm_W → Nat × Nat → Option sm_Z} (hd : decode M.2.1 pc = .ok (i, sm_ln i)) (ho : sm_okE P M i ops = true) (hk : ∀ lv st w cs, k lv st w cs = some z → sm_TW base ct tt D M p l e R s m args below meth c Q (pc + sm_ln i) lv st w cs) (h : sm_else P S rec d M i ops lv st w cs k = some z) : sm_TW base ct tt D M p l e R s m args below meth c Q pc lv st w cs := by
  unfold sm_else at h
  split at h
  · next g inst ci a1 a2 a3 a4 rs0 =>
    obtain ⟨rs, hrs⟩ : ∃ rs, a1 :: a2 :: a3 :: a4 :: rs0 = rs := ⟨_, rfl⟩
    have ho : sm_okC P M i g inst ci (a1 :: a2 :: a3 :: a4 :: rs0) = true := ho
    rw [hrs] at ho
    have hoo := Bool.and_eq_true_iff.mp ho
    clear ho
    obtain ⟨hcal0, ho⟩ := hoo
    have hcal := (okP g).2 (of_decide_eq_true hcal0)
    cases d with
    | zero => cases h
    | succ d =>
      obtain ⟨z', hrc, hn1, hsl, h8, hc1, hc2, h1, h2⟩ := sm_inv_of h
      by_cases hw : w.1.length ≤ 1000
      · obtain ⟨hM, hL1, hL2⟩ := hr d g _ w z' hsl hw h1
        have hL1 : z'.2.1.length = w.1.length + (P g).2.2.2.2.2.1 := by simpa using hL1
        have kk := hk _ _ _ _ h2
        cases i with
        | invokevirtual x =>
          have ho : sm_okV P M x g inst ci (rs.getD 0 0) (rs.getD 1 0) (rs.getD 2 0) = true := ho
          have hi : inst = 1 := by
            unfold sm_okV at ho
            split at ho
            · simp only [Bool.and_eq_true, decide_eq_true_eq] at ho; exact ho.1.1.1.1
            · cases ho
          subst hi
          obtain ⟨X, b, rest, rfl, hX1, hb1⟩ := sm_rc_of hrc
          have e1 : ((X ++ Value.ref b :: rest).take ((P g).2.2.2.2.1 + 1)).reverse = Value.ref b :: X.reverse := by
            rw [← hX1]; simp [List.take_append, List.take_of_length_le]
          have e2 : (X ++ Value.ref b :: rest).drop ((P g).2.2.2.2.1 + 1) = rest := by
            rw [← hX1]; simp [List.drop_append]
          rw [e1] at hM
          rw [e2] at h8 kk
          exact sm_k_V okP hX hcal hd ho hb1 hX1 h8 hc1 hc2 hM hL1 (hL2 hw) kk
        | invokestatic x =>
          have ho : sm_okS P M x g inst (rs.getD 0 0) (rs.getD 1 0) = true := ho
          have hi : inst = 0 := by
            simp only [sm_okS, Bool.and_eq_true, decide_eq_true_eq] at ho; exact ho.1.1
          subst hi
          have e0 : st = st.take ((P g).2.2.2.2.1 + 0) ++ st.drop ((P g).2.2.2.2.1 + 0) := (List.take_append_drop _ _).symm
          rw [e0]
          exact sm_k_S okP hX hcal hd ho (by simp at hn1 ⊢; omega) h8 hc1 hc2 hM hL1 (hL2 hw) kk
        | invokespecial x =>
          have ho : sm_okP P M x g inst (rs.getD 3 0) (rs.getD 0 0) (rs.getD 1 0) = true := ho
          have hi : inst = 1 := by
            simp only [sm_okP, Bool.and_eq_true, decide_eq_true_eq] at ho; exact ho.1.1.1.1
          subst hi
          obtain ⟨X, b, rest, rfl, hX1, hb1⟩ := sm_rc_of hrc
          have e1 : ((X ++ Value.ref b :: rest).take ((P g).2.2.2.2.1 + 1)).reverse = Value.ref b :: X.reverse := by
            rw [← hX1]; simp [List.take_append, List.take_of_length_le]
          have e2 : (X ++ Value.ref b :: rest).drop ((P g).2.2.2.2.1 + 1) = rest := by
            rw [← hX1]; simp [List.drop_append]
          rw [e1] at hM
          rw [e2] at h8 kk
          exact sm_k_P okP hX hcal hd ho hX1 h8 hc1 hc2 hM hL1 (hL2 hw) kk
        | _ => cases ho
      · exact fun H locs ls hl hP hS hz hn hcs => absurd hn hw
  · next hno =>
    have ho : sm_ok1 M i ops = true := by
      unfold sm_okE at ho
      split at ho
      · next g inst ci a1 a2 a3 a4 r => exact absurd rfl (hno g inst ci a1 a2 a3 a4 r)
      · exact ho
    split at h
    · next q e =>
      obtain ⟨lv', st', me'⟩ := q
      exact sm_one_ok (lay := w.1) (me := w.2) cf hX hd ho e (hk _ _ _ _ h)
    · cases h
end SmFin
end
section
section SmMet
variable {base : Nat} {ct : Nat → ClassId} {tt : Nat → Nat} {D : va_G} {S : sm_C} {M : sm_M} {d : Nat} {p : Program} {l : Launch} {e : Env} {R : Room} {s : State} {m : MethodId} {args : Array Value} {below : List Frame} {meth : Method} {c : Code} {Q : State → Prop}
variable {z z' : sm_Z} {P : Nat → sm_M}
variable {rec : Nat → Nat → Nat → List Value → List Value → sm_W → Nat × Nat → Option sm_Z} {jmp : Nat → sm_V → List Value → sm_W → Nat × Nat → Option sm_Z} {fall : Nat}
theorem sm_isI_of {r : Option FieldType} (h : sm_isI r = true) : r = some .int ∨ r = some .boolean := by
  unfold sm_isI at h
  split at h
  · exact Or.inl rfl
  · exact Or.inr rfl
  · cases h
theorem sm_isO_of {r : Option FieldType} (h : sm_isO r = true) : ∃ n, r = some (.object n) := by
  unfold sm_isO at h
  split at h
  · exact ⟨_, rfl⟩
  · cases h
set_option maxHeartbeats 8000000 in
theorem sm_blk_ok (cf : sm_CF) (okP : ∀ f, sm_OK P (P f)) (hX : sm_X base ct tt D S M d p R s m args meth c) (hr : sm_Hr base ct tt D S P l rec) (he : sm_end base ct tt D M p l e R s m args below meth c Q z) (hj : ∀ (b : Nat) (lv : sm_V) (st : List Value) (w : sm_W) (cs : Nat × Nat) (B : sm_B), (sm_blks M)[b]? = some B → jmp b lv st w cs = some z → sm_TW base ct tt D M p l e R s m args below meth c Q B.1 lv st w cs) :
    ∀ (is : List (Instr × List Nat)) (pc : Nat) (lv : sm_V) (st : List Value) (w : sm_W) (cs : Nat × Nat), sm_okL P M fall is pc = true → sm_blk P S rec jmp d M fall is lv st w cs = some z → sm_TW base ct tt D M p l e R s m args below meth c Q pc lv st w cs := by
  intro is
  induction is with
  | nil =>
    intro pc lv st w cs ok h
    have ok : sm_tg M pc 0 fall = true := ok
    obtain ⟨B, hB, e1⟩ := sm_tg_of ok
    have e2 : pc = B.1 := by omega
    rw [e2]
    exact hj _ _ _ _ _ B hB h
  | cons q is ih =>
    obtain ⟨i, ops⟩ := q
    intro pc lv st w cs ok h
    cases i with
    | goto off =>
      have ok : (sm_dec M pc (.goto off) && sm_tg M pc off (ops.getD 0 0)) = true := ok
      simp only [Bool.and_eq_true] at ok
      obtain ⟨B, hB, e1⟩ := sm_tg_of ok.2
      exact fun H locs ls hl hP hS hz hn hcs => lv_goto hX.1 hX.2.1 (sm_dec_of ok.1) e1 (hj _ _ _ _ _ B hB h H locs ls hl hP hS hz hn hcs)
    | ifCond c' off =>
      have ok : (sm_dec M pc (.ifCond c' off) && sm_tg M pc off (ops.getD 0 0) && sm_tg M pc 3 (ops.getD 1 0)) = true := ok
      simp only [Bool.and_eq_true] at ok
      obtain ⟨B, hB, e1⟩ := sm_tg_of ok.1.2
      obtain ⟨B', hB', e2⟩ := sm_tg_of ok.2
      exact sm_b1_ok hX (sm_dec_of ok.1.1) e1 e2 (fun r h => hj _ _ _ _ _ B hB h) (fun r h => hj _ _ _ _ _ B' hB' h) h
    | if_icmp c' off =>
      have ok : (sm_dec M pc (.if_icmp c' off) && sm_tg M pc off (ops.getD 0 0) && sm_tg M pc 3 (ops.getD 1 0)) = true := ok
      simp only [Bool.and_eq_true] at ok
      obtain ⟨B, hB, e1⟩ := sm_tg_of ok.1.2
      obtain ⟨B', hB', e2⟩ := sm_tg_of ok.2
      exact sm_b2_ok hX (sm_dec_of ok.1.1) e1 e2 (fun r h => hj _ _ _ _ _ B hB h) (fun r h => hj _ _ _ _ _ B' hB' h) h
    | ifnull off =>
      have ok : (sm_dec M pc (.ifnull off) && sm_tg M pc off (ops.getD 0 0) && sm_tg M pc 3 (ops.getD 1 0)) = true := ok
      simp only [Bool.and_eq_true] at ok
      obtain ⟨B, hB, e1⟩ := sm_tg_of ok.1.2
      obtain ⟨B', hB', e2⟩ := sm_tg_of ok.2
      exact sm_bnull_ok hX (sm_dec_of ok.1.1) e1 e2 (fun r h => hj _ _ _ _ _ B hB h) (fun r h => hj _ _ _ _ _ B' hB' h) h
    | ifnonnull off =>
      have ok : (sm_dec M pc (.ifnonnull off) && sm_tg M pc off (ops.getD 0 0) && sm_tg M pc 3 (ops.getD 1 0)) = true := ok
      simp only [Bool.and_eq_true] at ok
      obtain ⟨B, hB, e1⟩ := sm_tg_of ok.1.2
      obtain ⟨B', hB', e2⟩ := sm_tg_of ok.2
      exact sm_bnon_ok hX (sm_dec_of ok.1.1) e1 e2 (fun r h => hj _ _ _ _ _ B' hB' h) (fun r h => hj _ _ _ _ _ B hB h) h
    | tableswitch df lo hi offs =>
      unfold sm_okL sm_okI at ok
      simp only [Bool.and_eq_true, decide_eq_true_eq] at ok
      obtain ⟨⟨⟨o1, o2⟩, o3⟩, o4⟩ := ok
      obtain ⟨len, hd⟩ : ∃ len, decode M.2.1 pc = .ok (.tableswitch df lo hi offs, len) := by
        split at o1
        · next j len e => exact ⟨len, by rw [← of_decide_eq_true o1]; exact e⟩
        · cases o1
      obtain ⟨t1, t2⟩ := sm_tgs_of o3
      unfold sm_blk at h
      dsimp only at h
      split at h
      · next x r =>
        rcases sm_sw_or h with ⟨j, b, h1, h2, h3⟩ | ⟨h1, h2⟩
        · obtain ⟨o, ho1, ho2⟩ := t2 j b h1
          obtain ⟨B, hB, e1⟩ := sm_tg_of ho2
          have hjl : j < offs.toList.length := sm_lt ho1
          refine fun H locs ls hl hP hS hz hn hcs => lv_tableIn hX.1 hX.2.1 hd (off := o) (by omega) (by omega) ?_ e1 (hj _ _ _ _ _ B hB h3 H locs ls hl hP hS hz hn hcs)
          have e5 : (x.toInt - lo).toNat = j := by omega
          rw [e5, ← Array.getElem?_toList]
          exact ho1
        · obtain ⟨B, hB, e1⟩ := sm_tg_of o2
          refine fun H locs ls hl hP hS hz hn hcs => lv_tableOut hX.1 hX.2.1 hd ?_ e1 (hj _ _ _ _ _ B hB h2 H locs ls hl hP hS hz hn hcs)
          rcases Int.lt_or_le x.toInt lo with q | q
          · exact Or.inl q
          · refine Or.inr ?_
            rcases Int.lt_or_le hi x.toInt with q2 | q2
            · exact q2
            · exact absurd (show x.toInt = lo + ((x.toInt - lo).toNat : Int) by omega) (h1 (x.toInt - lo).toNat (by rw [t1]; omega))
      · cases h
    | lookupswitch df ps =>
      unfold sm_okL sm_okI at ok
      simp only [Bool.and_eq_true] at ok
      obtain ⟨⟨⟨o1, o2⟩, o3⟩, o4⟩ := ok
      obtain ⟨len, hd⟩ : ∃ len, decode M.2.1 pc = .ok (.lookupswitch df ps, len) := by
        split at o1
        · next j len e => exact ⟨len, by rw [← of_decide_eq_true o1]; exact e⟩
        · cases o1
      obtain ⟨t1, t2⟩ := sm_tgs_of o3
      unfold sm_blk at h
      dsimp only at h
      split at h
      · next x r =>
        rcases sm_lo_or (df := df) h with ⟨j, b, q, h1, h2, h3, h4⟩ | ⟨h1, h2⟩
        · obtain ⟨o, ho1, ho2⟩ := t2 j b h1
          obtain ⟨B, hB, e1⟩ := sm_tg_of ho2
          have e5 : q.2 = o := by
            rw [List.getElem?_map, h2] at ho1
            exact Option.some.inj ho1
          exact fun H locs ls hl hP hS hz hn hcs => lv_lookup hX.1 hX.2.1 hd o4 (h3.trans e5) e1 (hj _ _ _ _ _ B hB h4 H locs ls hl hP hS hz hn hcs)
        · obtain ⟨B, hB, e1⟩ := sm_tg_of o2
          exact fun H locs ls hl hP hS hz hn hcs => lv_lookup hX.1 hX.2.1 hd o4 h1 e1 (hj _ _ _ _ _ B hB h2 H locs ls hl hP hS hz hn hcs)
      · cases h
    | ireturn =>
      have ok : (sm_dec M pc .ireturn && sm_isI M.2.2.2.1) = true := ok
      simp only [Bool.and_eq_true] at ok
      unfold sm_blk at h
      dsimp only at h
      split at h
      · next x =>
        split at h
        · next hc =>
          subst hc
          have hx : z = (some (.int x), w) ∧ (M.2.2.2.1 = some .int ∨ (M.2.2.2.1 = some .boolean ∧ (x = 0 ∨ x = 1))) := by
            rcases sm_isI_of ok.2 with q | q
            · rw [q] at h; cases h; exact ⟨rfl, Or.inl q⟩
            · rw [q] at h
              have h : (if x = 0 ∨ x = 1 then some (some (Value.int x), w) else none) = some z := h
              split at h
              · next hx => cases h; exact ⟨rfl, Or.inr ⟨q, hx⟩⟩
              · cases h
          obtain ⟨rfl, hq⟩ := hx
          exact fun H locs ls hl hP hS hz hn hcs => he H locs pc ls .ireturn (sm_dec_of ok.1) (Or.inl ⟨rfl, x, rfl, hq⟩) hP hS
        · cases h
      · cases h
    | lreturn =>
      have ok : (sm_dec M pc .lreturn && decide (M.2.2.2.1 = some .long)) = true := ok
      simp only [Bool.and_eq_true, decide_eq_true_eq] at ok
      unfold sm_blk at h
      dsimp only at h
      split at h
      · next x =>
        split at h
        · next hc => subst hc; cases h; exact fun H locs ls hl hP hS hz hn hcs => he H locs pc ls .lreturn (sm_dec_of ok.1) (Or.inr (Or.inl ⟨rfl, x, rfl, ok.2⟩)) hP hS
        · cases h
      · cases h
    | areturn =>
      have ok : (sm_dec M pc .areturn && sm_isO M.2.2.2.1) = true := ok
      simp only [Bool.and_eq_true] at ok
      unfold sm_blk at h
      dsimp only at h
      split at h
      · next x =>
        split at h
        · next hc => subst hc; cases h; exact fun H locs ls hl hP hS hz hn hcs => he H locs pc ls .areturn (sm_dec_of ok.1) (Or.inr (Or.inr (Or.inl ⟨rfl, x, rfl, sm_isO_of ok.2⟩))) hP hS
        · cases h
      · cases h
    | return_ =>
      have ok : (sm_dec M pc .return_ && decide (M.2.2.2.1 = none)) = true := ok
      simp only [Bool.and_eq_true, decide_eq_true_eq] at ok
      unfold sm_blk at h
      dsimp only at h
      split at h
      · split at h
        · next hc => subst hc; cases h; exact fun H locs ls hl hP hS hz hn hcs => he H locs pc ls .return_ (sm_dec_of ok.1) (Or.inr (Or.inr (Or.inr ⟨rfl, rfl, ok.2⟩))) hP hS
        · cases h
      · cases h
    | new x =>
      have ok : (sm_dec M pc (.new x) && sm_okN M x (ops.getD 0 0) (ops.getD 1 0) (ops.getD 2 0) (ops.getD 3 0) && sm_okL P M fall is (pc + 3)) = true := ok
      simp only [Bool.and_eq_true] at ok
      unfold sm_blk at h
      dsimp only at h
      split at h
      · cases h
      · next hc => exact sm_k_new (lay := w.1) (me := w.2) cf hX (sm_dec_of ok.1.1) ok.1.2 hc (ih _ _ _ _ _ ok.2 h)
    | newarray at' =>
      have ok : (sm_dec M pc (.newarray at') && sm_okA M at' (ops.getD 0 0) (ops.getD 1 0) && sm_okL P M fall is (pc + 2)) = true := ok
      simp only [Bool.and_eq_true] at ok
      unfold sm_blk at h
      dsimp only at h
      split at h
      · split at h
        · cases h
        · next hc => exact sm_k_newa (lay := w.1) (me := w.2) hX (sm_dec_of ok.1.1) ok.1.2 hc (ih _ _ _ _ _ ok.2 h)
      · cases h
    | _ =>
      rw [sm_blk_else rfl] at h
      have ok := Bool.and_eq_true_iff.mp ok
      have ok1 := Bool.and_eq_true_iff.mp ok.1
      exact sm_else_ok cf okP hX hr (sm_dec_of ok1.1) ok1.2 (fun lv st w cs h => ih _ _ _ _ _ ok.2 h) h
theorem sm_okB (okP : ∀ f, sm_OK P (P f)) {f b : Nat} {B : sm_B} (h : (sm_blks (P f))[b]? = some B) : sm_okL P (P f) B.2.2.1 B.2.2.2 B.1 = true := (sm_okM_of (okP f).1).2.2.2.2 B (List.mem_of_getElem? h)
theorem sm_go_ok {f : Nat} (cf : sm_CF) (okP : ∀ f, sm_OK P (P f)) (hX : sm_X base ct tt D S (P f) d p R s m args meth c) (hr : sm_Hr base ct tt D S P l rec) (he : sm_end base ct tt D (P f) p l e R s m args below meth c Q z)
    (hc : ∀ (b : Nat) (vs st : List Value) (w : sm_W) (cs : Nat × Nat) (B : sm_B) (live : List Nat), (sm_blks (P f))[b]? = some B → B.2.1 = some live → rec d f b vs st w cs = some z → sm_TW base ct tt D (P f) p l e R s m args below meth c Q B.1 (if b = 0 then lv_args 0 vs else live.zip vs) st w cs) :
    ∀ (n : Nat) (b : Nat) (lv : sm_V) (st : List Value) (w : sm_W) (cs : Nat × Nat) (B : sm_B), (sm_blks (P f))[b]? = some B → sm_go P S rec d f (P f) n b lv st w cs = some z → sm_TW base ct tt D (P f) p l e R s m args below meth c Q B.1 lv st w cs := by
  intro n
  induction n with
  | zero => intro b lv st w cs B hB h; cases h
  | succ n ih =>
    intro b lv st w cs B hB h
    unfold sm_go at h
    split at h
    · cases h
    · next hb0 =>
      have hB' : (P f).2.2.2.2.2.2.2.2[b]? = some B := hB
      rw [hB'] at h
      obtain ⟨pcb, lo, fall, is⟩ := B
      cases lo with
      | some live =>
        dsimp only at h
        split at h
        · cases h
        · next vs hvs =>
          have k1 := hc b vs st w cs _ live hB rfl h
          rw [if_neg hb0] at k1
          exact sm_sub (sm_pick_of hvs) k1
      | none =>
        dsimp only at h
        exact sm_blk_ok cf okP hX hr he (fun b lv st w cs B hB h => ih b lv st w cs B hB h) is pcb lv st w cs (sm_okB okP hB) h
/-- what is shown of n rounds of the small machine: in every place where its method may stand -/
def sm_Cn (base : Nat) (ct : Nat → ClassId) (tt : Nat → Nat) (D : va_G) (S : sm_C) (P : Nat → sm_M) (l : Launch) (n : Nat) : Prop :=
  ∀ (d f : Nat) (p : Program) (e : Env) (R : Room) (s : State) (m : MethodId) (args : Array Value) (below : List Frame) (meth : Method) (c : Code) (Q : State → Prop) (z : sm_Z), sm_X base ct tt D S (P f) d p R s m args meth c → sm_end base ct tt D (P f) p l e R s m args below meth c Q z →
    ∀ (b : Nat) (vs st : List Value) (w : sm_W) (cs : Nat × Nat) (B : sm_B) (live : List Nat), (sm_blks (P f))[b]? = some B → B.2.1 = some live → sm_run P S n d f b vs st w cs = some z → sm_TW base ct tt D (P f) p l e R s m args below meth c Q B.1 (if b = 0 then lv_args 0 vs else live.zip vs) st w cs
set_option maxHeartbeats 4000000 in
theorem sm_end_met {f : Nat} (hx : p.tables.exec = Jvm.exec) (hb : c.code = (P f).2.1) (hret : meth.sig.returnType = (P f).2.2.2.1) (hlocks : meth.locks = false) : sm_end base ct tt D (P f) p l e R s m args below meth c (MQ below (sm_Q base ct tt D z) args s (P f).2.2.2.2.2.1 (P f).2.2.2.2.2.2.1 (sm_A base)) z := by
  intro H locs pc ls i hd hq hP hS
  obtain ⟨zv, zw⟩ := z
  rcases hq with ⟨rfl, x, hv, hr⟩ | ⟨rfl, x, hv, hr⟩ | ⟨rfl, x, hv, n, hr⟩ | ⟨rfl, hv, hr⟩
  · have hv : zv = some (.int x) := hv
    subst hv
    rcases hr with hr | ⟨hr, h01⟩
    · exact W.iret hx hb (hret.trans hr) (fun t ht hw => ⟨rfl, by rw [ht]; exact hP, hS.F ht⟩) hS.2.2 hd hlocks
    · exact W.zret hx hb (hret.trans hr) (by rcases h01 with rfl | rfl <;> rfl) (fun t ht hw => ⟨rfl, by rw [ht]; exact hP, hS.F ht⟩) hS.2.2 hd hlocks
  · have hv : zv = some (.long x) := hv
    subst hv
    exact W.lret hx hb (hret.trans hr) (fun t ht hw => ⟨rfl, by rw [ht]; exact hP, hS.F ht⟩) hS.2.2 hd hlocks
  · have hv : zv = some (.ref x) := hv
    subst hv
    exact W.aret hx hb (hret.trans hr) (Or.inl ⟨n, rfl⟩) (Or.inr ⟨_, rfl⟩) (fun t ht hw => ⟨rfl, by rw [ht]; exact hP, hS.F ht⟩) hS.2.2 hd hlocks
  · have hv : zv = none := hv
    subst hv
    exact W.vret hx hb (hret.trans hr) (fun t ht hw => ⟨rfl, by rw [ht]; exact hP, hS.F ht⟩) hS.2.2 hd hlocks
set_option maxHeartbeats 4000000 in
theorem sm_met (okP : ∀ f, sm_OK P (P f)) {n : Nat} (hC : sm_Cn base ct tt D S P l n) : sm_Hr base ct tt D S P l (sm_run P S n) := by
  intro d f as w z hsl hw hrun
  refine ⟨?_, sm_run_len n d f 0 as [] w (0, 0) z hrun⟩
  obtain ⟨g1, -, g7, ⟨B, hB, hB0⟩, -⟩ := sm_okM_of (okP f).1
  refine Met.ofW (cc := (P f).2.1) (maxL := (P f).2.2.1) (ret := (P f).2.2.2.1) g1 rfl ?_
  intro p e s m args below meth c s₁ Bd hml hv
  obtain ⟨rfl, hsz, hw', hP, hG⟩ := hv
  have hts0 := atoms_spec (ws := sm_mw (P f)) Bd.pre
  have hX : sm_X base ct tt D S (P f) d p (sm_rm d (P f)) s m ((as.map (sm_cv base tt)).toArray) meth c :=
    ⟨Bd.exec, Bd.bytes, hml, findClass_of_methodNamed Bd.named, fun u hu => hts0 u (List.mem_cons_of_mem _ hu), fun q => (name_of_methodNamed Bd.named Bd.method).1.trans q, Nat.le_refl _, Nat.le_refl _, Nat.le_refl _, Nat.le_refl _, hG⟩
  have hl := lv_entry (as.map (sm_cv base tt)) (n := (P f).2.2.1) (by rw [sm_sl_len]; exact hsl)
  rw [lg_entry_eq]
  generalize (lg_sl (as.map (sm_cv base tt)) ++ List.replicate ((P f).2.2.1 - (lg_sl (as.map (sm_cv base tt))).length) Slot.unset).toArray = ls at hl ⊢
  rw [sm_args_map] at hl
  have hcut : ∃ live, B.2.1 = some live := by
    cases n with
    | zero => cases hrun
    | succ n =>
      have hrun : sm_F P S (sm_run P S n) d f 0 as [] w (0, 0) = some z := hrun
      unfold sm_F at hrun
      have hB' : (P f).2.2.2.2.2.2.2.2[0]? = some B := hB
      rw [hB'] at hrun
      obtain ⟨pcb, lo, fall, is⟩ := B
      cases lo with
      | some live => exact ⟨live, rfl⟩
      | none => cases hrun
  obtain ⟨live, hlive⟩ := hcut
  have k1 := hC d f p e (sm_rm d (P f)) s m _ below meth c _ z hX (sm_end_met Bd.exec Bd.bytes Bd.returns Bd.notSynchronized) 0 as [] w (0, 0) B live hB hlive hrun
  rw [if_pos rfl, hB0] at k1
  exact k1 s.heap [] ls hl hP va_S.rf (by show s.heap.size + 0 = base + w.1.length; rw [hsz]; rfl) hw ⟨Nat.zero_le _, Nat.zero_le _⟩
theorem sm_run_ok (cf : sm_CF) (okP : ∀ f, sm_OK P (P f)) : ∀ n, sm_Cn base ct tt D S P l n
  | 0 => fun d f p e R s m args below meth c Q z hX he b vs st w cs B live hB hlive h => by cases h
  | n + 1 => fun d f p e R s m args below meth c Q z hX he b vs st w cs B live hB hlive h => by
    have ihn := sm_run_ok cf okP n
    have h : sm_F P S (sm_run P S n) d f b vs st w cs = some z := h
    unfold sm_F at h
    have hB' : (P f).2.2.2.2.2.2.2.2[b]? = some B := hB
    rw [hB'] at h
    obtain ⟨pcb, lo, fall, is⟩ := B
    have hlive : lo = some live := hlive
    subst hlive
    exact sm_blk_ok cf okP hX (sm_met okP ihn) he (fun b lv st w cs B hB h => sm_go_ok cf okP hX (sm_met okP ihn) he (ihn d f p e R s m args below meth c Q z hX he) 64 b lv st w cs B hB h) is pcb _ st w cs (sm_okB okP hB) h
end SmMet
end
section
/-! what must hold ahead for an end: the small machine by conditions -/
def sm_ow (o : sm_O) (k : sm_V → List Value → sm_Y → Prop) : Prop := match o with
  | some q => k q.1 q.2.1 q.2.2
  | none => False
theorem sm_ow_of {o : sm_O} {k : sm_V → List Value → sm_Y → Prop} (h : sm_ow o k) : ∃ q, o = some q ∧ k q.1 q.2.1 q.2.2 := by
  cases o with
  | none => exact h.elim
  | some q => exact ⟨q, rfl, h⟩
def sm_wI (S : sm_C) (lay : List (Nat × Nat)) (m : sm_Y) (st : List Value) (k : List Value → Prop) : Prop := match st with
  | .int i :: .ref p :: r => match lay[p]? with
    | some (1, n) => vp_in i n ∧ k (.int (m.1 p i.toNatClampNeg) :: r)
    | some _ => False
    | none => match sm_sI S p with
      | some q => vp_in i q.1 ∧ k (.int (q.2 i.toNatClampNeg) :: r)
      | none => False
  | _ => False
def sm_wB (lay : List (Nat × Nat)) (m : sm_Y) (st : List Value) (k : List Value → Prop) : Prop := match st with
  | .int i :: .ref p :: r => match lay[p]? with
    | some (2, n) => vp_in i n ∧ k (.int (m.1 p i.toNatClampNeg) :: r)
    | some (3, n) => vp_in i n ∧ k (.int (m.1 p i.toNatClampNeg) :: r)
    | _ => False
  | _ => False
def sm_wL (lay : List (Nat × Nat)) (m : sm_Y) (st : List Value) (k : List Value → Prop) : Prop := match st with
  | .int i :: .ref p :: r => match lay[p]? with
    | some (4, n) => vp_in i n ∧ k (.long (m.2.1 p i.toNatClampNeg) :: r)
    | some _ => False
    | none => match sm_sL p with
      | some q => vp_in i q.1 ∧ k (.long (q.2 i.toNatClampNeg) :: r)
      | none => False
  | _ => False
def sm_wpI (lay : List (Nat × Nat)) (m : sm_Y) (st : List Value) (k : List Value → sm_Y → Prop) : Prop := match st with
  | .int x :: .int i :: .ref p :: r => match lay[p]? with
    | some (1, n) => vp_in i n ∧ k r (sm_up m.1 p i.toNatClampNeg x, m.2)
    | _ => False
  | _ => False
def sm_wpB (lay : List (Nat × Nat)) (m : sm_Y) (st : List Value) (k : List Value → sm_Y → Prop) : Prop := match st with
  | .int x :: .int i :: .ref p :: r => match lay[p]? with
    | some (2, n) => vp_in i n ∧ k r (sm_up m.1 p i.toNatClampNeg (vp_nar .byte x), m.2)
    | some (3, n) => vp_in i n ∧ k r (sm_up m.1 p i.toNatClampNeg (vp_nar .boolean x), m.2)
    | _ => False
  | _ => False
def sm_wpL (lay : List (Nat × Nat)) (m : sm_Y) (st : List Value) (k : List Value → sm_Y → Prop) : Prop := match st with
  | .long x :: .int i :: .ref p :: r => match lay[p]? with
    | some (4, n) => vp_in i n ∧ k r (m.1, sm_up m.2.1 p i.toNatClampNeg x, m.2.2)
    | _ => False
  | _ => False
def sm_g (b : Bool) (A : Prop) : Prop := match b with
  | true => A
  | false => False
theorem sm_g_of {b : Bool} {A : Prop} (h : sm_g b A) : b = true ∧ A := by
  cases b with
  | true => exact ⟨rfl, h⟩
  | false => exact h.elim
def sm_wput (lay : List (Nat × Nat)) (m : sm_Y) (c k : Nat) (st : List Value) (kk : List Value → sm_Y → Prop) : Prop := match st with
  | v :: .ref p :: r => match lay[p]? with
    | some (0, c') => sm_g (decide (c' = c)) (match sm_cd c k, v with
      | 0, .int x => kk r (sm_up m.1 p k x, m.2)
      | 1, .ref q => kk r (m.1, m.2.1, sm_up m.2.2 p k (some q))
      | 1, .null => kk r (m.1, m.2.1, sm_up m.2.2 p k none)
      | 2, .int x => (x = 0 ∨ x = 1) ∧ kk r (sm_up m.1 p k x, m.2)
      | _, _ => False)
    | _ => False
  | _ => False
def sm_wq (f : Int32 → Int32 → Int32) (st : List Value) (k : List Value → Prop) : Prop := match st with
  | .int y :: .int x :: r => ¬ y = 0 ∧ k (.int (f x y) :: r)
  | _ => False
def sm_wcpy (lay : List (Nat × Nat)) (m : sm_Y) (st : List Value) (k : List Value → sm_Y → Prop) : Prop := match st with
  | .int n :: .int dp :: .ref a :: .int sp :: .ref a0 :: r => match lay[a0]?, lay[a]? with
    | some (1, n0), some (1, n1) => sm_g (decide ((r.map fun v => v.category).sum ≤ 8)) ((¬ sp < 0 ∧ ¬ dp < 0 ∧ ¬ n < 0 ∧ sp.toNatClampNeg + n.toNatClampNeg ≤ n0 ∧ dp.toNatClampNeg + n.toNatClampNeg ≤ n1) ∧ k r (sm_row m.1 a (va_cpy (m.1 a0) (m.1 a) sp.toNatClampNeg dp.toNatClampNeg n.toNatClampNeg), m.2))
    | _, _ => False
  | _ => False
def sm_wst4 (ops : List Nat) (lv : sm_V) (lay : List (Nat × Nat)) (m : sm_Y) (st : List Value) (k : sm_V → List Value → sm_Y → Prop) : Prop := match ops with
  | 0 :: _ => sm_wcpy lay m st (fun s m' => k lv s m')
  | ops => sm_ow (sm_st4 ops lv lay m st) k
def sm_oneW (S : sm_C) (nL : Nat) (i : Instr) (ops : List Nat) (lv : sm_V) (st : List Value) (lay : List (Nat × Nat)) (m : sm_Y) (k : sm_V → List Value → sm_Y → Prop) : Prop := match i with
  | .iaload => sm_wI S lay m st (fun s => k lv s m)
  | .baload => sm_wB lay m st (fun s => k lv s m)
  | .laload => sm_wL lay m st (fun s => k lv s m)
  | .iastore => sm_wpI lay m st (fun s m' => k lv s m')
  | .bastore => sm_wpB lay m st (fun s m' => k lv s m')
  | .lastore => sm_wpL lay m st (fun s m' => k lv s m')
  | .putfield _ => sm_wput lay m (ops.getD 0 0) (ops.getD 1 0) st (fun s m' => k lv s m')
  | .idiv => sm_wq (fun x y => x / y) st (fun s => k lv s m)
  | .irem => sm_wq (fun x y => x - x / y * y) st (fun s => k lv s m)
  | .invokestatic _ => sm_wst4 ops lv lay m st k
  | i => sm_ow (sm_one S nL i ops lv st lay m) k
section SmWp
variable {S : sm_C} {nL : Nat} {ops : List Nat} {lv : sm_V} {st : List Value} {lay : List (Nat × Nat)} {m : sm_Y} {k : sm_V → List Value → sm_Y → Prop}
theorem sm_vpn {i : Int32} {n : Nat} (h : vp_in i n) : ¬ (i < 0 ∨ n ≤ i.toNatClampNeg) := h
theorem sm_wI_of {kk : List Value → Prop} (h : sm_wI S lay m st kk) : ∃ s, sm_gI S lay m st = some s ∧ kk s := by
  unfold sm_wI at h
  split at h
  · split at h
    · next e => obtain ⟨h1, h2⟩ := h; exact ⟨_, by simp only [sm_gI, e]; rw [if_neg (sm_vpn h1)], h2⟩
    · exact h.elim
    · next e =>
      split at h
      · next q e2 => obtain ⟨h1, h2⟩ := h; exact ⟨_, by simp only [sm_gI, e, e2]; rw [if_neg (sm_vpn h1)], h2⟩
      · exact h.elim
  · exact h.elim
theorem sm_wB_of {kk : List Value → Prop} (h : sm_wB lay m st kk) : ∃ s, sm_gB lay m st = some s ∧ kk s := by
  unfold sm_wB at h
  split at h
  · split at h
    · next e => obtain ⟨h1, h2⟩ := h; exact ⟨_, by simp only [sm_gB, e]; rw [if_neg (sm_vpn h1)], h2⟩
    · next e => obtain ⟨h1, h2⟩ := h; exact ⟨_, by simp only [sm_gB, e]; rw [if_neg (sm_vpn h1)], h2⟩
    · exact h.elim
  · exact h.elim
theorem sm_wL_of {kk : List Value → Prop} (h : sm_wL lay m st kk) : ∃ s, sm_gL lay m st = some s ∧ kk s := by
  unfold sm_wL at h
  split at h
  · split at h
    · next e => obtain ⟨h1, h2⟩ := h; exact ⟨_, by simp only [sm_gL, e]; rw [if_neg (sm_vpn h1)], h2⟩
    · exact h.elim
    · next e =>
      split at h
      · next q e2 => obtain ⟨h1, h2⟩ := h; exact ⟨_, by simp only [sm_gL, e, e2]; rw [if_neg (sm_vpn h1)], h2⟩
      · exact h.elim
  · exact h.elim
theorem sm_wpI_of {kk : List Value → sm_Y → Prop} (h : sm_wpI lay m st kk) : ∃ s m', sm_pI lv lay m st = some (lv, s, m') ∧ kk s m' := by
  unfold sm_wpI at h
  split at h
  · split at h
    · next e => obtain ⟨h1, h2⟩ := h; exact ⟨_, _, by simp only [sm_pI, e]; rw [if_neg (sm_vpn h1)], h2⟩
    · exact h.elim
  · exact h.elim
theorem sm_wpB_of {kk : List Value → sm_Y → Prop} (h : sm_wpB lay m st kk) : ∃ s m', sm_pB lv lay m st = some (lv, s, m') ∧ kk s m' := by
  unfold sm_wpB at h
  split at h
  · split at h
    · next e => obtain ⟨h1, h2⟩ := h; exact ⟨_, _, by simp only [sm_pB, e]; rw [if_neg (sm_vpn h1)], h2⟩
    · next e => obtain ⟨h1, h2⟩ := h; exact ⟨_, _, by simp only [sm_pB, e]; rw [if_neg (sm_vpn h1)], h2⟩
    · exact h.elim
  · exact h.elim
theorem sm_wpL_of {kk : List Value → sm_Y → Prop} (h : sm_wpL lay m st kk) : ∃ s m', sm_pL lv lay m st = some (lv, s, m') ∧ kk s m' := by
  unfold sm_wpL at h
  split at h
  · split at h
    · next e => obtain ⟨h1, h2⟩ := h; exact ⟨_, _, by simp only [sm_pL, e]; rw [if_neg (sm_vpn h1)], h2⟩
    · exact h.elim
  · exact h.elim
theorem sm_wput_of {c k' : Nat} {kk : List Value → sm_Y → Prop} (h : sm_wput lay m c k' st kk) : ∃ s m', sm_put lv lay m c k' st = some (lv, s, m') ∧ kk s m' := by
  unfold sm_wput at h
  split at h
  · split at h
    · next e =>
      have hh := sm_g_of h
      clear h
      obtain ⟨hc0, h⟩ := hh
      have hc := of_decide_eq_true hc0
      clear hc0
      subst hc
      split at h
      · next e2 => exact ⟨_, _, by simp only [sm_put, e, e2]; rfl, h⟩
      · next e2 => exact ⟨_, _, by simp only [sm_put, e, e2]; rfl, h⟩
      · next e2 => exact ⟨_, _, by simp only [sm_put, e, e2]; rfl, h⟩
      · next e2 => obtain ⟨h1, h2⟩ := h; exact ⟨_, _, by simp only [sm_put, e, e2]; rw [if_pos trivial, if_pos h1], h2⟩
      · exact h.elim
    · exact h.elim
  · exact h.elim
theorem sm_wq_of {f : Int32 → Int32 → Int32} {kk : List Value → Prop} (h : sm_wq f st kk) : ∃ s, sm_iq f st = some s ∧ kk s := by
  unfold sm_wq at h
  split at h
  · obtain ⟨h1, h2⟩ := h; exact ⟨_, by simp only [sm_iq]; rw [if_neg h1], h2⟩
  · exact h.elim
theorem sm_wcpy_of {kk : List Value → sm_Y → Prop} (h : sm_wcpy lay m st kk) : ∃ s m', sm_cpy lv lay m st = some (lv, s, m') ∧ kk s m' := by
  unfold sm_wcpy at h
  split at h
  · split at h
    · next e1 e2 =>
      obtain ⟨h0, ⟨h1, h2, h3, h4, h5⟩, h6⟩ := sm_g_of h
      have h0 := of_decide_eq_true h0
      refine ⟨_, _, ?_, h6⟩
      simp only [sm_cpy, e1, e2]
      rw [if_neg]
      intro q
      rcases q with q | q | q | q | q | q
      · exact h1 q
      · exact h2 q
      · exact h3 q
      · omega
      · omega
      · omega
    · exact h.elim
  · exact h.elim
theorem sm_oneW_of {i : Instr} (h : sm_oneW S nL i ops lv st lay m k) : ∃ q, sm_one S nL i ops lv st lay m = some q ∧ k q.1 q.2.1 q.2.2 := by
  cases i with
  | iaload => obtain ⟨s, h1, h2⟩ := sm_wI_of (kk := fun s => k lv s m) h; exact ⟨(lv, s, m), by show sm_p lv m (sm_gI S lay m st) = _; rw [h1]; rfl, h2⟩
  | baload => obtain ⟨s, h1, h2⟩ := sm_wB_of (kk := fun s => k lv s m) h; exact ⟨(lv, s, m), by show sm_p lv m (sm_gB lay m st) = _; rw [h1]; rfl, h2⟩
  | laload => obtain ⟨s, h1, h2⟩ := sm_wL_of (kk := fun s => k lv s m) h; exact ⟨(lv, s, m), by show sm_p lv m (sm_gL lay m st) = _; rw [h1]; rfl, h2⟩
  | iastore => obtain ⟨s, m', h1, h2⟩ := sm_wpI_of (lv := lv) h; exact ⟨(lv, s, m'), h1, h2⟩
  | bastore => obtain ⟨s, m', h1, h2⟩ := sm_wpB_of (lv := lv) h; exact ⟨(lv, s, m'), h1, h2⟩
  | lastore => obtain ⟨s, m', h1, h2⟩ := sm_wpL_of (lv := lv) h; exact ⟨(lv, s, m'), h1, h2⟩
  | putfield x => obtain ⟨s, m', h1, h2⟩ := sm_wput_of (lv := lv) h; exact ⟨(lv, s, m'), h1, h2⟩
  | idiv => obtain ⟨s, h1, h2⟩ := sm_wq_of (f := fun x y => x / y) (kk := fun s => k lv s m) h; exact ⟨(lv, s, m), by show sm_p lv m (sm_iq (fun x y => x / y) st) = _; rw [h1]; rfl, h2⟩
  | irem => obtain ⟨s, h1, h2⟩ := sm_wq_of (f := fun x y => x - x / y * y) (kk := fun s => k lv s m) h; exact ⟨(lv, s, m), by show sm_p lv m (sm_iq (fun x y => x - x / y * y) st) = _; rw [h1]; rfl, h2⟩
  | invokestatic x =>
    have h : sm_wst4 ops lv lay m st k := h
    show ∃ q, sm_st4 ops lv lay m st = some q ∧ k q.1 q.2.1 q.2.2
    unfold sm_wst4 at h
    split at h
    · obtain ⟨s, m', h1, h2⟩ := sm_wcpy_of (lv := lv) h; exact ⟨(lv, s, m'), h1, h2⟩
    · exact sm_ow_of h
  | _ => exact sm_ow_of h
end SmWp
/-! more rounds change nothing -/
section SmMono
variable {P : Nat → sm_M} {S : sm_C} {rec rec' : Nat → Nat → Nat → List Value → List Value → sm_W → Nat × Nat → Option sm_Z} {jmp jmp' : Nat → sm_V → List Value → sm_W → Nat × Nat → Option sm_Z} {d fall : Nat} {M : sm_M} {z : sm_Z}
theorem sm_b1_mono {α : Type} {z : α} {st : List Value} {a b a' b' : List Value → Option α} {c : ClassFile.Cond} (ha : ∀ r, a r = some z → a' r = some z) (hb : ∀ r, b r = some z → b' r = some z) (h : sm_b1 c st a b = some z) : sm_b1 c st a' b' = some z := by
  unfold sm_b1 at h ⊢
  split at h
  · cases c <;> (dsimp only at h ⊢; split at h <;> rename_i hc <;> first | (rw [if_pos hc]; first | exact ha _ h | exact hb _ h) | (rw [if_neg hc]; first | exact ha _ h | exact hb _ h))
  · cases h
theorem sm_b2_mono {α : Type} {z : α} {st : List Value} {a b a' b' : List Value → Option α} {c : ClassFile.Cond} (ha : ∀ r, a r = some z → a' r = some z) (hb : ∀ r, b r = some z → b' r = some z) (h : sm_b2 c st a b = some z) : sm_b2 c st a' b' = some z := by
  unfold sm_b2 at h ⊢
  split at h
  · cases c <;> (dsimp only at h ⊢; split at h <;> rename_i hc <;> first | (rw [if_pos hc]; first | exact ha _ h | exact hb _ h) | (rw [if_neg hc]; first | exact ha _ h | exact hb _ h))
  · cases h
theorem sm_bn_mono {α : Type} {z : α} {st : List Value} {a b a' b' : List Value → Option α} (ha : ∀ r, a r = some z → a' r = some z) (hb : ∀ r, b r = some z → b' r = some z) (h : sm_bn st a b = some z) : sm_bn st a' b' = some z := by
  unfold sm_bn at h ⊢
  split at h
  · exact ha _ h
  · exact hb _ h
  · cases h
theorem sm_sw_mono {α : Type} {z : α} {x : Int32} {k k' : Nat → Option α} {d : Nat} (hk : ∀ b, k b = some z → k' b = some z) : ∀ (bs : List Nat) (v : Int), sm_sw x k d v bs = some z → sm_sw x k' d v bs = some z
  | [], v, h => hk _ h
  | b :: r, v, h => by
    unfold sm_sw at h ⊢
    split at h
    · next e => rw [if_pos e]; exact hk _ h
    · next e => rw [if_neg e]; exact sm_sw_mono hk r (v + 1) h
theorem sm_lo_mono {α : Type} {z : α} {x : Int32} {k k' : Nat → Option α} {d : Nat} (hk : ∀ b, k b = some z → k' b = some z) : ∀ (vs : List (Int × Int)) (bs : List Nat), sm_lo x k d vs bs = some z → sm_lo x k' d vs bs = some z
  | [], bs, h => by cases bs <;> exact hk _ h
  | v :: vs, [], h => by cases h
  | v :: vs, b :: r, h => by
    unfold sm_lo at h ⊢
    split at h
    · next e => rw [if_pos e]; exact hk _ h
    · next e => rw [if_neg e]; exact sm_lo_mono hk vs r h
theorem sm_else_mono {i : Instr} {ops : List Nat} {lv : sm_V} {st : List Value} {w : sm_W} {cs : Nat × Nat} {k k' : sm_V → List Value → sm_W → Nat × Nat → Option sm_Z} (hr : ∀ d' g b as st w cs z', rec d' g b as st w cs = some z' → rec' d' g b as st w cs = some z') (hk : ∀ lv st w cs, k lv st w cs = some z → k' lv st w cs = some z) (h : sm_else P S rec d M i ops lv st w cs k = some z) : sm_else P S rec' d M i ops lv st w cs k' = some z := by
  unfold sm_else at h ⊢
  split at h
  · split at h
    · cases h
    · unfold sm_inv at h ⊢
      split at h
      · cases h
      · next hc =>
        dsimp only
        rw [if_neg hc]
        split at h
        · cases h
        · next z' e => rw [hr _ _ _ _ _ _ _ _ e]; exact hk _ _ _ _ h
  · split at h
    · exact hk _ _ _ _ h
    · cases h
set_option maxHeartbeats 4000000 in
theorem sm_blk_mono (hr : ∀ d' g b as st w cs z', rec d' g b as st w cs = some z' → rec' d' g b as st w cs = some z') (hj : ∀ b lv st w cs, jmp b lv st w cs = some z → jmp' b lv st w cs = some z) : ∀ (is : List (Instr × List Nat)) (lv : sm_V) (st : List Value) (w : sm_W) (cs : Nat × Nat), sm_blk P S rec jmp d M fall is lv st w cs = some z → sm_blk P S rec' jmp' d M fall is lv st w cs = some z := by
  intro is
  induction is with
  | nil => intro lv st w cs h; exact hj _ _ _ _ _ h
  | cons q is ih =>
    obtain ⟨i, ops⟩ := q
    intro lv st w cs h
    cases i with
    | goto off => exact hj _ _ _ _ _ h
    | ifCond c off => exact sm_b1_mono (fun r h => hj _ _ _ _ _ h) (fun r h => hj _ _ _ _ _ h) h
    | if_icmp c off => exact sm_b2_mono (fun r h => hj _ _ _ _ _ h) (fun r h => hj _ _ _ _ _ h) h
    | ifnull off => exact sm_bn_mono (fun r h => hj _ _ _ _ _ h) (fun r h => hj _ _ _ _ _ h) h
    | ifnonnull off => exact sm_bn_mono (fun r h => hj _ _ _ _ _ h) (fun r h => hj _ _ _ _ _ h) h
    | tableswitch df lo hi offs =>
      unfold sm_blk at h ⊢
      dsimp only at h ⊢
      split at h
      · exact sm_sw_mono (fun b h => hj _ _ _ _ _ h) _ _ h
      · cases h
    | lookupswitch df ps =>
      unfold sm_blk at h ⊢
      dsimp only at h ⊢
      split at h
      · exact sm_lo_mono (fun b h => hj _ _ _ _ _ h) _ _ h
      · cases h
    | ireturn => exact h
    | lreturn => exact h
    | areturn => exact h
    | return_ => exact h
    | new x =>
      unfold sm_blk at h ⊢
      dsimp only at h ⊢
      split at h
      · cases h
      · next hc => rw [if_neg hc]; exact ih _ _ _ _ h
    | newarray at' =>
      unfold sm_blk at h ⊢
      dsimp only at h ⊢
      split at h
      · split at h
        · cases h
        · next hc => rw [if_neg hc]; exact ih _ _ _ _ h
      · cases h
    | _ => rw [sm_blk_else rfl] at h ⊢; exact sm_else_mono hr ih h
theorem sm_go_mono {f : Nat} (hr : ∀ d' g b as st w cs z', rec d' g b as st w cs = some z' → rec' d' g b as st w cs = some z') : ∀ (n : Nat) (b : Nat) (lv : sm_V) (st : List Value) (w : sm_W) (cs : Nat × Nat), sm_go P S rec d f M n b lv st w cs = some z → sm_go P S rec' d f M n b lv st w cs = some z := by
  intro n
  induction n with
  | zero => intro b lv st w cs h; cases h
  | succ n ih =>
    intro b lv st w cs h
    unfold sm_go at h ⊢
    split at h
    · cases h
    · next hb =>
      rw [if_neg hb]
      split at h
      · cases h
      · split at h
        · cases h
        · exact hr _ _ _ _ _ _ _ _ h
      · exact sm_blk_mono hr ih _ _ _ _ _ h
theorem sm_run_mono1 : ∀ (n d f b : Nat) (vs st : List Value) (w : sm_W) (cs : Nat × Nat) (z : sm_Z), sm_run P S n d f b vs st w cs = some z → sm_run P S (n + 1) d f b vs st w cs = some z
  | 0, _, _, _, _, _, _, _, _, h => by cases h
  | n + 1, d, f, b, vs, st, w, cs, z, h => by
    have h : sm_F P S (sm_run P S n) d f b vs st w cs = some z := h
    show sm_F P S (sm_run P S (n + 1)) d f b vs st w cs = some z
    unfold sm_F at h ⊢
    split at h
    · exact sm_blk_mono (sm_run_mono1 n) (sm_go_mono (sm_run_mono1 n) 64) _ _ _ _ _ h
    · cases h
theorem sm_run_mono {n n' : Nat} (hn : n ≤ n') {d f b : Nat} {vs st : List Value} {w : sm_W} {cs : Nat × Nat} {z : sm_Z} (h : sm_run P S n d f b vs st w cs = some z) : sm_run P S n' d f b vs st w cs = some z := by
  induction hn with
  | refl => exact h
  | step _ ih => exact sm_run_mono1 _ _ _ _ _ _ _ _ _ ih
end SmMono
end
section
/-- from here the small machine comes to an end with Φ -/
def sm_wp (P : Nat → sm_M) (S : sm_C) (d f b : Nat) (vs st : List Value) (w : sm_W) (cs : Nat × Nat) (Φ : sm_Z → Prop) : Prop := ∃ n z, sm_run P S n d f b vs st w cs = some z ∧ Φ z
def sm_w1 (c : ClassFile.Cond) (st : List Value) (a b : List Value → Prop) : Prop := match st with
  | .int x :: r => match c with
    | .eq => (x = 0 → a r) ∧ (¬ x = 0 → b r)
    | .ne => (x = 0 → b r) ∧ (¬ x = 0 → a r)
    | .lt => (x < 0 → a r) ∧ (¬ x < 0 → b r)
    | .ge => (0 ≤ x → a r) ∧ (¬ 0 ≤ x → b r)
    | .gt => (0 < x → a r) ∧ (¬ 0 < x → b r)
    | .le => (x ≤ 0 → a r) ∧ (¬ x ≤ 0 → b r)
  | _ => False
def sm_w2 (c : ClassFile.Cond) (st : List Value) (a b : List Value → Prop) : Prop := match st with
  | .int y :: .int x :: r => match c with
    | .eq => (x = y → a r) ∧ (¬ x = y → b r)
    | .ne => (x = y → b r) ∧ (¬ x = y → a r)
    | .lt => (x < y → a r) ∧ (¬ x < y → b r)
    | .ge => (y ≤ x → a r) ∧ (¬ y ≤ x → b r)
    | .gt => (y < x → a r) ∧ (¬ y < x → b r)
    | .le => (x ≤ y → a r) ∧ (¬ x ≤ y → b r)
  | _ => False
def sm_wn (st : List Value) (a b : List Value → Prop) : Prop := match st with
  | .null :: r => a r
  | .ref _ :: r => b r
  | _ => False
def sm_wsw (x : Int32) (k : Nat → Prop) (d : Nat) : Int → List Nat → Prop
  | _, [] => k d
  | v, b :: r => (x.toInt = v → k b) ∧ (¬ x.toInt = v → sm_wsw x k d (v + 1) r)
def sm_wlo (x : Int32) (k : Nat → Prop) (d : Nat) : List (Int × Int) → List Nat → Prop
  | [], _ => k d
  | _ :: _, [] => False
  | v :: vs, b :: r => (x.toInt = v.1 → k b) ∧ (¬ x.toInt = v.1 → sm_wlo x k d vs r)
def sm_invW (call : List Value → (sm_Z → Prop) → Prop) (n nL mc ms : Nat) (rc : Bool) (st : List Value) (cs : Nat × Nat) (lim : Nat × Nat) (k : List Value → sm_W → Nat × Nat → Prop) : Prop :=
  sm_g (rc && decide (n ≤ st.length) && decide ((lg_sl (st.take n).reverse).length ≤ nL) && decide (((st.drop n).map fun v => v.category).sum ≤ 8) && decide (cs.1 + mc ≤ lim.1) && decide (cs.2 + ms ≤ lim.2)) (call (st.take n).reverse (fun z => k (z.1.toList ++ st.drop n) z.2 (cs.1 + mc, cs.2 + ms)))
def sm_elseW (P : Nat → sm_M) (S : sm_C) (call : Nat → Nat → List Value → sm_W → (sm_Z → Prop) → Prop) (d : Nat) (M : sm_M) (i : Instr) (ops : List Nat) (lv : sm_V) (st : List Value) (w : sm_W) (cs : Nat × Nat) (k : sm_V → List Value → sm_W → Nat × Nat → Prop) : Prop := match ops with
  | g :: inst :: ci :: _ :: _ :: _ :: _ :: _ => match d with
    | 0 => False
    | d + 1 => sm_invW (fun as => call d g as w) ((P g).2.2.2.2.1 + inst) (P g).2.2.1 (P g).2.2.2.2.2.1 (P g).2.2.2.2.2.2.1 (sm_rc inst ci w.1 st (P g).2.2.2.2.1) st cs (M.2.2.2.2.2.1, M.2.2.2.2.2.2.1) (fun s' w' cs' => k lv s' w' cs')
  | _ => sm_oneW S M.2.2.1 i ops lv st w.1 w.2 (fun lv st m => k lv st (w.1, m) cs)
def sm_blkW (P : Nat → sm_M) (S : sm_C) (call : Nat → Nat → List Value → sm_W → (sm_Z → Prop) → Prop) (jmp : Nat → sm_V → List Value → sm_W → Nat × Nat → Prop) (d : Nat) (M : sm_M) (fall : Nat) (Φ : sm_Z → Prop) : List (Instr × List Nat) → sm_V → List Value → sm_W → Nat × Nat → Prop
  | [], lv, st, w, cs => jmp fall lv st w cs
  | (i, ops) :: is, lv, st, w, cs => match i with
    | .goto _ => jmp (ops.getD 0 0) lv st w cs
    | .ifCond c _ => sm_w1 c st (fun r => jmp (ops.getD 0 0) lv r w cs) (fun r => jmp (ops.getD 1 0) lv r w cs)
    | .if_icmp c _ => sm_w2 c st (fun r => jmp (ops.getD 0 0) lv r w cs) (fun r => jmp (ops.getD 1 0) lv r w cs)
    | .ifnull _ => sm_wn st (fun r => jmp (ops.getD 0 0) lv r w cs) (fun r => jmp (ops.getD 1 0) lv r w cs)
    | .ifnonnull _ => sm_wn st (fun r => jmp (ops.getD 1 0) lv r w cs) (fun r => jmp (ops.getD 0 0) lv r w cs)
    | .tableswitch _ lo _ _ => match st with
      | .int x :: r => sm_wsw x (fun b => jmp b lv r w cs) (ops.getD 0 0) lo (ops.drop 1)
      | _ => False
    | .lookupswitch _ ps => match st with
      | .int x :: r => sm_wlo x (fun b => jmp b lv r w cs) (ops.getD 0 0) ps.toList (ops.drop 1)
      | _ => False
    | .ireturn => match st with
      | [.int x] => sm_g (decide (cs = (M.2.2.2.2.2.1, M.2.2.2.2.2.2.1))) (match sm_isZ M.2.2.2.1 with
        | true => (x = 0 ∨ x = 1) ∧ Φ (some (.int x), w)
        | false => Φ (some (.int x), w))
      | _ => False
    | .lreturn => match st with
      | [.long x] => sm_g (decide (cs = (M.2.2.2.2.2.1, M.2.2.2.2.2.2.1))) (Φ (some (.long x), w))
      | _ => False
    | .areturn => match st with
      | [.ref x] => sm_g (decide (cs = (M.2.2.2.2.2.1, M.2.2.2.2.2.2.1))) (Φ (some (.ref x), w))
      | _ => False
    | .return_ => match st with
      | [] => sm_g (decide (cs = (M.2.2.2.2.2.1, M.2.2.2.2.2.2.1))) (Φ (none, w))
      | _ => False
    | .new _ => sm_g (decide (w.1.length < 1000) && decide (cs.1 + 1 ≤ M.2.2.2.2.2.1) && decide (cs.2 + sm_N (ops.getD 0 0) ≤ M.2.2.2.2.2.2.1))
        (sm_blkW P S call jmp d M fall Φ is lv (.ref w.1.length :: st) (w.1 ++ [(0, ops.getD 0 0)], sm_row w.2.1 w.1.length (fun _ => 0), w.2.2.1, sm_row w.2.2.2 w.1.length (fun _ => none)) (cs.1 + 1, cs.2 + sm_N (ops.getD 0 0)))
    | .newarray _ => match st with
      | .int n :: r => sm_g (decide (¬ n < 0) && decide (n.toNatClampNeg ≤ 100000) && decide (w.1.length < 1000) && decide (cs.1 + 1 ≤ M.2.2.2.2.2.1) && decide (cs.2 + n.toNatClampNeg ≤ M.2.2.2.2.2.2.1))
        (sm_blkW P S call jmp d M fall Φ is lv (.ref w.1.length :: r) (w.1 ++ [(ops.getD 0 0 + 1, n.toNatClampNeg)], sm_row w.2.1 w.1.length (fun _ => 0), sm_row w.2.2.1 w.1.length (fun _ => 0), w.2.2.2) (cs.1 + 1, cs.2 + n.toNatClampNeg))
      | _ => False
    | i => sm_elseW P S call d M i ops lv st w cs (fun lv st w cs => sm_blkW P S call jmp d M fall Φ is lv st w cs)
def sm_cl (P : Nat → sm_M) (S : sm_C) (d' g : Nat) (as : List Value) (w : sm_W) (Ψ : sm_Z → Prop) : Prop := sm_wp P S d' g 0 as [] w (0, 0) Ψ
def sm_goW (P : Nat → sm_M) (S : sm_C) (d f : Nat) (M : sm_M) (Φ : sm_Z → Prop) : Nat → Nat → sm_V → List Value → sm_W → Nat × Nat → Prop
  | 0, _, _, _, _, _ => False
  | n + 1, b, lv, st, w, cs => sm_g (decide (¬ b = 0)) (match M.2.2.2.2.2.2.2.2[b]? with
    | none => False
    | some (_, some live, _, _) => match sm_pick live lv with
      | none => False
      | some vs => sm_wp P S d f b vs st w cs Φ
    | some (_, none, fall, is) => sm_blkW P S (sm_cl P S) (sm_goW P S d f M Φ n) d M fall Φ is lv st w cs)
def sm_FW (P : Nat → sm_M) (S : sm_C) (d f b : Nat) (vs st : List Value) (w : sm_W) (cs : Nat × Nat) (Φ : sm_Z → Prop) : Prop := match (P f).2.2.2.2.2.2.2.2[b]? with
  | some (_, some live, fall, is) => sm_blkW P S (sm_cl P S) (sm_goW P S d f (P f) Φ 64) d (P f) fall Φ is (if b = 0 then lv_args 0 vs else live.zip vs) st w cs
  | _ => False
section SmRules
variable {P : Nat → sm_M} {S : sm_C} {d f fall : Nat} {M : sm_M} {Φ : sm_Z → Prop} {jmp : Nat → sm_V → List Value → sm_W → Nat × Nat → Prop} {J : Nat → Nat → sm_V → List Value → sm_W → Nat × Nat → Option sm_Z}
/-- from some number of rounds on it has come to an end with Φ -/
def sm_ev (F : Nat → Option sm_Z) (Φ : sm_Z → Prop) : Prop := ∃ N z, Φ z ∧ ∀ n, N ≤ n → F n = some z
theorem sm_ev_wp {d f b : Nat} {vs st : List Value} {w : sm_W} {cs : Nat × Nat} (h : sm_wp P S d f b vs st w cs Φ) : sm_ev (fun n => sm_run P S n d f b vs st w cs) Φ := by
  obtain ⟨n, z, h1, h2⟩ := h
  exact ⟨n, z, h2, fun n' hn => sm_run_mono hn h1⟩
theorem sm_w1_of {c : ClassFile.Cond} {st : List Value} {a b : List Value → Prop} {A B : List Value → Nat → Option sm_Z} (ha : ∀ r, a r → sm_ev (A r) Φ) (hb : ∀ r, b r → sm_ev (B r) Φ) (h : sm_w1 c st a b) : sm_ev (fun n => sm_b1 c st (fun r => A r n) (fun r => B r n)) Φ := by
  unfold sm_w1 at h
  split at h
  · next x r =>
    cases c <;> dsimp only at h <;> obtain ⟨h1, h2⟩ := h
    · by_cases q : x = 0
      · obtain ⟨N, z, k1, k2⟩ := ha r (h1 q); exact ⟨N, z, k1, fun n hn => by show (if x = 0 then _ else _) = _; rw [if_pos q]; exact k2 n hn⟩
      · obtain ⟨N, z, k1, k2⟩ := hb r (h2 q); exact ⟨N, z, k1, fun n hn => by show (if x = 0 then _ else _) = _; rw [if_neg q]; exact k2 n hn⟩
    · by_cases q : x = 0
      · obtain ⟨N, z, k1, k2⟩ := hb r (h1 q); exact ⟨N, z, k1, fun n hn => by show (if x = 0 then _ else _) = _; rw [if_pos q]; exact k2 n hn⟩
      · obtain ⟨N, z, k1, k2⟩ := ha r (h2 q); exact ⟨N, z, k1, fun n hn => by show (if x = 0 then _ else _) = _; rw [if_neg q]; exact k2 n hn⟩
    · by_cases q : x < 0
      · obtain ⟨N, z, k1, k2⟩ := ha r (h1 q); exact ⟨N, z, k1, fun n hn => by show (if x < 0 then _ else _) = _; rw [if_pos q]; exact k2 n hn⟩
      · obtain ⟨N, z, k1, k2⟩ := hb r (h2 q); exact ⟨N, z, k1, fun n hn => by show (if x < 0 then _ else _) = _; rw [if_neg q]; exact k2 n hn⟩
    · by_cases q : 0 ≤ x
      · obtain ⟨N, z, k1, k2⟩ := ha r (h1 q); exact ⟨N, z, k1, fun n hn => by show (if 0 ≤ x then _ else _) = _; rw [if_pos q]; exact k2 n hn⟩
      · obtain ⟨N, z, k1, k2⟩ := hb r (h2 q); exact ⟨N, z, k1, fun n hn => by show (if 0 ≤ x then _ else _) = _; rw [if_neg q]; exact k2 n hn⟩
    · by_cases q : 0 < x
      · obtain ⟨N, z, k1, k2⟩ := ha r (h1 q); exact ⟨N, z, k1, fun n hn => by show (if 0 < x then _ else _) = _; rw [if_pos q]; exact k2 n hn⟩
      · obtain ⟨N, z, k1, k2⟩ := hb r (h2 q); exact ⟨N, z, k1, fun n hn => by show (if 0 < x then _ else _) = _; rw [if_neg q]; exact k2 n hn⟩
    · by_cases q : x ≤ 0
      · obtain ⟨N, z, k1, k2⟩ := ha r (h1 q); exact ⟨N, z, k1, fun n hn => by show (if x ≤ 0 then _ else _) = _; rw [if_pos q]; exact k2 n hn⟩
      · obtain ⟨N, z, k1, k2⟩ := hb r (h2 q); exact ⟨N, z, k1, fun n hn => by show (if x ≤ 0 then _ else _) = _; rw [if_neg q]; exact k2 n hn⟩
  · exact h.elim
theorem sm_w2_of {c : ClassFile.Cond} {st : List Value} {a b : List Value → Prop} {A B : List Value → Nat → Option sm_Z} (ha : ∀ r, a r → sm_ev (A r) Φ) (hb : ∀ r, b r → sm_ev (B r) Φ) (h : sm_w2 c st a b) : sm_ev (fun n => sm_b2 c st (fun r => A r n) (fun r => B r n)) Φ := by
  unfold sm_w2 at h
  split at h
  · next y x r =>
    cases c <;> dsimp only at h <;> obtain ⟨h1, h2⟩ := h
    · by_cases q : x = y
      · obtain ⟨N, z, k1, k2⟩ := ha r (h1 q); exact ⟨N, z, k1, fun n hn => by show (if x = y then _ else _) = _; rw [if_pos q]; exact k2 n hn⟩
      · obtain ⟨N, z, k1, k2⟩ := hb r (h2 q); exact ⟨N, z, k1, fun n hn => by show (if x = y then _ else _) = _; rw [if_neg q]; exact k2 n hn⟩
    · by_cases q : x = y
      · obtain ⟨N, z, k1, k2⟩ := hb r (h1 q); exact ⟨N, z, k1, fun n hn => by show (if x = y then _ else _) = _; rw [if_pos q]; exact k2 n hn⟩
      · obtain ⟨N, z, k1, k2⟩ := ha r (h2 q); exact ⟨N, z, k1, fun n hn => by show (if x = y then _ else _) = _; rw [if_neg q]; exact k2 n hn⟩
    · by_cases q : x < y
      · obtain ⟨N, z, k1, k2⟩ := ha r (h1 q); exact ⟨N, z, k1, fun n hn => by show (if x < y then _ else _) = _; rw [if_pos q]; exact k2 n hn⟩
      · obtain ⟨N, z, k1, k2⟩ := hb r (h2 q); exact ⟨N, z, k1, fun n hn => by show (if x < y then _ else _) = _; rw [if_neg q]; exact k2 n hn⟩
    · by_cases q : y ≤ x
      · obtain ⟨N, z, k1, k2⟩ := ha r (h1 q); exact ⟨N, z, k1, fun n hn => by show (if y ≤ x then _ else _) = _; rw [if_pos q]; exact k2 n hn⟩
      · obtain ⟨N, z, k1, k2⟩ := hb r (h2 q); exact ⟨N, z, k1, fun n hn => by show (if y ≤ x then _ else _) = _; rw [if_neg q]; exact k2 n hn⟩
    · by_cases q : y < x
      · obtain ⟨N, z, k1, k2⟩ := ha r (h1 q); exact ⟨N, z, k1, fun n hn => by show (if y < x then _ else _) = _; rw [if_pos q]; exact k2 n hn⟩
      · obtain ⟨N, z, k1, k2⟩ := hb r (h2 q); exact ⟨N, z, k1, fun n hn => by show (if y < x then _ else _) = _; rw [if_neg q]; exact k2 n hn⟩
    · by_cases q : x ≤ y
      · obtain ⟨N, z, k1, k2⟩ := ha r (h1 q); exact ⟨N, z, k1, fun n hn => by show (if x ≤ y then _ else _) = _; rw [if_pos q]; exact k2 n hn⟩
      · obtain ⟨N, z, k1, k2⟩ := hb r (h2 q); exact ⟨N, z, k1, fun n hn => by show (if x ≤ y then _ else _) = _; rw [if_neg q]; exact k2 n hn⟩
  · exact h.elim
theorem sm_wn_of {st : List Value} {a b : List Value → Prop} {A B : List Value → Nat → Option sm_Z} (ha : ∀ r, a r → sm_ev (A r) Φ) (hb : ∀ r, b r → sm_ev (B r) Φ) (h : sm_wn st a b) : sm_ev (fun n => sm_bn st (fun r => A r n) (fun r => B r n)) Φ := by
  unfold sm_wn at h
  split at h
  · exact ha _ h
  · exact hb _ h
  · exact h.elim
theorem sm_wsw_of {x : Int32} {k : Nat → Prop} {K : Nat → Nat → Option sm_Z} {d : Nat} (hk : ∀ b, k b → sm_ev (K b) Φ) : ∀ (bs : List Nat) (v : Int), sm_wsw x k d v bs → sm_ev (fun n => sm_sw x (fun b => K b n) d v bs) Φ
  | [], v, h => hk _ h
  | b :: r, v, h => by
    obtain ⟨h1, h2⟩ := h
    by_cases q : x.toInt = v
    · obtain ⟨N, z, k1, k2⟩ := hk b (h1 q); exact ⟨N, z, k1, fun n hn => by show (if x.toInt = v then _ else _) = _; rw [if_pos q]; exact k2 n hn⟩
    · obtain ⟨N, z, k1, k2⟩ := sm_wsw_of hk r (v + 1) (h2 q); exact ⟨N, z, k1, fun n hn => by show (if x.toInt = v then _ else _) = _; rw [if_neg q]; exact k2 n hn⟩
theorem sm_wlo_of {x : Int32} {k : Nat → Prop} {K : Nat → Nat → Option sm_Z} {d : Nat} (hk : ∀ b, k b → sm_ev (K b) Φ) : ∀ (vs : List (Int × Int)) (bs : List Nat), sm_wlo x k d vs bs → sm_ev (fun n => sm_lo x (fun b => K b n) d vs bs) Φ
  | [], bs, h => by cases bs <;> exact hk _ h
  | v :: vs, [], h => h.elim
  | v :: vs, b :: r, h => by
    obtain ⟨h1, h2⟩ := h
    by_cases q : x.toInt = v.1
    · obtain ⟨N, z, k1, k2⟩ := hk b (h1 q); exact ⟨N, z, k1, fun n hn => by show (if x.toInt = v.1 then _ else _) = _; rw [if_pos q]; exact k2 n hn⟩
    · obtain ⟨N, z, k1, k2⟩ := sm_wlo_of hk vs r (h2 q); exact ⟨N, z, k1, fun n hn => by show (if x.toInt = v.1 then _ else _) = _; rw [if_neg q]; exact k2 n hn⟩
theorem sm_elseW_of {i : Instr} {ops : List Nat} {lv : sm_V} {st : List Value} {w : sm_W} {cs : Nat × Nat} {k : sm_V → List Value → sm_W → Nat × Nat → Prop} {K : Nat → sm_V → List Value → sm_W → Nat × Nat → Option sm_Z} (hk : ∀ lv st w cs, k lv st w cs → sm_ev (fun n => K n lv st w cs) Φ) (h : sm_elseW P S (sm_cl P S) d M i ops lv st w cs k) : sm_ev (fun n => sm_else P S (sm_run P S n) d M i ops lv st w cs (K n)) Φ := by
  unfold sm_elseW at h
  split at h
  · next g inst ci a1 a2 a3 a4 r =>
    cases d with
    | zero => exact h.elim
    | succ d =>
      obtain ⟨hg, h⟩ := sm_g_of h
      simp only [Bool.and_eq_true, decide_eq_true_eq] at hg
      obtain ⟨N1, z1, ⟨N2, z2, k1, k2⟩, k3⟩ := sm_ev_wp (Φ := fun z => sm_ev (fun n => K n lv (z.1.toList ++ st.drop ((P g).2.2.2.2.1 + inst)) z.2 (cs.1 + (P g).2.2.2.2.2.1, cs.2 + (P g).2.2.2.2.2.2.1)) Φ) (by
        obtain ⟨n, z, e1, e2⟩ := h
        exact ⟨n, z, e1, hk _ _ _ _ e2⟩)
      refine ⟨max N1 N2, z2, k1, fun n hn => ?_⟩
      show sm_else P S (sm_run P S n) (d + 1) M i (g :: inst :: ci :: a1 :: a2 :: a3 :: a4 :: r) lv st w cs (K n) = some z2
      unfold sm_else
      dsimp only
      unfold sm_inv
      rw [if_neg]
      · have k3' := k3 n (by omega)
        dsimp only at k3' ⊢
        rw [k3']
        exact k2 n (by omega)
      · rintro (q | q | q | q | q | q)
        · rw [hg.1.1.1.1.1] at q; cases q
        · exact absurd hg.1.1.1.1.2 (by omega)
        · exact absurd hg.1.1.1.2 (by omega)
        · exact absurd hg.1.1.2 (by omega)
        · have := hg.1.2; simp only at q this; omega
        · have := hg.2; simp only at q this; omega
  · next hno =>
    obtain ⟨q, e1, e2⟩ := sm_oneW_of h
    obtain ⟨N, z, k1, k2⟩ := hk _ _ _ _ e2
    refine ⟨N, z, k1, fun n hn => ?_⟩
    show sm_else P S (sm_run P S n) d M i ops lv st w cs (K n) = some z
    unfold sm_else
    split
    · next g inst ci a1 a2 a3 a4 r => exact absurd rfl (hno g inst ci a1 a2 a3 a4 r)
    · rw [e1]; exact k2 n hn
theorem sm_blkW_else {call : Nat → Nat → List Value → sm_W → (sm_Z → Prop) → Prop} {i : Instr} {ops : List Nat} {is : List (Instr × List Nat)} {lv : sm_V} {st : List Value} {w : sm_W} {cs : Nat × Nat} (h : sm_isE i = true) : sm_blkW P S call jmp d M fall Φ ((i, ops) :: is) lv st w cs = sm_elseW P S call d M i ops lv st w cs (fun lv st w cs => sm_blkW P S call jmp d M fall Φ is lv st w cs) := by
  cases i <;> first | rfl | cases h
set_option maxHeartbeats 4000000 in
theorem sm_blkW_of (hj : ∀ b lv st w cs, jmp b lv st w cs → sm_ev (fun n => J n b lv st w cs) Φ) : ∀ (is : List (Instr × List Nat)) (lv : sm_V) (st : List Value) (w : sm_W) (cs : Nat × Nat), sm_blkW P S (sm_cl P S) jmp d M fall Φ is lv st w cs → sm_ev (fun n => sm_blk P S (sm_run P S n) (J n) d M fall is lv st w cs) Φ := by
  intro is
  induction is with
  | nil => intro lv st w cs h; exact hj _ _ _ _ _ h
  | cons q is ih =>
    obtain ⟨i, ops⟩ := q
    intro lv st w cs h
    cases i with
    | goto off => exact hj _ _ _ _ _ h
    | ifCond c off => exact sm_w1_of (A := fun r n => J n (ops.getD 0 0) lv r w cs) (B := fun r n => J n (ops.getD 1 0) lv r w cs) (fun r h => hj _ _ _ _ _ h) (fun r h => hj _ _ _ _ _ h) h
    | if_icmp c off => exact sm_w2_of (A := fun r n => J n (ops.getD 0 0) lv r w cs) (B := fun r n => J n (ops.getD 1 0) lv r w cs) (fun r h => hj _ _ _ _ _ h) (fun r h => hj _ _ _ _ _ h) h
    | ifnull off => exact sm_wn_of (A := fun r n => J n (ops.getD 0 0) lv r w cs) (B := fun r n => J n (ops.getD 1 0) lv r w cs) (fun r h => hj _ _ _ _ _ h) (fun r h => hj _ _ _ _ _ h) h
    | ifnonnull off => exact sm_wn_of (A := fun r n => J n (ops.getD 1 0) lv r w cs) (B := fun r n => J n (ops.getD 0 0) lv r w cs) (fun r h => hj _ _ _ _ _ h) (fun r h => hj _ _ _ _ _ h) h
    | tableswitch df lo hi offs =>
      unfold sm_blkW at h
      dsimp only at h
      split at h
      · next x r => exact sm_wsw_of (K := fun b n => J n b lv r w cs) (fun b h => hj _ _ _ _ _ h) _ _ h
      · exact h.elim
    | lookupswitch df ps =>
      unfold sm_blkW at h
      dsimp only at h
      split at h
      · next x r => exact sm_wlo_of (K := fun b n => J n b lv r w cs) (fun b h => hj _ _ _ _ _ h) _ _ h
      · exact h.elim
    | ireturn =>
      unfold sm_blkW at h
      dsimp only at h
      split at h
      · next x =>
        obtain ⟨hc, h⟩ := sm_g_of h
        have hc := of_decide_eq_true hc
        cases hz : sm_isZ M.2.2.2.1 with
        | true =>
          rw [hz] at h
          obtain ⟨h1, h2⟩ := h
          refine ⟨0, _, h2, fun n _ => ?_⟩
          show (if cs = _ then (if sm_isZ M.2.2.2.1 = true then (if x = 0 ∨ x = 1 then _ else _) else _) else _) = _
          rw [if_pos hc, if_pos hz, if_pos h1]
        | false =>
          rw [hz] at h
          refine ⟨0, _, h, fun n _ => ?_⟩
          show (if cs = _ then (if sm_isZ M.2.2.2.1 = true then (if x = 0 ∨ x = 1 then _ else _) else _) else _) = _
          rw [if_pos hc, if_neg (by rw [hz]; decide)]
      · exact h.elim
    | lreturn =>
      unfold sm_blkW at h
      dsimp only at h
      split at h
      · obtain ⟨hc, h⟩ := sm_g_of h
        exact ⟨0, _, h, fun n _ => by show (if cs = _ then _ else _) = _; rw [if_pos (of_decide_eq_true hc)]⟩
      · exact h.elim
    | areturn =>
      unfold sm_blkW at h
      dsimp only at h
      split at h
      · obtain ⟨hc, h⟩ := sm_g_of h
        exact ⟨0, _, h, fun n _ => by show (if cs = _ then _ else _) = _; rw [if_pos (of_decide_eq_true hc)]⟩
      · exact h.elim
    | return_ =>
      unfold sm_blkW at h
      dsimp only at h
      split at h
      · obtain ⟨hc, h⟩ := sm_g_of h
        exact ⟨0, _, h, fun n _ => by show (if cs = _ then _ else _) = _; rw [if_pos (of_decide_eq_true hc)]⟩
      · exact h.elim
    | new x =>
      unfold sm_blkW at h
      dsimp only at h
      obtain ⟨hc, h⟩ := sm_g_of h
      simp only [Bool.and_eq_true, decide_eq_true_eq] at hc
      obtain ⟨N, z, k1, k2⟩ := ih _ _ _ _ h
      refine ⟨N, z, k1, fun n hn => ?_⟩
      show (if _ then _ else _) = _
      rw [if_neg (by omega)]
      exact k2 n hn
    | newarray at' =>
      unfold sm_blkW at h
      dsimp only at h
      split at h
      · obtain ⟨hc, h⟩ := sm_g_of h
        simp only [Bool.and_eq_true, decide_eq_true_eq] at hc
        obtain ⟨N, z, k1, k2⟩ := ih _ _ _ _ h
        refine ⟨N, z, k1, fun n hn => ?_⟩
        show (if _ then _ else _) = _
        rw [if_neg (by
          rintro (q | q | q | q | q)
          · exact hc.1.1.1.1 q
          · omega
          · omega
          · omega
          · omega)]
        exact k2 n hn
      · exact h.elim
    | _ =>
      rw [sm_blkW_else rfl] at h
      have k1 := sm_elseW_of (K := fun n lv st w cs => sm_blk P S (sm_run P S n) (J n) d M fall is lv st w cs) ih h
      obtain ⟨N, z, k2, k3⟩ := k1
      exact ⟨N, z, k2, fun n hn => by show sm_blk _ _ _ _ _ _ _ _ _ _ _ _ = _; rw [sm_blk_else rfl]; exact k3 n hn⟩
theorem sm_goW_of : ∀ (K b : Nat) (lv : sm_V) (st : List Value) (w : sm_W) (cs : Nat × Nat), sm_goW P S d f M Φ K b lv st w cs → sm_ev (fun n => sm_go P S (sm_run P S n) d f M K b lv st w cs) Φ := by
  intro K
  induction K with
  | zero => intro b lv st w cs h; exact h.elim
  | succ K ih =>
    intro b lv st w cs h
    unfold sm_goW at h
    obtain ⟨hb, h⟩ := sm_g_of h
    have hb := of_decide_eq_true hb
    cases hB : M.2.2.2.2.2.2.2.2[b]? with
    | none => rw [hB] at h; exact h.elim
    | some B =>
      obtain ⟨pcb, lo, fall, is⟩ := B
      rw [hB] at h
      cases lo with
      | some live =>
        dsimp only at h
        cases hp : sm_pick live lv with
        | none => rw [hp] at h; exact h.elim
        | some vs =>
          rw [hp] at h
          have e0 : ∀ n, sm_go P S (sm_run P S n) d f M (K + 1) b lv st w cs = sm_run P S n d f b vs st w cs := by
            intro n
            unfold sm_go
            rw [if_neg hb, hB]
            dsimp only
            rw [hp]
          simp only [e0]
          exact sm_ev_wp h
      | none =>
        dsimp only at h
        have e0 : ∀ n, sm_go P S (sm_run P S n) d f M (K + 1) b lv st w cs = sm_blk P S (sm_run P S n) (sm_go P S (sm_run P S n) d f M K) d M fall is lv st w cs := by
          intro n
          show sm_go P S (sm_run P S n) d f M (K + 1) b lv st w cs = _
          rw [sm_go, if_neg hb, hB]
        simp only [e0]
        exact sm_blkW_of ih _ _ _ _ _ h
/-- one round by conditions -/
theorem sm_wp_step {b : Nat} {vs st : List Value} {w : sm_W} {cs : Nat × Nat} (h : sm_FW P S d f b vs st w cs Φ) : sm_wp P S d f b vs st w cs Φ := by
  unfold sm_FW at h
  split at h
  · next pcb live fall is e =>
    obtain ⟨N, z, k1, k2⟩ := sm_blkW_of (J := fun n => sm_go P S (sm_run P S n) d f (P f) 64) (fun b lv st w cs h => sm_goW_of 64 b lv st w cs h) _ _ _ _ _ h
    refine ⟨N + 1, z, ?_, k1⟩
    show sm_F P S (sm_run P S N) d f b vs st w cs = some z
    unfold sm_F
    rw [e]
    exact k2 N (Nat.le_refl N)
  · exact h.elim
theorem sm_wp_mono {b : Nat} {vs st : List Value} {w : sm_W} {cs : Nat × Nat} {Ψ : sm_Z → Prop} (h : sm_wp P S d f b vs st w cs Ψ) (hq : ∀ z, Ψ z → Φ z) : sm_wp P S d f b vs st w cs Φ := by
  obtain ⟨n, z, h1, h2⟩ := h
  exact ⟨n, z, h1, hq z h2⟩
end SmRules
end
section
/-! the same checks with the pcs written out: the kernel then does not sum them again and again -/
def sm_hd (pcs : List Nat) (k : Nat → List Nat → Bool) : Bool := match pcs with
  | p' :: r => k p' r
  | [] => false
def sm_okLf (P : Nat → sm_M) (M : sm_M) (fall : Nat) : List (Instr × List Nat) → List Nat → Bool
  | [], pc :: _ => sm_tg M pc 0 fall
  | (i, ops) :: is, pc :: pcs => sm_okI P M pc i ops (fun q => sm_hd pcs (fun p' r => decide (q = p') && sm_okLf P M fall is (p' :: r)))
  | _, [] => false
theorem sm_okI_mono {P : Nat → sm_M} {M : sm_M} {pc : Nat} {i : Instr} {ops : List Nat} {k k' : Nat → Bool} (hk : ∀ q, k q = true → k' q = true) (h : sm_okI P M pc i ops k = true) : sm_okI P M pc i ops k' = true := by
  cases i with
  | goto off => exact h
  | ifCond c off => exact h
  | if_icmp c off => exact h
  | ifnull off => exact h
  | ifnonnull off => exact h
  | tableswitch df lo hi offs => exact h
  | lookupswitch df ps => exact h
  | ireturn => exact h
  | lreturn => exact h
  | areturn => exact h
  | return_ => exact h
  | new x => have h := Bool.and_eq_true_iff.mp h; exact Bool.and_eq_true_iff.mpr ⟨h.1, hk _ h.2⟩
  | newarray at' => have h := Bool.and_eq_true_iff.mp h; exact Bool.and_eq_true_iff.mpr ⟨h.1, hk _ h.2⟩
  | _ => have h := Bool.and_eq_true_iff.mp h; exact Bool.and_eq_true_iff.mpr ⟨h.1, hk _ h.2⟩
theorem sm_okLf_of {P : Nat → sm_M} {M : sm_M} {fall : Nat} : ∀ (is : List (Instr × List Nat)) (pc : Nat) (pcs : List Nat), sm_okLf P M fall is (pc :: pcs) = true → sm_okL P M fall is pc = true
  | [], pc, pcs, h => h
  | (i, ops) :: is, pc, pcs, h => by
    have h : sm_okI P M pc i ops (fun q => sm_hd pcs (fun p' r => decide (q = p') && sm_okLf P M fall is (p' :: r))) = true := h
    refine sm_okI_mono (fun q hq => ?_) h
    cases pcs with
    | nil => cases hq
    | cons p' r =>
      have hq := Bool.and_eq_true_iff.mp hq
      have e := of_decide_eq_true hq.1
      subst e
      exact sm_okLf_of is q r hq.2
def sm_okBf (P : Nat → sm_M) (M : sm_M) : List sm_B → List (List Nat) → Bool
  | [], _ => true
  | B :: Bs, pcs :: r => sm_hd pcs (fun pc ps => decide (pc = B.1) && sm_okLf P M B.2.2.1 B.2.2.2 (pc :: ps)) && sm_okBf P M Bs r
  | _ :: _, [] => false
theorem sm_okBf_of {P : Nat → sm_M} {M : sm_M} : ∀ (Bs : List sm_B) (L : List (List Nat)), sm_okBf P M Bs L = true → Bs.all (fun B => sm_okL P M B.2.2.1 B.2.2.2 B.1) = true
  | [], _, _ => rfl
  | B :: Bs, [], h => by cases h
  | B :: Bs, pcs :: r, h => by
    have h : (sm_hd pcs (fun pc ps => decide (pc = B.1) && sm_okLf P M B.2.2.1 B.2.2.2 (pc :: ps)) && sm_okBf P M Bs r) = true := h
    have h := Bool.and_eq_true_iff.mp h
    rw [List.all_cons, Bool.and_eq_true]
    refine ⟨?_, sm_okBf_of Bs r h.2⟩
    cases pcs with
    | nil => cases h.1
    | cons pc ps =>
      have h1 := Bool.and_eq_true_iff.mp h.1
      have e := of_decide_eq_true h1.1
      subst e
      exact sm_okLf_of _ _ _ h1.2
def sm_okMf (P : Nat → sm_M) (M : sm_M) (L : List (List Nat)) : Bool := plainName M.1.cls && decide (M.1.cls ≠ "java/lang/invoke/MethodHandle") && decide (M.1.cls ≠ "java/lang/invoke/VarHandle") &&
  decide ((parseMethodDescriptor M.1.desc).map (fun d => d.parameters.length) = some M.2.2.2.2.1) && decide (M.2.2.1 ≤ 60) && (match (sm_blks M)[0]? with
    | some B => decide (B.1 = 0)
    | none => false) && sm_okBf P M (sm_blks M) L
theorem sm_okMf_of {P : Nat → sm_M} {M : sm_M} (L : List (List Nat)) (h : sm_okMf P M L = true) : sm_okM P M = true := by
  have h := Bool.and_eq_true_iff.mp h
  exact Bool.and_eq_true_iff.mpr ⟨h.1, sm_okBf_of _ _ h.2⟩
theorem sm_inw (k j : Nat) {w : Cond} (h : (sm_chunk k)[j]? = some w) (hg : goodWord w = true) : w ∈ sm_wl := List.mem_filter.mpr ⟨sm_chunk_in (List.mem_of_getElem? h), hg⟩
def sm_okMh (M : sm_M) : Bool := plainName M.1.cls && decide (M.1.cls ≠ "java/lang/invoke/MethodHandle") && decide (M.1.cls ≠ "java/lang/invoke/VarHandle") &&
  decide ((parseMethodDescriptor M.1.desc).map (fun d => d.parameters.length) = some M.2.2.2.2.1) && decide (M.2.2.1 ≤ 60) && (match (sm_blks M)[0]? with
    | some B => decide (B.1 = 0)
    | none => false)
theorem sm_okMg_of {P : Nat → sm_M} {M : sm_M} (h : sm_okMh M = true) (hb : ∀ B ∈ sm_blks M, sm_okL P M B.2.2.1 B.2.2.2 B.1 = true) : sm_okM P M = true := Bool.and_eq_true_iff.mpr ⟨h, List.all_eq_true.mpr hb⟩
end
section
/-! the program of the small machine, made by a program of ours (wip/whole/prog.py) out of the decode rows -/
def pm_X0_answer : sm_M := (yX0_answer, prog_2_method_5_code, 7, (some .boolean), 4, 0, 0, [1148, 13, 1], [
  (0, some [0, 1, 2, 3, 4], 0, [(.aload_n 1, []), (.getfield 46, [10, 15, 171]), (.getfield 52, [8, 0, 90]), (.iload_n 2, []), (.iaload, []), (.istore 5, []), (.aload_n 1, []), (.getfield 46, [10, 15, 171]), (.getfield 57, [8, 1, 93]), (.iload_n 2, []), (.iaload, []), (.istore 6, []), (.aload_n 0, []), (.getfield 25, [0, 0, 491]), (.getfield 81, [2, 0, 366]), (.iload_n 3, []), (.invokevirtual 85, [240, 1, 5, 1149, 886, 887, 0]), (.iload 4, []), (.ifCond .ne 36, [2, 1])]),
  (38, none, 0, [(.aload_n 0, []), (.getfield 25, [0, 0, 491]), (.iload_n 3, []), (.iconst 1, []), (.iadd, []), (.iload 5, []), (.iload 6, []), (.aload_n 1, []), (.getfield 46, [10, 15, 171]), (.getfield 64, [8, 2, 99]), (.iload_n 2, []), (.iaload, []), (.aload_n 1, []), (.getfield 46, [10, 15, 171]), (.getfield 67, [8, 3, 102]), (.iload_n 2, []), (.iaload, []), (.invokevirtual 91, [214, 1, 2, 1150, 831, 832, 0]), (.ireturn, [])]),
  (71, none, 0, [(.iload 4, []), (.iconst 1, []), (.if_icmp .ne 36, [4, 3])]),
  (77, none, 0, [(.aload_n 0, []), (.getfield 25, [0, 0, 491]), (.getfield 81, [2, 0, 366]), (.iload_n 3, []), (.iconst 1, []), (.iadd, []), (.iload 5, []), (.iconst 1, []), (.iadd, []), (.iload 6, []), (.iconst 1, []), (.iadd, []), (.aload_n 1, []), (.getfield 46, [10, 15, 171]), (.getfield 64, [8, 2, 99]), (.iload_n 2, []), (.iaload, []), (.iconst 1, []), (.isub, []), (.invokevirtual 95, [248, 1, 5, 1151, 835, 836, 0]), (.ireturn, [])]),
  (110, none, 0, [(.aload_n 0, []), (.getfield 25, [0, 0, 491]), (.getfield 81, [2, 0, 366]), (.iload_n 3, []), (.iconst 1, []), (.iadd, []), (.iload 6, []), (.iconst 1, []), (.iadd, []), (.iload 5, []), (.iconst 1, []), (.iadd, []), (.aload_n 1, []), (.getfield 46, [10, 15, 171]), (.getfield 67, [8, 3, 102]), (.iload_n 2, []), (.iaload, []), (.ineg, []), (.iconst 1, []), (.isub, []), (.invokevirtual 95, [248, 1, 5, 1151, 835, 836, 0]), (.ireturn, [])])])
def pm_X0_answered : sm_M := (yX0_answered, prog_2_method_2_code, 12, (some .int), 3, 0, 0, [1125, 13, 1], [
  (0, some [0, 1, 2, 3], 1, [(.iconst 0, []), (.istore 4, []), (.iconst 0, []), (.istore 5, [])]),
  (6, some [0, 1, 2, 3, 4, 5], 0, [(.iload 5, []), (.aload_n 0, []), (.getfield 25, [0, 0, 491]), (.getfield 33, [2, 14, 386]), (.if_icmp .ge 184, [18, 2])]),
  (18, none, 3, [(.aload_n 0, []), (.getfield 25, [0, 0, 491]), (.aload_n 0, []), (.getfield 29, [0, 1, 492]), (.iload 5, []), (.invokevirtual 39, [215, 1, 2, 1126, 911, 912, 0]), (.pop, []), (.aload_n 0, []), (.getfield 25, [0, 0, 491]), (.aload_n 0, []), (.getfield 25, [0, 0, 491]), (.getfield 43, [2, 11, 378]), (.aload_n 1, []), (.getfield 46, [10, 15, 171]), (.getfield 52, [8, 0, 90]), (.iload_n 2, []), (.iaload, []), (.aload_n 1, []), (.getfield 46, [10, 15, 171]), (.getfield 57, [8, 1, 93]), (.iload_n 2, []), (.iaload, []), (.iconst 0, []), (.invokevirtual 60, [217, 1, 2, 1127, 940, 941, 0]), (.istore 6, []), (.aload_n 0, []), (.getfield 25, [0, 0, 491]), (.aload_n 0, []), (.getfield 25, [0, 0, 491]), (.getfield 43, [2, 11, 378]), (.aload_n 1, []), (.getfield 46, [10, 15, 171]), (.getfield 52, [8, 0, 90]), (.iload_n 2, []), (.iaload, []), (.aload_n 1, []), (.getfield 46, [10, 15, 171]), (.getfield 57, [8, 1, 93]), (.iload_n 2, []), (.iaload, [])]),
  (96, none, 0, [(.iconst 1, []), (.invokevirtual 60, [217, 1, 2, 1127, 940, 941, 0]), (.istore 7, []), (.aload_n 1, []), (.getfield 46, [10, 15, 171]), (.getfield 64, [8, 2, 99]), (.iload_n 2, []), (.iaload, []), (.istore 8, []), (.aload_n 1, []), (.getfield 46, [10, 15, 171]), (.getfield 67, [8, 3, 102]), (.iload_n 2, []), (.iaload, []), (.istore 9, []), (.iload 8, []), (.iload 9, []), (.if_icmp .gt 21, [7, 4])]),
  (131, none, 0, [(.iload 6, []), (.iload 9, []), (.if_icmp .gt 14, [7, 5])]),
  (138, none, 0, [(.iload 7, []), (.iload 8, []), (.if_icmp .lt 7, [7, 6])]),
  (145, none, 0, [(.iconst 1, []), (.goto 4, [8])]),
  (149, none, 8, [(.iconst 0, [])]),
  (150, some [0, 1, 2, 3, 4, 5, 6, 7, 8, 9], 0, [(.istore 10, []), (.iload 6, []), (.iload 8, []), (.if_icmp .lt 10, [10, 9])]),
  (159, none, 0, [(.iload 7, []), (.iload 9, []), (.if_icmp .le 7, [11, 10])]),
  (166, none, 0, [(.iconst 1, []), (.goto 4, [12])]),
  (170, none, 12, [(.iconst 0, [])]),
  (171, some [0, 1, 2, 3, 4, 5, 10], 0, [(.istore 11, []), (.iload_n 3, []), (.ifCond .eq 11, [15, 13])]),
  (177, none, 0, [(.iload 10, []), (.ifCond .eq 14, [17, 14])]),
  (182, none, 0, [(.goto 8, [16])]),
  (185, none, 0, [(.iload 11, []), (.ifCond .eq 6, [17, 16])]),
  (190, none, 17, [(.iinc 4 1, [])]),
  (193, some [0, 1, 2, 3, 4, 5], 0, [(.iinc 5 1, []), (.goto (-190), [1])]),
  (199, none, 0, [(.iload 4, []), (.ireturn, [])])])
def pm_X0_answersOf : sm_M := (yX0_answersOf, prog_2_method_10_code, 4, (some .int), 2, 0, 0, [1173, 13, 1], [
  (0, some [0, 1], 1, [(.iconst (-1), []), (.istore_n 2, []), (.iconst 0, []), (.istore_n 3, [])]),
  (4, some [0, 1, 2, 3], 0, [(.iload_n 3, []), (.aload_n 0, []), (.getfield 74, [10, 4, 135]), (.if_icmp .ge 45, [7, 2])]),
  (12, none, 0, [(.iload_n 1, []), (.iload_n 3, []), (.ishr, []), (.iconst 1, []), (.iand, []), (.ifCond .eq 11, [4, 3])]),
  (20, none, 4, [(.iload_n 2, []), (.getstatic 122, [1003, 1169]), (.iload_n 3, []), (.iaload, []), (.iand, []), (.istore_n 2, [])]),
  (28, none, 0, [(.iload_n 1, []), (.iconst 5, []), (.iload_n 3, []), (.iadd, []), (.ishr, []), (.iconst 1, []), (.iand, []), (.ifCond .eq 13, [6, 5])]),
  (38, none, 6, [(.iload_n 2, []), (.getstatic 122, [1003, 1169]), (.iload_n 3, []), (.iaload, []), (.iconst (-1), []), (.ixor, []), (.iand, []), (.istore_n 2, [])]),
  (48, none, 0, [(.iinc 3 1, []), (.goto (-47), [1])]),
  (54, none, 0, [(.iload_n 2, []), (.ireturn, [])])])
def pm_X0_countLeft : sm_M := (yX0_countLeft, prog_2_method_11_code, 5, (some .int), 2, 0, 0, [1177, 13, 1], [
  (0, some [0, 1, 2], 1, [(.iconst 0, []), (.istore_n 3, []), (.iconst 0, []), (.istore 4, [])]),
  (5, some [0, 1, 2, 3, 4], 0, [(.iload 4, []), (.iload_n 1, []), (.if_icmp .ge 28, [6, 2])]),
  (11, none, 0, [(.iload_n 2, []), (.ifCond .eq 24, [6, 3])]),
  (15, none, 0, [(.aload_n 0, []), (.getfield 9, [0, 2, 493]), (.iload 4, []), (.iaload, []), (.iload_n 2, []), (.iand, []), (.ifCond .eq 6, [5, 4])]),
  (27, none, 5, [(.iinc 3 1, [])]),
  (30, none, 0, [(.iinc 4 1, []), (.goto (-28), [1])]),
  (36, none, 0, [(.iload_n 3, []), (.ireturn, [])])])
def pm_X0_countStates : sm_M := (yX0_countStates, prog_2_method_9_code, 4, none, 1, 0, 0, [1163, 13, 1], [
  (0, some [0, 1], 0, [(.aload_n 0, []), (.getfield 21, [0, 5, 513]), (.ifCond .eq 4, [2, 1])]),
  (7, none, 0, [(.return_, [])]),
  (8, none, 3, [(.aload_n 0, []), (.iconst 1, []), (.putfield 21, [0, 5, 513]), (.aload_n 0, []), (.getfield 25, [0, 0, 491]), (.getfield 33, [2, 14, 386]), (.bipush 64, []), (.invokestatic 103, [2, 1164, 867]), (.istore_n 2, []), (.iconst 0, []), (.istore_n 3, [])]),
  (28, some [0, 1, 2, 3], 0, [(.iload_n 3, []), (.iload_n 2, []), (.if_icmp .ge 44, [5, 4])]),
  (33, none, 0, [(.aload_n 0, []), (.getfield 25, [0, 0, 491]), (.aload_n 0, []), (.getfield 29, [0, 1, 492]), (.iload_n 3, []), (.invokevirtual 39, [215, 1, 2, 1126, 911, 912, 0]), (.pop, []), (.aload_n 0, []), (.getfield 9, [0, 2, 493]), (.iload_n 3, []), (.iconst 0, []), (.iastore, []), (.aload_n 0, []), (.aload_n 1, []), (.iload_n 3, []), (.iconst 0, []), (.aload_n 0, []), (.getfield 25, [0, 0, 491]), (.getfield 43, [2, 11, 378]), (.iconst (-1), []), (.invokevirtual 111, [10, 1, 0, 1165, 1167, 2831, 0]), (.iinc 3 1, []), (.goto (-43), [3])]),
  (74, none, 6, [(.iconst 0, []), (.istore_n 3, [])]),
  (76, some [0, 1, 2, 3], 0, [(.iload_n 3, []), (.sipush 1024, []), (.if_icmp .ge 25, [8, 7])]),
  (83, none, 0, [(.aload_n 0, []), (.getfield 15, [0, 3, 494]), (.iload_n 3, []), (.aload_n 0, []), (.iload_n 2, []), (.aload_n 1, []), (.iload_n 3, []), (.invokestatic 115, [2, 0, 0, 1171, 1172, 0, 0]), (.invokevirtual 119, [3, 1, 0, 1174, 1176, 3072, 0]), (.iastore, []), (.iinc 3 1, []), (.goto (-26), [6])]),
  (105, none, 0, [(.return_, [])])])
def pm_X0_firstQuestion : sm_M := (yX0_firstQuestion, prog_2_method_8_code, 3, (some .int), 1, 0, 0, [1194, 13, 1], [
  (0, some [0, 1], 1, [(.iconst 0, []), (.istore_n 2, [])]),
  (2, some [0, 1, 2], 0, [(.iload_n 2, []), (.aload_n 1, []), (.getfield 74, [10, 4, 135]), (.if_icmp .ge 35, [6, 2])]),
  (10, none, 0, [(.aload_n 0, []), (.getfield 18, [0, 4, 495]), (.iconst 0, []), (.iaload, []), (.ifCond .le 26, [6, 3])]),
  (19, none, 0, [(.aload_n 0, []), (.iconst 0, []), (.iload_n 2, []), (.invokevirtual 99, [9, 1, 0, 1182, 1184, 3073, 0]), (.aload_n 0, []), (.getfield 18, [0, 4, 495]), (.iconst 0, []), (.iaload, []), (.if_icmp .ne 5, [5, 4])]),
  (34, none, 0, [(.iload_n 2, []), (.ireturn, [])]),
  (36, none, 0, [(.iinc 2 1, []), (.goto (-37), [1])]),
  (42, none, 0, [(.bipush (-2), []), (.ireturn, [])])])
def pm_X0_init : sm_M := (yX0_init, prog_2_method_1_code, 3, none, 2, 3, 2112, [489, 13, 1], [
  (0, some [0, 1, 2], 0, [(.aload_n 0, []), (.invokespecial 3, [490, 24, 25]), (.aload_n 0, []), (.bipush 64, []), (.newarray .int, [0, 56]), (.putfield 9, [0, 2, 493]), (.aload_n 0, []), (.sipush 1024, []), (.newarray .int, [0, 56]), (.putfield 15, [0, 3, 494]), (.aload_n 0, []), (.sipush 1024, []), (.newarray .int, [0, 56]), (.putfield 18, [0, 4, 495]), (.aload_n 0, []), (.iconst 0, []), (.putfield 21, [0, 5, 513]), (.aload_n 0, []), (.aload_n 1, []), (.putfield 25, [0, 0, 491]), (.aload_n 0, []), (.aload_n 2, []), (.putfield 29, [0, 1, 492]), (.return_, [])])])
def pm_X0_isLeft : sm_M := (yX0_isLeft, prog_2_method_4_code, 6, (some .boolean), 5, 0, 0, [1144, 13, 1], [
  (0, some [0, 1, 2, 3, 4, 5], 0, [(.iload_n 2, []), (.aload_n 1, []), (.getfield 74, [10, 4, 135]), (.if_icmp .ge 8, [2, 1])]),
  (8, none, 0, [(.iload_n 2, []), (.iconst 5, []), (.if_icmp .lt 5, [3, 2])]),
  (13, none, 0, [(.iconst 1, []), (.ireturn, [])]),
  (15, none, 0, [(.iload 4, []), (.iload_n 2, []), (.ishr, []), (.iconst 1, []), (.iand, []), (.ifCond .eq 38, [9, 4])]),
  (24, none, 0, [(.aload_n 0, []), (.aload_n 1, []), (.iload_n 2, []), (.iload_n 3, []), (.iconst 0, []), (.invokevirtual 77, [0, 1, 0, 1145, 1147, 2829, 0]), (.ifCond .eq 25, [7, 5])]),
  (35, none, 0, [(.aload_n 0, []), (.aload_n 1, []), (.iload_n 2, []), (.iconst 1, []), (.iadd, []), (.iload_n 3, []), (.iconst 1, []), (.iadd, []), (.iload 4, []), (.iload 5, []), (.invokevirtual 70, [7, 1, 0, 1141, 1143, 2828, 0]), (.ifCond .eq 7, [7, 6])]),
  (53, none, 0, [(.iconst 1, []), (.goto 4, [8])]),
  (57, none, 8, [(.iconst 0, [])]),
  (58, none, 0, [(.ireturn, [])]),
  (59, none, 0, [(.iload 5, []), (.iload_n 2, []), (.ishr, []), (.iconst 1, []), (.iand, []), (.ifCond .ne 17, [11, 10])]),
  (68, none, 0, [(.aload_n 0, []), (.aload_n 1, []), (.iload_n 2, []), (.iconst 1, []), (.iadd, []), (.iload_n 3, []), (.iload 4, []), (.iload 5, []), (.invokevirtual 70, [7, 1, 0, 1141, 1143, 2828, 0]), (.ireturn, [])]),
  (82, none, 0, [(.aload_n 0, []), (.aload_n 1, []), (.iload_n 2, []), (.iload_n 3, []), (.iconst 1, []), (.invokevirtual 77, [0, 1, 0, 1145, 1147, 2829, 0]), (.ifCond .eq 23, [14, 12])]),
  (93, none, 0, [(.aload_n 0, []), (.aload_n 1, []), (.iload_n 2, []), (.iconst 1, []), (.iadd, []), (.iload_n 3, []), (.iconst 1, []), (.iadd, []), (.iload 4, []), (.iload 5, []), (.invokevirtual 70, [7, 1, 0, 1141, 1143, 2828, 0]), (.ifCond .eq 5, [14, 13])]),
  (111, none, 0, [(.iconst 1, []), (.ireturn, [])]),
  (113, some [0, 1, 2, 3, 4, 5], 0, [(.aload_n 0, []), (.aload_n 1, []), (.iload_n 2, []), (.iload_n 3, []), (.iconst 2, []), (.invokevirtual 77, [0, 1, 0, 1145, 1147, 2829, 0]), (.ifCond .eq 25, [17, 15])]),
  (124, none, 0, [(.aload_n 0, []), (.aload_n 1, []), (.iload_n 2, []), (.iconst 1, []), (.iadd, []), (.iload_n 3, []), (.iconst 1, []), (.iadd, []), (.iload 4, []), (.iload 5, []), (.invokevirtual 70, [7, 1, 0, 1141, 1143, 2828, 0]), (.ifCond .eq 7, [17, 16])]),
  (142, none, 0, [(.iconst 1, []), (.goto 4, [18])]),
  (146, none, 18, [(.iconst 0, [])]),
  (147, some [], 0, [(.ireturn, [])])])
def pm_X0_leftWith : sm_M := (yX0_leftWith, prog_2_method_3_code, 6, (some .int), 3, 0, 0, [1140, 13, 1], [
  (0, some [0, 1, 2, 3], 1, [(.iconst 0, []), (.istore 4, []), (.iconst 0, []), (.istore 5, [])]),
  (6, some [0, 1, 2, 3, 4, 5], 0, [(.iload 5, []), (.aload_n 0, []), (.getfield 25, [0, 0, 491]), (.getfield 33, [2, 14, 386]), (.if_icmp .ge 44, [5, 2])]),
  (18, none, 0, [(.aload_n 0, []), (.getfield 25, [0, 0, 491]), (.aload_n 0, []), (.getfield 29, [0, 1, 492]), (.iload 5, []), (.invokevirtual 39, [215, 1, 2, 1126, 911, 912, 0]), (.pop, []), (.aload_n 0, []), (.aload_n 1, []), (.iconst 0, []), (.aload_n 0, []), (.getfield 25, [0, 0, 491]), (.getfield 43, [2, 11, 378]), (.iload_n 2, []), (.iload_n 3, []), (.invokevirtual 70, [7, 1, 0, 1141, 1143, 2828, 0]), (.ifCond .eq 6, [4, 3])]),
  (50, none, 4, [(.iinc 4 1, [])]),
  (53, none, 0, [(.iinc 5 1, []), (.goto (-50), [1])]),
  (59, none, 0, [(.iload 4, []), (.ireturn, [])])])
def pm_X0_neededWith : sm_M := (yX0_neededWith, prog_2_method_7_code, 5, (some .int), 2, 0, 0, [1185, 13, 1], [
  (0, some [0, 1, 2], 0, [(.iconst 1, []), (.iload_n 2, []), (.ishl, []), (.istore_n 3, []), (.iconst 1, []), (.iconst 5, []), (.iload_n 2, []), (.iadd, []), (.ishl, []), (.istore 4, []), (.iload_n 1, []), (.iload_n 3, []), (.iload 4, []), (.ior, []), (.iand, []), (.ifCond .eq 6, [2, 1])]),
  (20, none, 0, [(.bipush 6, []), (.ireturn, [])]),
  (23, none, 0, [(.bipush 6, []), (.iconst 1, []), (.aload_n 0, []), (.getfield 18, [0, 4, 495]), (.iload_n 1, []), (.iload_n 3, []), (.ior, []), (.iaload, []), (.aload_n 0, []), (.getfield 18, [0, 4, 495]), (.iload_n 1, []), (.iload 4, []), (.ior, []), (.iaload, []), (.invokestatic 108, [1, 1186, 870]), (.iadd, []), (.invokestatic 103, [2, 1164, 867]), (.ireturn, [])])])
def pm_X0_spread : sm_M := (yX0_spread, prog_2_method_12_code, 8, none, 5, 0, 0, [1168, 13, 1], [
  (0, some [0, 1, 2, 3, 4, 5], 0, [(.iload 5, []), (.aload_n 0, []), (.getfield 9, [0, 2, 493]), (.iload_n 2, []), (.iaload, []), (.iconst (-1), []), (.ixor, []), (.iand, []), (.ifCond .ne 4, [2, 1])]),
  (14, none, 0, [(.return_, [])]),
  (15, none, 0, [(.iload_n 3, []), (.aload_n 1, []), (.getfield 74, [10, 4, 135]), (.if_icmp .ge 8, [4, 3])]),
  (23, none, 0, [(.iload_n 3, []), (.iconst 5, []), (.if_icmp .lt 15, [5, 4])]),
  (28, none, 0, [(.aload_n 0, []), (.getfield 9, [0, 2, 493]), (.iload_n 2, []), (.dup2, []), (.iaload, []), (.iload 5, []), (.ior, []), (.iastore, []), (.return_, [])]),
  (40, none, 6, [(.iconst 0, []), (.istore 6, [])]),
  (43, some [0, 1, 2, 3, 4, 5, 6], 0, [(.iload 6, []), (.iconst 3, []), (.if_icmp .ge 62, [13, 7])]),
  (49, none, 0, [(.aload_n 0, []), (.aload_n 1, []), (.iload_n 3, []), (.iload 4, []), (.iload 6, []), (.invokevirtual 77, [0, 1, 0, 1145, 1147, 2829, 0]), (.ifCond .eq 43, [12, 8])]),
  (62, none, 0, [(.iload 6, []), (.ifCond .ne 11, [10, 9])]),
  (67, none, 0, [(.getstatic 122, [1003, 1169]), (.iload_n 3, []), (.iaload, []), (.goto 10, [11])]),
  (75, none, 11, [(.getstatic 122, [1003, 1169]), (.iload_n 3, []), (.iaload, []), (.iconst (-1), []), (.ixor, [])]),
  (82, none, 12, [(.istore 7, []), (.aload_n 0, []), (.aload_n 1, []), (.iload_n 2, []), (.iload_n 3, []), (.iconst 1, []), (.iadd, []), (.iload 4, []), (.iconst 1, []), (.iadd, []), (.iload 5, []), (.iload 7, []), (.iand, []), (.invokevirtual 111, [10, 1, 0, 1165, 1167, 2831, 0])]),
  (102, none, 0, [(.iinc 6 1, []), (.goto (-62), [6])]),
  (108, none, 0, [(.return_, [])])])
def pm_X0_workOut : sm_M := (yX0_workOut, prog_2_method_6_code, 6, none, 2, 0, 0, [1181, 13, 1], [
  (0, some [0, 1, 2], 1, [(.sipush 1023, []), (.istore_n 3, [])]),
  (4, some [0, 1, 2, 3], 0, [(.iload_n 3, []), (.ifCond .lt 72, [10, 2])]),
  (8, none, 0, [(.aload_n 0, []), (.getfield 15, [0, 3, 494]), (.iload_n 3, []), (.iaload, []), (.iload_n 2, []), (.if_icmp .gt 7, [4, 3])]),
  (18, none, 0, [(.iconst 0, []), (.goto 5, [5])]),
  (22, none, 5, [(.bipush 6, [])]),
  (24, none, 6, [(.istore 4, []), (.iconst 0, []), (.istore 5, [])]),
  (29, some [0, 1, 2, 3, 4, 5], 0, [(.iload 5, []), (.aload_n 1, []), (.getfield 74, [10, 4, 135]), (.if_icmp .ge 28, [9, 7])]),
  (38, none, 0, [(.iload 4, []), (.ifCond .le 23, [9, 8])]),
  (43, none, 0, [(.iload 4, []), (.aload_n 0, []), (.iload_n 3, []), (.iload 5, []), (.invokevirtual 99, [9, 1, 0, 1182, 1184, 3073, 0]), (.invokestatic 103, [2, 1164, 867]), (.istore 4, []), (.iinc 5 1, []), (.goto (-31), [6])]),
  (63, none, 0, [(.aload_n 0, []), (.getfield 18, [0, 4, 495]), (.iload_n 3, []), (.iload 4, []), (.iastore, []), (.iinc 3 (-1), []), (.goto (-70), [1])]),
  (77, none, 0, [(.return_, [])])])
def pm_X10_addPath : sm_M := (yX10_addPath, prog_12_method_8_code, 6, none, 3, 0, 0, [710, 5, 1], [
  (0, some [0, 1, 2, 3], 0, [(.iload_n 1, []), (.bipush 6, []), (.imul, []), (.iload_n 2, []), (.iadd, []), (.istore 4, []), (.aload_n 0, []), (.getfield 9, [10, 7, 145]), (.iload 4, []), (.iaload, []), (.istore 5, []), (.iload 5, []), (.ifCond .lt 9, [2, 1])]),
  (22, none, 0, [(.iload_n 3, []), (.iload 5, []), (.if_icmp .ge 23, [3, 2])]),
  (28, none, 3, [(.aload_n 0, []), (.getfield 9, [10, 7, 145]), (.iload 4, []), (.iload_n 3, []), (.iastore, []), (.aload_n 0, []), (.getfield 9, [10, 7, 145]), (.iload_n 2, []), (.bipush 6, []), (.imul, []), (.iload_n 1, []), (.iadd, []), (.iload_n 3, []), (.iastore, [])]),
  (48, none, 0, [(.return_, [])])])
def pm_X10_allBits : sm_M := (yX10_allBits, prog_12_method_3_code, 1, (some .int), 0, 0, 0, [809, 5, 1], [
  (0, some [0], 0, [(.iconst 1, []), (.aload_n 0, []), (.getfield 67, [10, 3, 130]), (.ishl, []), (.iconst 1, []), (.isub, []), (.ireturn, [])])])
def pm_X10_clear : sm_M := (yX10_clear, prog_12_method_2_code, 2, none, 0, 0, 0, [116, 5, 1], [
  (0, some [0], 1, [(.aload_n 0, []), (.iconst 0, []), (.putfield 57, [10, 0, 120]), (.aload_n 0, []), (.iconst 0, []), (.putfield 61, [10, 1, 123]), (.aload_n 0, []), (.iconst 0, []), (.putfield 64, [10, 2, 126]), (.aload_n 0, []), (.iconst 0, []), (.putfield 67, [10, 3, 130]), (.aload_n 0, []), (.iconst 0, []), (.putfield 70, [10, 4, 134]), (.aload_n 0, []), (.iconst 0, []), (.putfield 73, [10, 5, 138]), (.aload_n 0, []), (.iconst 0, []), (.putfield 76, [10, 6, 142]), (.aload_n 0, []), (.getfield 9, [10, 7, 145]), (.bipush (-2), []), (.invokestatic 79, [299, 0, 0, 117, 118, 0, 0]), (.iconst 0, []), (.istore_n 1, [])]),
  (46, some [0, 1], 0, [(.iload_n 1, []), (.bipush 6, []), (.if_icmp .ge 21, [3, 2])]),
  (52, none, 0, [(.aload_n 0, []), (.getfield 9, [10, 7, 145]), (.iload_n 1, []), (.bipush 6, []), (.imul, []), (.iload_n 1, []), (.iadd, []), (.iconst 0, []), (.iastore, []), (.iinc 1 1, []), (.goto (-21), [1])]),
  (70, none, 0, [(.aload_n 0, []), (.getfield 15, [10, 8, 146]), (.iconst (-1), []), (.invokestatic 79, [299, 0, 0, 117, 118, 0, 0]), (.aload_n 0, []), (.getfield 18, [10, 9, 150]), (.iconst (-1), []), (.invokestatic 79, [299, 0, 0, 117, 118, 0, 0]), (.aload_n 0, []), (.getfield 26, [10, 10, 154]), (.getfield 85, [8, 1, 94]), (.iconst (-1), []), (.invokestatic 79, [299, 0, 0, 117, 118, 0, 0]), (.aload_n 0, []), (.getfield 30, [10, 11, 158]), (.iconst 1, []), (.invokestatic 79, [299, 0, 0, 117, 118, 0, 0]), (.aload_n 0, []), (.getfield 33, [10, 12, 160]), (.iconst 0, []), (.invokestatic 79, [299, 0, 0, 117, 118, 0, 0]), (.aload_n 0, []), (.getfield 36, [10, 13, 164]), (.iconst 0, []), (.invokestatic 79, [299, 0, 0, 117, 118, 0, 0]), (.return_, [])])])
def pm_X10_findMoves : sm_M := (yX10_findMoves, prog_12_method_10_code, 4, none, 0, 0, 0, [743, 5, 1], [
  (0, some [0], 1, [(.aload_n 0, []), (.iconst 0, []), (.putfield 73, [10, 5, 138]), (.iconst 0, []), (.istore_n 1, [])]),
  (7, some [0, 1], 0, [(.iload_n 1, []), (.aload_n 0, []), (.getfield 64, [10, 2, 126]), (.if_icmp .ge 141, [14, 2])]),
  (15, none, 3, [(.iload_n 1, []), (.iconst 1, []), (.iadd, []), (.istore_n 2, [])]),
  (19, some [0, 1, 2], 0, [(.iload_n 2, []), (.aload_n 0, []), (.getfield 64, [10, 2, 126]), (.if_icmp .ge 123, [13, 4])]),
  (27, none, 0, [(.aload_n 0, []), (.getfield 15, [10, 8, 146]), (.iload_n 1, []), (.iaload, []), (.iconst (-1), []), (.if_icmp .eq 22, [7, 5])]),
  (37, none, 0, [(.aload_n 0, []), (.getfield 15, [10, 8, 146]), (.iload_n 1, []), (.iaload, []), (.aload_n 0, []), (.getfield 15, [10, 8, 146]), (.iload_n 2, []), (.iaload, []), (.if_icmp .ne 7, [7, 6])]),
  (52, none, 0, [(.iconst 1, []), (.goto 4, [8])]),
  (56, none, 8, [(.iconst 0, [])]),
  (57, some [0, 1, 2], 0, [(.istore_n 3, []), (.iload_n 3, []), (.ifCond .eq 82, [12, 9])]),
  (62, none, 0, [(.aload_n 0, []), (.getfield 18, [10, 9, 150]), (.iload_n 1, []), (.iaload, []), (.aload_n 0, []), (.getfield 18, [10, 9, 150]), (.iload_n 2, []), (.iaload, []), (.if_icmp .eq 67, [12, 10])]),
  (77, none, 0, [(.aload_n 0, []), (.getfield 73, [10, 5, 138]), (.bipush 45, []), (.if_icmp .ge 58, [12, 11])]),
  (86, none, 12, [(.aload_n 0, []), (.getfield 45, [10, 16, 173]), (.aload_n 0, []), (.getfield 73, [10, 5, 138]), (.iload_n 1, []), (.iastore, []), (.aload_n 0, []), (.getfield 48, [10, 17, 176]), (.aload_n 0, []), (.getfield 73, [10, 5, 138]), (.iload_n 2, []), (.iastore, []), (.aload_n 0, []), (.getfield 51, [10, 18, 179]), (.aload_n 0, []), (.getfield 73, [10, 5, 138]), (.aload_n 0, []), (.aload_n 0, []), (.getfield 18, [10, 9, 150]), (.iload_n 1, []), (.iaload, []), (.aload_n 0, []), (.getfield 18, [10, 9, 150]), (.iload_n 2, []), (.iaload, []), (.invokevirtual 88, [21, 1, 10, 735, 736, 737, 0]), (.iastore, []), (.aload_n 0, []), (.dup, []), (.getfield 73, [10, 5, 138]), (.iconst 1, []), (.iadd, []), (.putfield 73, [10, 5, 138])]),
  (141, some [0, 1, 2], 0, [(.iinc 2 1, []), (.goto (-125), [3])]),
  (147, none, 0, [(.iinc 1 1, []), (.goto (-143), [1])]),
  (153, none, 0, [(.return_, [])])])
def pm_X10_findWalks : sm_M := (yX10_findWalks, prog_12_method_9_code, 6, none, 0, 0, 0, [734, 5, 1], [
  (0, some [0], 1, [(.iconst 0, []), (.istore_n 1, [])]),
  (2, some [0, 1], 0, [(.iload_n 1, []), (.aload_n 0, []), (.getfield 61, [10, 1, 123]), (.if_icmp .ge 75, [12, 2])]),
  (10, none, 3, [(.iconst 0, []), (.istore_n 2, [])]),
  (12, some [0, 1, 2], 0, [(.iload_n 2, []), (.aload_n 0, []), (.getfield 61, [10, 1, 123]), (.if_icmp .ge 59, [11, 4])]),
  (20, none, 5, [(.iconst 0, []), (.istore_n 3, [])]),
  (22, some [0, 1, 2, 3], 0, [(.iload_n 3, []), (.iload_n 2, []), (.if_icmp .ge 46, [10, 6])]),
  (27, none, 0, [(.aload_n 0, []), (.iload_n 2, []), (.iload_n 1, []), (.invokevirtual 88, [21, 1, 10, 735, 736, 737, 0]), (.istore 4, []), (.aload_n 0, []), (.iload_n 1, []), (.iload_n 3, []), (.invokevirtual 88, [21, 1, 10, 735, 736, 737, 0]), (.istore 5, []), (.iload 4, []), (.ifCond .lt 19, [9, 7])]),
  (48, none, 0, [(.iload 5, []), (.ifCond .lt 14, [9, 8])]),
  (53, none, 9, [(.aload_n 0, []), (.iload_n 2, []), (.iload_n 3, []), (.iload 4, []), (.iload 5, []), (.iadd, []), (.invokevirtual 92, [12, 1, 10, 739, 708, 709, 0])]),
  (64, none, 0, [(.iinc 3 1, []), (.goto (-45), [5])]),
  (70, none, 0, [(.iinc 2 1, []), (.goto (-61), [3])]),
  (76, none, 0, [(.iinc 1 1, []), (.goto (-77), [1])]),
  (82, none, 0, [(.return_, [])])])
def pm_X10_firstSpan : sm_M := (yX10_firstSpan, prog_12_method_4_code, 3, (some .int), 2, 0, 0, [726, 5, 1], [
  (0, some [1, 2], 0, [(.iload_n 1, []), (.iconst 4, []), (.imul, []), (.iload_n 2, []), (.iadd, []), (.iconst 3, []), (.imul, []), (.ireturn, [])])])
def pm_X10_init : sm_M := (yX10_init, prog_12_method_1_code, 1, none, 0, 24, 803, [81, 5, 1], [
  (0, some [0], 1, [(.aload_n 0, []), (.invokespecial 3, [82, 24, 25]), (.aload_n 0, []), (.bipush 36, []), (.newarray .int, [0, 56]), (.putfield 9, [10, 7, 145]), (.aload_n 0, []), (.bipush 10, []), (.newarray .int, [0, 56]), (.putfield 15, [10, 8, 146]), (.aload_n 0, []), (.bipush 10, []), (.newarray .int, [0, 56]), (.putfield 18, [10, 9, 150]), (.aload_n 0, []), (.new 21, [8, 83, 84, 6]), (.dup, []), (.bipush 10, []), (.invokespecial 23, [284, 1, 8, 85, 86, 0, 0]), (.putfield 26, [10, 10, 154]), (.aload_n 0, []), (.bipush 10, []), (.newarray .int, [0, 56]), (.putfield 30, [10, 11, 158]), (.aload_n 0, []), (.bipush 10, []), (.newarray .int, [0, 56]), (.putfield 33, [10, 12, 160]), (.aload_n 0, []), (.bipush 40, []), (.newarray .int, [0, 56]), (.putfield 36, [10, 13, 164]), (.aload_n 0, []), (.new 21, [8, 83, 84, 6]), (.dup, []), (.bipush 120, []), (.invokespecial 23, [285, 1, 8, 85, 86, 0, 0]), (.putfield 39, [10, 14, 166]), (.aload_n 0, []), (.new 21, [8, 83, 84, 6])]),
  (82, none, 0, [(.dup, []), (.iconst 5, []), (.invokespecial 23, [282, 1, 8, 85, 86, 0, 0]), (.putfield 42, [10, 15, 170]), (.aload_n 0, []), (.bipush 45, []), (.newarray .int, [0, 56]), (.putfield 45, [10, 16, 173]), (.aload_n 0, []), (.bipush 45, []), (.newarray .int, [0, 56]), (.putfield 48, [10, 17, 176]), (.aload_n 0, []), (.bipush 45, []), (.newarray .int, [0, 56]), (.putfield 51, [10, 18, 179]), (.aload_n 0, []), (.invokevirtual 54, [14, 1, 10, 113, 114, 115, 0]), (.return_, [])])])
def pm_X10_partsOf : sm_M := (yX10_partsOf, prog_12_method_5_code, 3, (some .int), 2, 0, 0, [730, 5, 1], [
  (0, some [0, 1, 2], 0, [(.aload_n 0, []), (.getfield 36, [10, 13, 164]), (.iload_n 1, []), (.iconst 4, []), (.imul, []), (.iload_n 2, []), (.iadd, []), (.iaload, []), (.ireturn, [])])])
def pm_X10_trustOf : sm_M := (yX10_trustOf, prog_12_method_7_code, 4, (some .int), 1, 0, 0, [1060, 5, 1], [
  (0, some [0, 1], 1, [(.iconst 0, []), (.istore_n 2, []), (.iconst 0, []), (.istore_n 3, [])]),
  (4, some [0, 1, 2, 3], 0, [(.iload_n 3, []), (.aload_n 0, []), (.getfield 67, [10, 3, 130]), (.if_icmp .ge 24, [3, 2])]),
  (12, none, 0, [(.iload_n 2, []), (.iload_n 1, []), (.iload_n 3, []), (.ishr, []), (.iconst 1, []), (.iand, []), (.aload_n 0, []), (.getfield 30, [10, 11, 158]), (.iload_n 3, []), (.iaload, []), (.imul, []), (.iadd, []), (.istore_n 2, []), (.iinc 3 1, []), (.goto (-26), [1])]),
  (33, none, 0, [(.iload_n 2, []), (.ireturn, [])])])
def pm_X10_walkBetween : sm_M := (yX10_walkBetween, prog_12_method_6_code, 3, (some .int), 2, 0, 0, [738, 5, 1], [
  (0, some [0, 1, 2], 0, [(.iload_n 1, []), (.ifCond .lt 19, [4, 1])]),
  (4, none, 0, [(.iload_n 1, []), (.bipush 6, []), (.if_icmp .ge 13, [4, 2])]),
  (10, none, 0, [(.iload_n 2, []), (.ifCond .lt 9, [4, 3])]),
  (14, none, 0, [(.iload_n 2, []), (.bipush 6, []), (.if_icmp .lt 6, [5, 4])]),
  (20, none, 0, [(.bipush (-2), []), (.ireturn, [])]),
  (23, none, 0, [(.aload_n 0, []), (.getfield 9, [10, 7, 145]), (.iload_n 1, []), (.bipush 6, []), (.imul, []), (.iload_n 2, []), (.iadd, []), (.iaload, []), (.ireturn, [])])])
def pm_X11_alone : sm_M := (yX11_alone, prog_1_method_58_code, 2, (some .int), 1, 0, 0, [1255, 1, 1], [
  (0, some [0, 1], 0, [(.aload_n 0, []), (.iload_n 1, []), (.invokevirtual 114, [55, 1, 11, 777, 779, 2564, 0]), (.ifCond .eq 11, [2, 1])]),
  (8, none, 0, [(.aload_n 0, []), (.iload_n 1, []), (.invokevirtual 195, [49, 1, 11, 918, 920, 2818, 0]), (.ifCond .eq 5, [3, 2])]),
  (16, none, 0, [(.iconst (-1), []), (.ireturn, [])]),
  (18, none, 0, [(.aload_n 0, []), (.iconst 1, []), (.iload_n 1, []), (.ishl, []), (.invokevirtual 363, [60, 1, 11, 1244, 1246, 3075, 0]), (.ireturn, [])])])
def pm_X11_ask : sm_M := (yX11_ask, prog_1_method_44_code, 3, (some .int), 2, 0, 0, [1121, 1, 1], [
  (0, some [0, 1, 2], 0, [(.iload_n 1, []), (.ifCond .lt 14, [2, 1])]),
  (4, none, 0, [(.iload_n 1, []), (.aload_n 0, []), (.getfield 37, [11, 9, 537]), (.getfield 293, [10, 4, 137]), (.if_icmp .lt 5, [3, 2])]),
  (15, none, 0, [(.iconst (-1), []), (.ireturn, [])]),
  (17, none, 0, [(.aload_n 0, []), (.invokevirtual 177, [50, 1, 11, 802, 804, 2567, 0]), (.ifCond .eq 19, [5, 4])]),
  (24, none, 0, [(.aload_n 0, []), (.getfield 84, [11, 8, 536]), (.aload_n 0, []), (.getfield 37, [11, 9, 537]), (.iload_n 1, []), (.iload_n 2, []), (.invokevirtual 296, [1, 1, 0, 1122, 1123, 1124, 0]), (.goto 5, [6])]),
  (40, none, 6, [(.bipush (-3), [])]),
  (42, none, 0, [(.ireturn, [])])])
def pm_X11_back : sm_M := (yX11_back, prog_1_method_4_code, 2, (some .int), 1, 0, 0, [582, 1, 1], [
  (0, some [0, 1], 0, [(.iload_n 1, []), (.ifCond .lt 11, [2, 1])]),
  (4, none, 0, [(.iload_n 1, []), (.aload_n 0, []), (.getfield 41, [11, 10, 538]), (.if_icmp .le 5, [3, 2])]),
  (12, none, 0, [(.iconst (-1), []), (.ireturn, [])]),
  (14, none, 0, [(.aload_n 0, []), (.dup, []), (.getfield 41, [11, 10, 538]), (.iload_n 1, []), (.isub, []), (.putfield 41, [11, 10, 538]), (.aload_n 0, []), (.getfield 41, [11, 10, 538]), (.ireturn, [])])])
def pm_X11_bears : sm_M := (yX11_bears, prog_1_method_29_code, 7, (some .int), 1, 0, 0, [970, 1, 1], [
  (0, some [0, 1], 0, [(.aload_n 0, []), (.iload_n 1, []), (.invokevirtual 128, [56, 1, 11, 781, 783, 2565, 0]), (.ifCond .ne 5, [2, 1])]),
  (8, none, 0, [(.iconst (-1), []), (.ireturn, [])]),
  (10, none, 3, [(.bipush (-2), []), (.istore_n 2, []), (.aload_n 0, []), (.getfield 37, [11, 9, 537]), (.getfield 218, [10, 12, 163]), (.iload_n 1, []), (.iaload, []), (.iconst 1, []), (.isub, []), (.istore_n 3, [])]),
  (25, some [0, 1, 2, 3], 0, [(.iload_n 3, []), (.ifCond .lt 116, [16, 4])]),
  (29, none, 5, [(.aload_n 0, []), (.getfield 37, [11, 9, 537]), (.iload_n 1, []), (.iload_n 3, []), (.invokevirtual 221, [17, 1, 10, 971, 724, 725, 0]), (.istore 4, []), (.iconst 1, []), (.istore 5, []), (.iload 4, []), (.istore 6, [])]),
  (47, some [0, 1, 2, 3, 4, 5, 6], 0, [(.iload 6, []), (.iload 4, []), (.aload_n 0, []), (.getfield 37, [11, 9, 537]), (.iload_n 1, []), (.iload_n 3, []), (.invokevirtual 224, [19, 1, 10, 972, 728, 729, 0]), (.iadd, []), (.if_icmp .ge 68, [13, 6])]),
  (64, none, 0, [(.aload_n 0, []), (.getfield 37, [11, 9, 537]), (.getfield 227, [10, 14, 169]), (.iload 6, []), (.aload_n 0, []), (.getfield 23, [11, 2, 530]), (.getfield 215, [4, 2, 298]), (.invokevirtual 231, [286, 1, 8, 973, 974, 975, 0]), (.ifCond .ne 6, [8, 7])]),
  (86, none, 0, [(.bipush (-4), []), (.ireturn, [])]),
  (89, none, 0, [(.iload 5, []), (.ifCond .eq 29, [11, 9])]),
  (94, none, 0, [(.aload_n 0, []), (.getfield 37, [11, 9, 537]), (.getfield 227, [10, 14, 169]), (.iload 6, []), (.aload_n 0, []), (.getfield 23, [11, 2, 530]), (.getfield 215, [4, 2, 298]), (.invokevirtual 237, [281, 1, 8, 977, 978, 979, 0]), (.ifCond .eq 7, [11, 10])]),
  (116, none, 0, [(.iconst 1, []), (.goto 4, [12])]),
  (120, none, 12, [(.iconst 0, [])]),
  (121, none, 0, [(.istore 5, []), (.iinc 6 1, []), (.goto (-79), [5])]),
  (129, none, 0, [(.iload 5, []), (.ifCond .eq 5, [15, 14])]),
  (134, none, 15, [(.iload_n 3, []), (.istore_n 2, [])]),
  (136, none, 0, [(.iinc 3 (-1), []), (.goto (-114), [3])]),
  (142, none, 0, [(.iload_n 2, []), (.ireturn, [])])])
def pm_X11_been : sm_M := (yX11_been, prog_1_method_43_code, 4, (some .int), 3, 0, 0, [1117, 1, 1], [
  (0, some [0, 1, 2, 3], 0, [(.aload_n 0, []), (.iload_n 1, []), (.invokevirtual 277, [53, 1, 11, 1102, 1104, 2826, 0]), (.ifCond .eq 11, [2, 1])]),
  (8, none, 0, [(.aload_n 0, []), (.iload_n 2, []), (.invokevirtual 143, [54, 1, 11, 789, 791, 2566, 0]), (.ifCond .ne 5, [3, 2])]),
  (16, none, 0, [(.iconst (-1), []), (.ireturn, [])]),
  (18, none, 0, [(.aload_n 0, []), (.iload_n 1, []), (.iload_n 2, []), (.iconst 0, []), (.sipush 1440, []), (.invokevirtual 280, [44, 1, 11, 1106, 1108, 2827, 0]), (.aload_n 0, []), (.getfield 67, [11, 6, 534]), (.getfield 174, [2, 15, 391]), (.ifCond .eq 6, [5, 4])]),
  (38, none, 0, [(.bipush (-3), []), (.ireturn, [])]),
  (41, none, 0, [(.aload_n 0, []), (.getfield 67, [11, 6, 534]), (.getfield 181, [2, 14, 388]), (.ifCond .ne 6, [7, 6])]),
  (51, none, 0, [(.bipush (-2), []), (.ireturn, [])]),
  (54, none, 0, [(.iload_n 3, []), (.ifCond .eq 13, [9, 8])]),
  (58, none, 0, [(.aload_n 0, []), (.getfield 67, [11, 6, 534]), (.getfield 287, [2, 17, 395]), (.goto 10, [10])]),
  (68, none, 10, [(.aload_n 0, []), (.getfield 67, [11, 6, 534]), (.getfield 290, [2, 16, 393])]),
  (75, none, 0, [(.ireturn, [])])])
def pm_X11_breaks : sm_M := (yX11_breaks, prog_1_method_30_code, 5, (some .int), 0, 0, 0, [984, 1, 1], [
  (0, some [0], 1, [(.iconst 0, []), (.istore_n 1, [])]),
  (2, some [0, 1], 0, [(.iload_n 1, []), (.aload_n 0, []), (.getfield 37, [11, 9, 537]), (.getfield 150, [10, 5, 140]), (.if_icmp .ge 87, [9, 2])]),
  (13, none, 0, [(.aload_n 0, []), (.getfield 23, [11, 2, 530]), (.getfield 215, [4, 2, 298]), (.aload_n 0, []), (.getfield 37, [11, 9, 537]), (.getfield 153, [10, 16, 175]), (.iload_n 1, []), (.iaload, []), (.iaload, []), (.istore_n 2, []), (.aload_n 0, []), (.getfield 23, [11, 2, 530]), (.getfield 215, [4, 2, 298]), (.aload_n 0, []), (.getfield 37, [11, 9, 537]), (.getfield 156, [10, 17, 178]), (.iload_n 1, []), (.iaload, []), (.iaload, []), (.istore_n 3, []), (.aload_n 0, []), (.getfield 37, [11, 9, 537]), (.getfield 159, [10, 18, 181]), (.iload_n 1, []), (.iaload, []), (.istore 4, []), (.iload_n 2, []), (.iconst (-1), []), (.if_icmp .eq 29, [8, 3])]),
  (65, none, 0, [(.iload_n 3, []), (.iconst (-1), []), (.if_icmp .ne 6, [5, 4])]),
  (70, none, 0, [(.goto 21, [8])]),
  (73, none, 0, [(.iload 4, []), (.ifCond .lt 14, [7, 6])]),
  (78, none, 0, [(.iload_n 3, []), (.iload_n 2, []), (.isub, []), (.invokestatic 240, [3, 985, 986]), (.iload 4, []), (.if_icmp .ge 5, [8, 7])]),
  (89, none, 0, [(.iload_n 1, []), (.ireturn, [])]),
  (91, none, 0, [(.iinc 1 1, []), (.goto (-92), [1])]),
  (97, none, 0, [(.bipush (-2), []), (.ireturn, [])])])
def pm_X11_can : sm_M := (yX11_can, prog_1_method_26_code, 6, (some .int), 2, 0, 0, [955, 1, 1], [
  (0, some [0, 1, 2], 0, [(.aload_n 0, []), (.iload_n 1, []), (.invokevirtual 201, [57, 1, 11, 931, 933, 2819, 0]), (.ifCond .eq 10, [2, 1])]),
  (8, none, 0, [(.iload_n 2, []), (.invokestatic 212, [52, 0, 0, 956, 957, 0, 0]), (.ifCond .ne 5, [3, 2])]),
  (15, none, 0, [(.iconst (-1), []), (.ireturn, [])]),
  (17, none, 0, [(.aload_n 0, []), (.invokevirtual 177, [50, 1, 11, 802, 804, 2567, 0]), (.ifCond .ne 6, [5, 4])]),
  (24, none, 0, [(.bipush (-3), []), (.ireturn, [])]),
  (27, none, 6, [(.iconst 0, []), (.istore_n 3, []), (.iconst 0, []), (.istore 4, [])]),
  (32, some [0, 1, 2, 3, 4], 0, [(.iload 4, []), (.aload_n 0, []), (.getfield 60, [11, 4, 532]), (.getfield 181, [2, 14, 388]), (.if_icmp .ge 50, [11, 7])]),
  (44, none, 0, [(.aload_n 0, []), (.iload 4, []), (.invokevirtual 191, [62, 1, 11, 906, 908, 2817, 0]), (.istore 5, []), (.aload_n 0, []), (.getfield 60, [11, 4, 532]), (.iload 5, []), (.iload_n 1, []), (.iconst 0, []), (.invokevirtual 204, [224, 1, 2, 935, 936, 937, 0]), (.iload_n 2, []), (.if_icmp .gt 21, [10, 8])]),
  (67, none, 0, [(.iload_n 2, []), (.aload_n 0, []), (.getfield 60, [11, 4, 532]), (.iload 5, []), (.iload_n 1, []), (.iconst 1, []), (.invokevirtual 204, [224, 1, 2, 935, 936, 937, 0]), (.if_icmp .gt 6, [10, 9])]),
  (82, none, 10, [(.iinc 3 1, [])]),
  (85, none, 0, [(.iinc 4 1, []), (.goto (-56), [6])]),
  (91, none, 0, [(.iload_n 3, []), (.ireturn, [])])])
def pm_X11_cheapest : sm_M := (yX11_cheapest, prog_1_method_35_code, 2, (some .int), 0, 0, 0, [1052, 1, 1], [
  (0, some [0], 0, [(.aload_n 0, []), (.getfield 75, [11, 7, 535]), (.aload_n 0, []), (.getfield 37, [11, 9, 537]), (.aload_n 0, []), (.getfield 23, [11, 2, 530]), (.invokevirtual 245, [255, 1, 6, 992, 993, 994, 0]), (.ifCond .ne 6, [2, 1])]),
  (18, none, 0, [(.bipush (-3), []), (.ireturn, [])]),
  (21, none, 0, [(.aload_n 0, []), (.getfield 75, [11, 7, 535]), (.aload_n 0, []), (.getfield 37, [11, 9, 537]), (.invokevirtual 261, [250, 1, 6, 1053, 1054, 1055, 0]), (.istore_n 1, []), (.iload_n 1, []), (.ifCond .ge 8, [4, 3])]),
  (37, none, 0, [(.bipush (-2), []), (.goto 12, [5])]),
  (42, none, 5, [(.aload_n 0, []), (.getfield 75, [11, 7, 535]), (.getfield 258, [6, 3, 444]), (.iload_n 1, []), (.iaload, [])]),
  (51, none, 0, [(.ireturn, [])])])
def pm_X11_choice : sm_M := (yX11_choice, prog_1_method_21_code, 4, (some .int), 2, 0, 0, [905, 1, 1], [
  (0, some [0, 1, 2], 0, [(.aload_n 0, []), (.iload_n 2, []), (.invokevirtual 128, [56, 1, 11, 781, 783, 2565, 0]), (.ifCond .ne 5, [2, 1])]),
  (8, none, 0, [(.iconst (-1), []), (.ireturn, [])]),
  (10, none, 0, [(.aload_n 0, []), (.iload_n 1, []), (.invokevirtual 191, [62, 1, 11, 906, 908, 2817, 0]), (.istore_n 3, []), (.iload_n 3, []), (.ifCond .ge 5, [4, 3])]),
  (20, none, 0, [(.iload_n 3, []), (.ireturn, [])]),
  (22, none, 0, [(.aload_n 0, []), (.iload_n 2, []), (.invokevirtual 195, [49, 1, 11, 918, 920, 2818, 0]), (.ifCond .eq 8, [6, 5])]),
  (30, none, 0, [(.bipush (-2), []), (.goto 12, [7])]),
  (35, none, 7, [(.aload_n 0, []), (.getfield 30, [11, 3, 531]), (.iload_n 1, []), (.iload_n 2, []), (.invokevirtual 198, [209, 1, 1, 922, 915, 916, 0])]),
  (44, none, 0, [(.ireturn, [])])])
def pm_X11_could : sm_M := (yX11_could, prog_1_method_41_code, 5, (some .int), 4, 0, 0, [1101, 1, 1], [
  (0, some [0, 1, 2, 3, 4], 0, [(.aload_n 0, []), (.iload_n 1, []), (.invokevirtual 277, [53, 1, 11, 1102, 1104, 2826, 0]), (.ifCond .eq 26, [4, 1])]),
  (8, none, 0, [(.aload_n 0, []), (.iload_n 2, []), (.invokevirtual 143, [54, 1, 11, 789, 791, 2566, 0]), (.ifCond .eq 18, [4, 2])]),
  (16, none, 0, [(.iload_n 3, []), (.invokestatic 212, [52, 0, 0, 956, 957, 0, 0]), (.ifCond .eq 11, [4, 3])]),
  (23, none, 0, [(.iload 4, []), (.invokestatic 212, [52, 0, 0, 956, 957, 0, 0]), (.ifCond .ne 5, [5, 4])]),
  (31, none, 0, [(.iconst (-1), []), (.ireturn, [])]),
  (33, none, 0, [(.iload_n 3, []), (.iload 4, []), (.if_icmp .le 5, [7, 6])]),
  (39, none, 0, [(.iconst 0, []), (.ireturn, [])]),
  (41, none, 0, [(.aload_n 0, []), (.iload_n 1, []), (.iload_n 2, []), (.iload_n 3, []), (.iload 4, []), (.invokevirtual 280, [44, 1, 11, 1106, 1108, 2827, 0]), (.aload_n 0, []), (.getfield 67, [11, 6, 534]), (.getfield 174, [2, 15, 391]), (.ifCond .eq 6, [9, 8])]),
  (60, none, 0, [(.bipush (-3), []), (.ireturn, [])]),
  (63, none, 0, [(.aload_n 0, []), (.getfield 67, [11, 6, 534]), (.getfield 181, [2, 14, 388]), (.ifCond .le 7, [11, 10])]),
  (73, none, 0, [(.iconst 1, []), (.goto 4, [12])]),
  (77, none, 12, [(.iconst 0, [])]),
  (78, none, 0, [(.ireturn, [])])])
def pm_X11_count : sm_M := (yX11_count, prog_1_method_64_code, 2, (some .int), 1, 0, 0, [1291, 1, 1], [
  (0, some [0, 1], 0, [(.iload_n 1, []), (.tableswitch 113 0 7 #[47, 55, 63, 71, 79, 87, 95, 108], [9, 1, 2, 3, 4, 5, 6, 7, 8])]),
  (48, none, 0, [(.aload_n 0, []), (.getfield 37, [11, 9, 537]), (.getfield 140, [10, 0, 122]), (.ireturn, [])]),
  (56, none, 0, [(.aload_n 0, []), (.getfield 37, [11, 9, 537]), (.getfield 137, [10, 1, 125]), (.ireturn, [])]),
  (64, none, 0, [(.aload_n 0, []), (.getfield 37, [11, 9, 537]), (.getfield 134, [10, 2, 129]), (.ireturn, [])]),
  (72, none, 0, [(.aload_n 0, []), (.getfield 37, [11, 9, 537]), (.getfield 125, [10, 3, 133]), (.ireturn, [])]),
  (80, none, 0, [(.aload_n 0, []), (.getfield 37, [11, 9, 537]), (.getfield 293, [10, 4, 137]), (.ireturn, [])]),
  (88, none, 0, [(.aload_n 0, []), (.getfield 37, [11, 9, 537]), (.getfield 150, [10, 5, 140]), (.ireturn, [])]),
  (96, none, 0, [(.aload_n 0, []), (.invokevirtual 177, [50, 1, 11, 802, 804, 2567, 0]), (.pop, []), (.aload_n 0, []), (.getfield 60, [11, 4, 532]), (.getfield 340, [2, 13, 384]), (.ireturn, [])]),
  (109, none, 0, [(.aload_n 0, []), (.getfield 41, [11, 10, 538]), (.ireturn, [])]),
  (114, none, 0, [(.iload_n 1, []), (.bipush 10, []), (.if_icmp .lt 29, [12, 10])]),
  (120, none, 0, [(.aload_n 0, []), (.iload_n 1, []), (.bipush 10, []), (.isub, []), (.invokevirtual 128, [56, 1, 11, 781, 783, 2565, 0]), (.ifCond .eq 18, [12, 11])]),
  (131, none, 0, [(.aload_n 0, []), (.getfield 37, [11, 9, 537]), (.getfield 218, [10, 12, 163]), (.iload_n 1, []), (.bipush 10, []), (.isub, []), (.iaload, []), (.goto 4, [13])]),
  (146, none, 13, [(.iconst (-1), [])]),
  (147, none, 0, [(.ireturn, [])])])
def pm_X11_doubt : sm_M := (yX11_doubt, prog_1_method_8_code, 4, (some .boolean), 2, 0, 0, [776, 1, 1], [
  (0, some [0, 1, 2], 0, [(.aload_n 0, []), (.iload_n 1, []), (.invokevirtual 114, [55, 1, 11, 777, 779, 2564, 0]), (.ifCond .ne 5, [2, 1])]),
  (8, none, 0, [(.iconst 0, []), (.ireturn, [])]),
  (10, none, 0, [(.iconst 1, []), (.iload_n 1, []), (.ishl, []), (.istore_n 3, []), (.iload_n 2, []), (.ifCond .eq 29, [4, 3])]),
  (18, none, 0, [(.aload_n 0, []), (.getfield 23, [11, 2, 530]), (.dup, []), (.getfield 118, [4, 0, 293]), (.iload_n 3, []), (.ior, []), (.putfield 118, [4, 0, 293]), (.aload_n 0, []), (.getfield 23, [11, 2, 530]), (.getfield 121, [4, 3, 301]), (.iload_n 1, []), (.iconst (-1), []), (.iastore, []), (.goto 18, [5])]),
  (44, none, 5, [(.aload_n 0, []), (.getfield 23, [11, 2, 530]), (.dup, []), (.getfield 118, [4, 0, 293]), (.iload_n 3, []), (.iconst (-1), []), (.ixor, []), (.iand, []), (.putfield 118, [4, 0, 293])]),
  (59, none, 0, [(.aload_n 0, []), (.invokevirtual 104, [80, 1, 11, 749, 751, 2563, 0]), (.iconst 1, []), (.ireturn, [])])])
def pm_X11_drawn : sm_M := (yX11_drawn, prog_1_method_55_code, 5, (some .int), 3, 0, 0, [1235, 1, 1], [
  (0, some [0, 1, 2, 3], 0, [(.aload_n 0, []), (.iload_n 2, []), (.invokevirtual 277, [53, 1, 11, 1102, 1104, 2826, 0]), (.ifCond .eq 10, [2, 1])]),
  (8, none, 0, [(.iload_n 3, []), (.invokestatic 212, [52, 0, 0, 956, 957, 0, 0]), (.ifCond .ne 5, [3, 2])]),
  (15, none, 0, [(.iconst (-1), []), (.ireturn, [])]),
  (17, none, 0, [(.aload_n 0, []), (.iload_n 1, []), (.invokevirtual 191, [62, 1, 11, 906, 908, 2817, 0]), (.istore 4, []), (.iload 4, []), (.ifCond .ge 8, [5, 4])]),
  (29, none, 0, [(.iload 4, []), (.goto 11, [6])]),
  (34, none, 6, [(.aload_n 0, []), (.iload 4, []), (.iload_n 2, []), (.iload_n 3, []), (.invokevirtual 353, [85, 1, 11, 1236, 1238, 3074, 0])]),
  (42, none, 0, [(.ireturn, [])])])
def pm_X11_ends : sm_M := (yX11_ends, prog_1_method_25_code, 6, (some .int), 2, 0, 0, [951, 1, 1], [
  (0, some [0, 1, 2], 0, [(.aload_n 0, []), (.iload_n 1, []), (.invokevirtual 201, [57, 1, 11, 931, 933, 2819, 0]), (.ifCond .ne 5, [2, 1])]),
  (8, none, 0, [(.iconst (-1), []), (.ireturn, [])]),
  (10, none, 0, [(.aload_n 0, []), (.invokevirtual 177, [50, 1, 11, 802, 804, 2567, 0]), (.ifCond .ne 6, [4, 3])]),
  (17, none, 0, [(.bipush (-3), []), (.ireturn, [])]),
  (20, none, 5, [(.bipush (-2), []), (.istore_n 3, []), (.iconst 0, []), (.istore 4, [])]),
  (26, some [0, 1, 2, 3, 4], 0, [(.iload 4, []), (.aload_n 0, []), (.getfield 60, [11, 4, 532]), (.getfield 181, [2, 14, 388]), (.if_icmp .ge 54, [13, 6])]),
  (38, none, 0, [(.aload_n 0, []), (.getfield 60, [11, 4, 532]), (.aload_n 0, []), (.iload 4, []), (.invokevirtual 191, [62, 1, 11, 906, 908, 2817, 0]), (.iload_n 1, []), (.iload_n 2, []), (.invokevirtual 204, [224, 1, 2, 935, 936, 937, 0]), (.istore 5, []), (.iload_n 3, []), (.bipush (-2), []), (.if_icmp .eq 22, [11, 7])]),
  (61, none, 0, [(.iload_n 2, []), (.ifCond .eq 12, [10, 8])]),
  (65, none, 0, [(.iload 5, []), (.iload_n 3, []), (.if_icmp .le 15, [12, 9])]),
  (71, none, 0, [(.goto 9, [11])]),
  (74, none, 0, [(.iload 5, []), (.iload_n 3, []), (.if_icmp .ge 6, [12, 11])]),
  (80, none, 12, [(.iload 5, []), (.istore_n 3, [])]),
  (83, none, 0, [(.iinc 4 1, []), (.goto (-60), [5])]),
  (89, none, 0, [(.iload_n 3, []), (.ireturn, [])])])
def pm_X11_feed : sm_M := (yX11_feed, prog_1_method_2_code, 6, (some .int), 5, 0, 0, [574, 1, 1], [
  (0, some [0, 1, 2, 3, 4, 5], 0, [(.aload_n 0, []), (.getfield 41, [11, 10, 538]), (.bipush 20, []), (.iadd, []), (.sipush 2000, []), (.if_icmp .le 5, [2, 1])]),
  (13, none, 0, [(.iconst (-1), []), (.ireturn, [])]),
  (15, none, 0, [(.aload_n 0, []), (.iload_n 1, []), (.invokevirtual 88, [71, 1, 11, 575, 577, 2304, 0]), (.aload_n 0, []), (.iload_n 2, []), (.invokevirtual 88, [71, 1, 11, 575, 577, 2304, 0]), (.aload_n 0, []), (.iload_n 3, []), (.invokevirtual 88, [71, 1, 11, 575, 577, 2304, 0]), (.aload_n 0, []), (.iload 4, []), (.invokevirtual 88, [71, 1, 11, 575, 577, 2304, 0]), (.aload_n 0, []), (.iload 5, []), (.invokevirtual 88, [71, 1, 11, 575, 577, 2304, 0]), (.aload_n 0, []), (.getfield 41, [11, 10, 538]), (.ireturn, [])])])
def pm_X11_fewer : sm_M := (yX11_fewer, prog_1_method_51_code, 1, (some .int), 0, 0, 0, [1205, 1, 1], [
  (0, some [0], 0, [(.aload_n 0, []), (.getfield 23, [11, 2, 530]), (.getfield 327, [4, 1, 296]), (.ifCond .gt 5, [2, 1])]),
  (10, none, 0, [(.iconst (-1), []), (.ireturn, [])]),
  (12, none, 0, [(.aload_n 0, []), (.getfield 23, [11, 2, 530]), (.dup, []), (.getfield 327, [4, 1, 296]), (.iconst 1, []), (.isub, []), (.putfield 327, [4, 1, 296]), (.aload_n 0, []), (.invokevirtual 104, [80, 1, 11, 749, 751, 2563, 0]), (.aload_n 0, []), (.getfield 23, [11, 2, 530]), (.getfield 327, [4, 1, 296]), (.ireturn, [])])])
def pm_X11_first : sm_M := (yX11_first, prog_1_method_49_code, 3, (some .int), 1, 0, 0, [1190, 1, 1], [
  (0, some [0, 1], 0, [(.aload_n 0, []), (.iload_n 1, []), (.invokevirtual 318, [69, 1, 11, 1156, 1158, 2830, 0]), (.istore_n 2, []), (.iload_n 2, []), (.ifCond .ge 7, [2, 1])]),
  (10, none, 0, [(.iload_n 2, []), (.goto 14, [3])]),
  (14, none, 3, [(.aload_n 0, []), (.getfield 84, [11, 8, 536]), (.aload_n 0, []), (.getfield 37, [11, 9, 537]), (.invokevirtual 321, [5, 1, 0, 1191, 1192, 1193, 0])]),
  (25, none, 0, [(.ireturn, [])])])
def pm_X11_forced : sm_M := (yX11_forced, prog_1_method_27_code, 5, (some .int), 1, 0, 0, [962, 1, 1], [
  (0, some [0, 1], 0, [(.aload_n 0, []), (.iload_n 1, []), (.invokevirtual 128, [56, 1, 11, 781, 783, 2565, 0]), (.ifCond .eq 11, [2, 1])]),
  (8, none, 0, [(.aload_n 0, []), (.iload_n 1, []), (.invokevirtual 195, [49, 1, 11, 918, 920, 2818, 0]), (.ifCond .eq 5, [3, 2])]),
  (16, none, 0, [(.iconst (-1), []), (.ireturn, [])]),
  (18, none, 0, [(.aload_n 0, []), (.invokevirtual 177, [50, 1, 11, 802, 804, 2567, 0]), (.ifCond .ne 6, [5, 4])]),
  (25, none, 0, [(.bipush (-3), []), (.ireturn, [])]),
  (28, none, 6, [(.bipush (-2), []), (.istore_n 2, []), (.iconst 0, []), (.istore_n 3, [])]),
  (33, some [0, 1, 2, 3], 0, [(.iload_n 3, []), (.aload_n 0, []), (.getfield 60, [11, 4, 532]), (.getfield 181, [2, 14, 388]), (.if_icmp .ge 36, [11, 7])]),
  (44, none, 0, [(.aload_n 0, []), (.getfield 30, [11, 3, 531]), (.iload_n 3, []), (.iload_n 1, []), (.invokevirtual 198, [209, 1, 1, 922, 915, 916, 0]), (.istore 4, []), (.iload_n 3, []), (.ifCond .le 12, [10, 8])]),
  (59, none, 0, [(.iload 4, []), (.iload_n 2, []), (.if_icmp .eq 6, [10, 9])]),
  (65, none, 0, [(.bipush (-2), []), (.ireturn, [])]),
  (68, none, 0, [(.iload 4, []), (.istore_n 2, []), (.iinc 3 1, []), (.goto (-41), [6])]),
  (77, none, 0, [(.iload_n 2, []), (.ireturn, [])])])
def pm_X11_gap : sm_M := (yX11_gap, prog_1_method_24_code, 6, (some .int), 4, 0, 0, [946, 1, 1], [
  (0, some [0, 1, 2, 3, 4], 0, [(.aload_n 0, []), (.iload_n 2, []), (.invokevirtual 201, [57, 1, 11, 931, 933, 2819, 0]), (.ifCond .eq 11, [2, 1])]),
  (8, none, 0, [(.aload_n 0, []), (.iload_n 3, []), (.invokevirtual 201, [57, 1, 11, 931, 933, 2819, 0]), (.ifCond .ne 7, [3, 2])]),
  (16, none, 0, [(.sipush (-10000), []), (.ireturn, [])]),
  (20, none, 0, [(.aload_n 0, []), (.iload_n 1, []), (.invokevirtual 191, [62, 1, 11, 906, 908, 2817, 0]), (.istore 5, []), (.iload 5, []), (.ifCond .ge 9, [5, 4])]),
  (32, none, 0, [(.sipush (-10000), []), (.goto 16, [6])]),
  (38, none, 6, [(.aload_n 0, []), (.getfield 60, [11, 4, 532]), (.iload 5, []), (.iload_n 2, []), (.iload_n 3, []), (.iload 4, []), (.invokevirtual 208, [217, 1, 2, 947, 940, 941, 0])]),
  (51, none, 0, [(.ireturn, [])])])
def pm_X11_give : sm_M := (yX11_give, prog_1_method_57_code, 1, (some .int), 0, 0, 0, [1243, 1, 1], [
  (0, some [0], 0, [(.aload_n 0, []), (.aload_n 0, []), (.getfield 37, [11, 9, 537]), (.invokevirtual 162, [13, 1, 10, 806, 807, 808, 0]), (.aload_n 0, []), (.getfield 37, [11, 9, 537]), (.getfield 131, [10, 6, 144]), (.iconst (-1), []), (.ixor, []), (.iand, []), (.aload_n 0, []), (.getfield 23, [11, 2, 530]), (.getfield 118, [4, 0, 293]), (.iconst (-1), []), (.ixor, []), (.iand, []), (.invokevirtual 363, [60, 1, 11, 1244, 1246, 3075, 0]), (.ireturn, [])])])
def pm_X11_givingUp : sm_M := (yX11_givingUp, prog_1_method_34_code, 2, (some .int), 1, 0, 0, [1048, 1, 1], [
  (0, some [0, 1], 0, [(.aload_n 0, []), (.getfield 75, [11, 7, 535]), (.aload_n 0, []), (.getfield 37, [11, 9, 537]), (.aload_n 0, []), (.getfield 23, [11, 2, 530]), (.invokevirtual 245, [255, 1, 6, 992, 993, 994, 0]), (.ifCond .ne 6, [2, 1])]),
  (18, none, 0, [(.bipush (-3), []), (.ireturn, [])]),
  (21, none, 0, [(.iload_n 1, []), (.ifCond .lt 26, [5, 3])]),
  (25, none, 0, [(.iload_n 1, []), (.aload_n 0, []), (.getfield 75, [11, 7, 535]), (.getfield 255, [6, 5, 448]), (.if_icmp .ge 15, [5, 4])]),
  (36, none, 0, [(.aload_n 0, []), (.getfield 75, [11, 7, 535]), (.getfield 258, [6, 3, 444]), (.iload_n 1, []), (.iaload, []), (.goto 4, [6])]),
  (48, none, 6, [(.iconst (-1), [])]),
  (49, none, 0, [(.ireturn, [])])])
def pm_X11_givingUps : sm_M := (yX11_givingUps, prog_1_method_33_code, 1, (some .int), 0, 0, 0, [1044, 1, 1], [
  (0, some [0], 0, [(.aload_n 0, []), (.getfield 75, [11, 7, 535]), (.aload_n 0, []), (.getfield 37, [11, 9, 537]), (.aload_n 0, []), (.getfield 23, [11, 2, 530]), (.invokevirtual 245, [255, 1, 6, 992, 993, 994, 0]), (.ifCond .eq 13, [2, 1])]),
  (18, none, 0, [(.aload_n 0, []), (.getfield 75, [11, 7, 535]), (.getfield 255, [6, 5, 448]), (.goto 5, [3])]),
  (28, none, 3, [(.bipush (-3), [])]),
  (30, none, 0, [(.ireturn, [])])])
def pm_X11_goWithGuest : sm_M := (yX11_goWithGuest, prog_1_method_42_code, 5, none, 4, 0, 0, [1109, 1, 1], [
  (0, some [0, 1, 2, 3, 4], 0, [(.aload_n 0, []), (.getfield 67, [11, 6, 534]), (.aload_n 0, []), (.getfield 37, [11, 9, 537]), (.aload_n 0, []), (.getfield 23, [11, 2, 530]), (.aload_n 0, []), (.getfield 37, [11, 9, 537]), (.invokevirtual 162, [13, 1, 10, 806, 807, 808, 0]), (.aload_n 0, []), (.getfield 23, [11, 2, 530]), (.getfield 118, [4, 0, 293]), (.iconst (-1), []), (.ixor, []), (.iand, []), (.iconst 1, []), (.invokevirtual 166, [213, 1, 2, 810, 811, 812, 0]), (.aload_n 0, []), (.getfield 67, [11, 6, 534]), (.iload_n 1, []), (.iload_n 2, []), (.iload_n 3, []), (.iload 4, []), (.invokevirtual 284, [219, 1, 2, 1110, 1111, 1112, 0]), (.aload_n 0, []), (.getfield 67, [11, 6, 534]), (.aconst_null, []), (.iconst 0, []), (.invokevirtual 170, [218, 1, 2, 846, 847, 848, 0]), (.return_, [])])])
def pm_X11_goes : sm_M := (yX11_goes, prog_1_method_22_code, 4, (some .int), 2, 0, 0, [926, 1, 1], [
  (0, some [0, 1, 2], 0, [(.iload_n 2, []), (.ifCond .lt 14, [2, 1])]),
  (4, none, 0, [(.iload_n 2, []), (.aload_n 0, []), (.getfield 37, [11, 9, 537]), (.getfield 150, [10, 5, 140]), (.if_icmp .lt 5, [3, 2])]),
  (15, none, 0, [(.iconst (-1), []), (.ireturn, [])]),
  (17, none, 0, [(.aload_n 0, []), (.iload_n 1, []), (.invokevirtual 191, [62, 1, 11, 906, 908, 2817, 0]), (.istore_n 3, []), (.iload_n 3, []), (.ifCond .ge 7, [5, 4])]),
  (27, none, 0, [(.iload_n 3, []), (.goto 15, [6])]),
  (31, none, 6, [(.aload_n 0, []), (.getfield 30, [11, 3, 531]), (.iload_n 1, []), (.bipush 100, []), (.iload_n 2, []), (.iadd, []), (.invokevirtual 198, [209, 1, 1, 922, 915, 916, 0])]),
  (43, none, 0, [(.ireturn, [])])])
def pm_X11_hand : sm_M := (yX11_hand, prog_1_method_63_code, 4, (some .int), 2, 0, 0, [1287, 1, 1], [
  (0, some [0, 1, 2], 0, [(.aload_n 0, []), (.iload_n 2, []), (.invokevirtual 201, [57, 1, 11, 931, 933, 2819, 0]), (.ifCond .ne 5, [2, 1])]),
  (8, none, 0, [(.iconst (-1), []), (.ireturn, [])]),
  (10, none, 0, [(.aload_n 0, []), (.iload_n 1, []), (.invokevirtual 191, [62, 1, 11, 906, 908, 2817, 0]), (.istore_n 3, []), (.iload_n 3, []), (.ifCond .ge 5, [4, 3])]),
  (20, none, 0, [(.iload_n 3, []), (.ireturn, [])]),
  (22, none, 0, [(.aload_n 0, []), (.iload_n 1, []), (.invokevirtual 373, [51, 1, 11, 1260, 1262, 3076, 0]), (.ifCond .ne 5, [6, 5])]),
  (30, none, 0, [(.iconst (-1), []), (.ireturn, [])]),
  (32, none, 0, [(.aload_n 0, []), (.getfield 37, [11, 9, 537]), (.getfield 376, [10, 10, 157]), (.getfield 379, [8, 1, 97]), (.iload_n 2, []), (.iaload, []), (.iconst (-1), []), (.if_icmp .eq 8, [8, 7])]),
  (48, none, 0, [(.bipush (-2), []), (.goto 19, [9])]),
  (53, none, 9, [(.aload_n 0, []), (.getfield 64, [11, 5, 533]), (.aload_n 0, []), (.getfield 64, [11, 5, 533]), (.getfield 188, [2, 11, 379]), (.iload_n 2, []), (.iconst 0, []), (.invokevirtual 204, [224, 1, 2, 935, 936, 937, 0])]),
  (69, none, 0, [(.ireturn, [])])])
def pm_X11_hour : sm_M := (yX11_hour, prog_1_method_23_code, 5, (some .int), 3, 0, 0, [930, 1, 1], [
  (0, some [0, 1, 2, 3], 0, [(.aload_n 0, []), (.iload_n 2, []), (.invokevirtual 201, [57, 1, 11, 931, 933, 2819, 0]), (.ifCond .ne 5, [2, 1])]),
  (8, none, 0, [(.iconst (-1), []), (.ireturn, [])]),
  (10, none, 0, [(.aload_n 0, []), (.iload_n 1, []), (.invokevirtual 191, [62, 1, 11, 906, 908, 2817, 0]), (.istore 4, []), (.iload 4, []), (.ifCond .ge 8, [4, 3])]),
  (22, none, 0, [(.iload 4, []), (.goto 14, [5])]),
  (27, none, 5, [(.aload_n 0, []), (.getfield 60, [11, 4, 532]), (.iload 4, []), (.iload_n 2, []), (.iload_n 3, []), (.invokevirtual 204, [224, 1, 2, 935, 936, 937, 0])]),
  (38, none, 0, [(.ireturn, [])])])
def pm_X11_init : sm_M := (yX11_init, prog_1_method_1_code, 1, none, 0, 106, 36300, [22, 1, 1], [
  (0, some [0], 1, [(.aload_n 0, []), (.invokespecial 3, [23, 24, 25]), (.aload_n 0, []), (.sipush 2000, []), (.newarray .byte, [1, 55]), (.putfield 9, [11, 0, 528]), (.aload_n 0, []), (.new 13, [7, 26, 27, 2]), (.dup, []), (.invokespecial 15, [266, 1, 7, 0, 29, 0, 1]), (.putfield 16, [11, 1, 529]), (.aload_n 0, []), (.new 20, [4, 278, 279, 8]), (.dup, []), (.invokespecial 22, [238, 1, 4, 280, 281, 0, 0]), (.putfield 23, [11, 2, 530]), (.aload_n 0, []), (.new 27, [1, 316, 317, 9]), (.dup, []), (.invokespecial 29, [210, 1, 1, 3, 319, 0, 1]), (.putfield 30, [11, 3, 531]), (.aload_n 0, []), (.new 34, [10, 332, 78, 5]), (.dup, []), (.invokespecial 36, [18, 1, 10, 333, 80, 0, 0]), (.putfield 37, [11, 9, 537]), (.aload_n 0, []), (.iconst 0, []), (.putfield 41, [11, 10, 538]), (.aload_n 0, []), (.iconst (-1), []), (.putfield 45, [11, 11, 539]), (.aload_n 0, []), (.iconst 0, []), (.putfield 48, [11, 12, 540]), (.aload_n 0, []), (.iconst 0, []), (.putfield 52, [11, 13, 541]), (.aload_n 0, []), (.new 55, [2, 334, 335, 10])]),
  (81, none, 2, [(.dup, []), (.bipush 60, []), (.bipush 10, []), (.iconst 0, []), (.aload_n 0, []), (.getfield 37, [11, 9, 537]), (.aload_n 0, []), (.getfield 23, [11, 2, 530]), (.invokespecial 57, [221, 1, 2, 336, 337, 0, 0]), (.putfield 60, [11, 4, 532]), (.aload_n 0, []), (.new 55, [2, 334, 335, 10]), (.dup, []), (.bipush 55, []), (.bipush 10, []), (.iconst 1, []), (.aload_n 0, []), (.getfield 37, [11, 9, 537]), (.aload_n 0, []), (.getfield 23, [11, 2, 530]), (.invokespecial 57, [220, 1, 2, 336, 337, 0, 0]), (.putfield 64, [11, 5, 533]), (.aload_n 0, []), (.new 55, [2, 334, 335, 10]), (.dup, []), (.bipush 65, []), (.bipush 11, []), (.iconst 0, []), (.aload_n 0, []), (.getfield 37, [11, 9, 537]), (.aload_n 0, []), (.getfield 23, [11, 2, 530]), (.invokespecial 57, [222, 1, 2, 336, 337, 0, 0]), (.putfield 67, [11, 6, 534]), (.aload_n 0, []), (.new 70, [6, 433, 434, 12]), (.dup, []), (.aload_n 0, []), (.getfield 67, [11, 6, 534]), (.invokespecial 72, [253, 1, 6, 435, 436, 0, 0])]),
  (161, none, 0, [(.putfield 75, [11, 7, 535]), (.aload_n 0, []), (.new 79, [0, 485, 486, 13]), (.dup, []), (.aload_n 0, []), (.getfield 60, [11, 4, 532]), (.aload_n 0, []), (.getfield 30, [11, 3, 531]), (.invokespecial 81, [6, 1, 0, 487, 488, 0, 0]), (.putfield 84, [11, 8, 536]), (.return_, [])])])
def pm_X11_isDoubted : sm_M := (yX11_isDoubted, prog_1_method_11_code, 2, (some .boolean), 1, 0, 0, [921, 1, 1], [
  (0, some [0, 1], 0, [(.aload_n 0, []), (.getfield 23, [11, 2, 530]), (.getfield 118, [4, 0, 293]), (.iload_n 1, []), (.ishr, []), (.iconst 1, []), (.iand, []), (.ifCond .eq 7, [2, 1])]),
  (14, none, 0, [(.iconst 1, []), (.goto 4, [3])]),
  (18, none, 3, [(.iconst 0, [])]),
  (19, none, 0, [(.ireturn, [])])])
def pm_X11_isGoneThrough : sm_M := (yX11_isGoneThrough, prog_1_method_18_code, 1, (some .boolean), 0, 0, 0, [805, 1, 1], [
  (0, some [0], 0, [(.aload_n 0, []), (.getfield 48, [11, 12, 540]), (.ifCond .ne 53, [2, 1])]),
  (7, none, 2, [(.aload_n 0, []), (.getfield 60, [11, 4, 532]), (.aload_n 0, []), (.getfield 37, [11, 9, 537]), (.aload_n 0, []), (.getfield 23, [11, 2, 530]), (.aload_n 0, []), (.getfield 37, [11, 9, 537]), (.invokevirtual 162, [13, 1, 10, 806, 807, 808, 0]), (.aload_n 0, []), (.getfield 23, [11, 2, 530]), (.getfield 118, [4, 0, 293]), (.iconst (-1), []), (.ixor, []), (.iand, []), (.iconst 0, []), (.invokevirtual 166, [213, 1, 2, 810, 811, 812, 0]), (.aload_n 0, []), (.getfield 60, [11, 4, 532]), (.aload_n 0, []), (.getfield 30, [11, 3, 531]), (.iconst 0, []), (.invokevirtual 170, [218, 1, 2, 846, 847, 848, 0]), (.aload_n 0, []), (.iconst 1, []), (.putfield 48, [11, 12, 540])]),
  (57, none, 0, [(.aload_n 0, []), (.getfield 60, [11, 4, 532]), (.getfield 174, [2, 15, 391]), (.ifCond .ne 7, [4, 3])]),
  (67, none, 0, [(.iconst 1, []), (.goto 4, [5])]),
  (71, none, 5, [(.iconst 0, [])]),
  (72, none, 0, [(.ireturn, [])])])
def pm_X11_isKept : sm_M := (yX11_isKept, prog_1_method_60_code, 2, (some .boolean), 1, 0, 0, [1263, 1, 1], [
  (0, some [0, 1], 0, [(.aload_n 0, []), (.getfield 52, [11, 13, 541]), (.ifCond .ne 41, [2, 1])]),
  (7, none, 2, [(.aload_n 0, []), (.getfield 64, [11, 5, 533]), (.aload_n 0, []), (.getfield 37, [11, 9, 537]), (.aload_n 0, []), (.getfield 23, [11, 2, 530]), (.aload_n 0, []), (.getfield 37, [11, 9, 537]), (.invokevirtual 162, [13, 1, 10, 806, 807, 808, 0]), (.aload_n 0, []), (.getfield 23, [11, 2, 530]), (.getfield 118, [4, 0, 293]), (.iconst (-1), []), (.ixor, []), (.iand, []), (.iconst 0, []), (.invokevirtual 166, [213, 1, 2, 810, 811, 812, 0]), (.aload_n 0, []), (.iconst 1, []), (.putfield 52, [11, 13, 541])]),
  (45, none, 0, [(.aload_n 0, []), (.getfield 64, [11, 5, 533]), (.getfield 370, [2, 12, 382]), (.ifCond .eq 22, [5, 3])]),
  (55, none, 0, [(.aload_n 0, []), (.getfield 64, [11, 5, 533]), (.aload_n 0, []), (.getfield 30, [11, 3, 531]), (.iload_n 1, []), (.invokevirtual 184, [215, 1, 2, 910, 911, 912, 0]), (.ifCond .eq 7, [5, 4])]),
  (70, none, 0, [(.iconst 1, []), (.goto 4, [6])]),
  (74, none, 6, [(.iconst 0, [])]),
  (75, none, 0, [(.ireturn, [])])])
def pm_X11_isMinute : sm_M := (yX11_isMinute, prog_1_method_15_code, 1, (some .boolean), 1, 0, 0, [958, 1, 1], [
  (0, some [0], 0, [(.iload_n 0, []), (.ifCond .lt 14, [3, 1])]),
  (4, none, 0, [(.iload_n 0, []), (.sipush 1440, []), (.if_icmp .gt 7, [3, 2])]),
  (11, none, 0, [(.iconst 1, []), (.goto 4, [4])]),
  (15, none, 4, [(.iconst 0, [])]),
  (16, none, 0, [(.ireturn, [])])])
def pm_X11_isPerson : sm_M := (yX11_isPerson, prog_1_method_14_code, 2, (some .boolean), 1, 0, 0, [1105, 1, 1], [
  (0, some [0, 1], 0, [(.iload_n 1, []), (.ifCond .lt 18, [3, 1])]),
  (4, none, 0, [(.iload_n 1, []), (.aload_n 0, []), (.getfield 37, [11, 9, 537]), (.getfield 140, [10, 0, 122]), (.if_icmp .ge 7, [3, 2])]),
  (15, none, 0, [(.iconst 1, []), (.goto 4, [4])]),
  (19, none, 4, [(.iconst 0, [])]),
  (20, none, 0, [(.ireturn, [])])])
def pm_X11_isPlace : sm_M := (yX11_isPlace, prog_1_method_13_code, 2, (some .boolean), 1, 0, 0, [792, 1, 1], [
  (0, some [0, 1], 0, [(.iload_n 1, []), (.ifCond .lt 18, [3, 1])]),
  (4, none, 0, [(.iload_n 1, []), (.aload_n 0, []), (.getfield 37, [11, 9, 537]), (.getfield 137, [10, 1, 125]), (.if_icmp .ge 7, [3, 2])]),
  (15, none, 0, [(.iconst 1, []), (.goto 4, [4])]),
  (19, none, 4, [(.iconst 0, [])]),
  (20, none, 0, [(.ireturn, [])])])
def pm_X11_isSay : sm_M := (yX11_isSay, prog_1_method_10_code, 2, (some .boolean), 1, 0, 0, [780, 1, 1], [
  (0, some [0, 1], 0, [(.aload_n 0, []), (.iload_n 1, []), (.invokevirtual 128, [56, 1, 11, 781, 783, 2565, 0]), (.ifCond .eq 21, [3, 1])]),
  (8, none, 0, [(.aload_n 0, []), (.getfield 37, [11, 9, 537]), (.getfield 131, [10, 6, 144]), (.iload_n 1, []), (.ishr, []), (.iconst 1, []), (.iand, []), (.ifCond .ne 7, [3, 2])]),
  (22, none, 0, [(.iconst 1, []), (.goto 4, [4])]),
  (26, none, 4, [(.iconst 0, [])]),
  (27, none, 0, [(.ireturn, [])])])
def pm_X11_isSaying : sm_M := (yX11_isSaying, prog_1_method_9_code, 2, (some .boolean), 1, 0, 0, [784, 1, 1], [
  (0, some [0, 1], 0, [(.iload_n 1, []), (.ifCond .lt 18, [3, 1])]),
  (4, none, 0, [(.iload_n 1, []), (.aload_n 0, []), (.getfield 37, [11, 9, 537]), (.getfield 125, [10, 3, 133]), (.if_icmp .ge 7, [3, 2])]),
  (15, none, 0, [(.iconst 1, []), (.goto 4, [4])]),
  (19, none, 4, [(.iconst 0, [])]),
  (20, none, 0, [(.ireturn, [])])])
def pm_X11_isTime : sm_M := (yX11_isTime, prog_1_method_12_code, 2, (some .boolean), 1, 0, 0, [934, 1, 1], [
  (0, some [0, 1], 0, [(.iload_n 1, []), (.ifCond .lt 18, [3, 1])]),
  (4, none, 0, [(.iload_n 1, []), (.aload_n 0, []), (.getfield 37, [11, 9, 537]), (.getfield 134, [10, 2, 129]), (.if_icmp .ge 7, [3, 2])]),
  (15, none, 0, [(.iconst 1, []), (.goto 4, [4])]),
  (19, none, 4, [(.iconst 0, [])]),
  (20, none, 0, [(.ireturn, [])])])
def pm_X11_keep : sm_M := (yX11_keep, prog_1_method_62_code, 2, (some .int), 0, 0, 0, [1283, 1, 1], [
  (0, some [0], 0, [(.aload_n 0, []), (.invokevirtual 177, [50, 1, 11, 802, 804, 2567, 0]), (.ifCond .ne 6, [2, 1])]),
  (7, none, 0, [(.bipush (-3), []), (.ireturn, [])]),
  (10, none, 3, [(.iconst 0, []), (.istore_n 1, [])]),
  (12, some [0, 1], 0, [(.iload_n 1, []), (.aload_n 0, []), (.getfield 60, [11, 4, 532]), (.getfield 181, [2, 14, 388]), (.if_icmp .ge 19, [7, 4])]),
  (23, none, 0, [(.aload_n 0, []), (.iload_n 1, []), (.invokevirtual 373, [51, 1, 11, 1260, 1262, 3076, 0]), (.ifCond .eq 5, [6, 5])]),
  (31, none, 0, [(.iload_n 1, []), (.ireturn, [])]),
  (33, none, 0, [(.iinc 1 1, []), (.goto (-24), [3])]),
  (39, none, 0, [(.bipush (-2), []), (.ireturn, [])])])
def pm_X11_kept : sm_M := (yX11_kept, prog_1_method_61_code, 3, (some .int), 1, 0, 0, [1259, 1, 1], [
  (0, some [0, 1], 0, [(.aload_n 0, []), (.iload_n 1, []), (.invokevirtual 191, [62, 1, 11, 906, 908, 2817, 0]), (.istore_n 2, []), (.iload_n 2, []), (.ifCond .ge 5, [2, 1])]),
  (10, none, 0, [(.iload_n 2, []), (.ireturn, [])]),
  (12, none, 0, [(.aload_n 0, []), (.iload_n 1, []), (.invokevirtual 373, [51, 1, 11, 1260, 1262, 3076, 0]), (.ifCond .eq 7, [4, 3])]),
  (20, none, 0, [(.iconst 1, []), (.goto 4, [5])]),
  (24, none, 5, [(.iconst 0, [])]),
  (25, none, 0, [(.ireturn, [])])])
def pm_X11_leastGive : sm_M := (yX11_leastGive, prog_1_method_59_code, 6, (some .int), 1, 0, 0, [1247, 1, 1], [
  (0, some [0, 1], 1, [(.iconst 0, []), (.istore_n 2, []), (.sipush 1441, []), (.istore_n 3, []), (.iconst 0, []), (.istore 4, [])]),
  (9, some [0, 1, 2, 3, 4], 0, [(.iload 4, []), (.sipush 1441, []), (.if_icmp .ge 107, [9, 2])]),
  (17, none, 0, [(.iload_n 2, []), (.iload_n 3, []), (.if_icmp .ge 102, [9, 3])]),
  (22, none, 0, [(.iload_n 2, []), (.iload_n 3, []), (.iadd, []), (.iconst 2, []), (.idiv, []), (.istore 5, []), (.aload_n 0, []), (.getfield 67, [11, 6, 534]), (.aload_n 0, []), (.getfield 37, [11, 9, 537]), (.aload_n 0, []), (.getfield 23, [11, 2, 530]), (.aload_n 0, []), (.getfield 37, [11, 9, 537]), (.invokevirtual 162, [13, 1, 10, 806, 807, 808, 0]), (.aload_n 0, []), (.getfield 23, [11, 2, 530]), (.getfield 118, [4, 0, 293]), (.iconst (-1), []), (.ixor, []), (.iand, []), (.iconst 0, []), (.invokevirtual 166, [213, 1, 2, 810, 811, 812, 0]), (.aload_n 0, []), (.getfield 67, [11, 6, 534]), (.iload_n 1, []), (.iload 5, []), (.invokevirtual 366, [231, 1, 2, 1248, 1249, 1250, 0]), (.aload_n 0, []), (.getfield 67, [11, 6, 534]), (.aconst_null, []), (.iconst 1, []), (.invokevirtual 170, [218, 1, 2, 846, 847, 848, 0]), (.aload_n 0, []), (.getfield 67, [11, 6, 534]), (.getfield 174, [2, 15, 391]), (.ifCond .eq 6, [5, 4])]),
  (91, none, 0, [(.bipush (-3), []), (.ireturn, [])]),
  (94, none, 0, [(.aload_n 0, []), (.getfield 67, [11, 6, 534]), (.getfield 181, [2, 14, 388]), (.ifCond .le 9, [7, 6])]),
  (104, none, 0, [(.iload 5, []), (.istore_n 3, []), (.goto 8, [8])]),
  (110, none, 8, [(.iload 5, []), (.iconst 1, []), (.iadd, []), (.istore_n 2, [])]),
  (115, none, 0, [(.iinc 4 1, []), (.goto (-109), [1])]),
  (121, none, 0, [(.iload_n 2, []), (.ireturn, [])])])
def pm_X11_left : sm_M := (yX11_left, prog_1_method_46_code, 4, (some .int), 2, 0, 0, [1136, 1, 1], [
  (0, some [0, 1, 2], 0, [(.iconst (-1), []), (.aload_n 0, []), (.getfield 37, [11, 9, 537]), (.getfield 293, [10, 4, 137]), (.ishl, []), (.istore_n 3, []), (.iload_n 1, []), (.iload_n 2, []), (.ior, []), (.iload_n 3, []), (.iand, []), (.ifCond .ne 9, [2, 1])]),
  (18, none, 0, [(.iload_n 1, []), (.iload_n 2, []), (.iand, []), (.ifCond .eq 5, [3, 2])]),
  (24, none, 0, [(.iconst (-1), []), (.ireturn, [])]),
  (26, none, 0, [(.aload_n 0, []), (.invokevirtual 177, [50, 1, 11, 802, 804, 2567, 0]), (.ifCond .eq 19, [5, 4])]),
  (33, none, 0, [(.aload_n 0, []), (.getfield 84, [11, 8, 536]), (.aload_n 0, []), (.getfield 37, [11, 9, 537]), (.iload_n 1, []), (.iload_n 2, []), (.invokevirtual 303, [8, 1, 0, 1137, 1138, 1139, 0]), (.goto 5, [6])]),
  (49, none, 6, [(.bipush (-3), [])]),
  (51, none, 0, [(.ireturn, [])])])
def pm_X11_levelOf : sm_M := (yX11_levelOf, prog_1_method_19_code, 2, (some .int), 1, 0, 0, [909, 1, 1], [
  (0, some [0, 1], 0, [(.aload_n 0, []), (.invokevirtual 177, [50, 1, 11, 802, 804, 2567, 0]), (.ifCond .ne 6, [2, 1])]),
  (7, none, 0, [(.bipush (-3), []), (.ireturn, [])]),
  (10, none, 0, [(.iload_n 1, []), (.ifCond .lt 14, [4, 3])]),
  (14, none, 0, [(.iload_n 1, []), (.aload_n 0, []), (.getfield 60, [11, 4, 532]), (.getfield 181, [2, 14, 388]), (.if_icmp .lt 5, [5, 4])]),
  (25, none, 0, [(.iconst (-1), []), (.ireturn, [])]),
  (27, none, 0, [(.aload_n 0, []), (.getfield 60, [11, 4, 532]), (.aload_n 0, []), (.getfield 30, [11, 3, 531]), (.iload_n 1, []), (.invokevirtual 184, [215, 1, 2, 910, 911, 912, 0]), (.pop, []), (.aload_n 0, []), (.getfield 60, [11, 4, 532]), (.getfield 188, [2, 11, 379]), (.ireturn, [])])])
def pm_X11_more : sm_M := (yX11_more, prog_1_method_50_code, 6, (some .int), 4, 0, 0, [1198, 1, 1], [
  (0, some [0, 1, 2, 3, 4], 0, [(.aload_n 0, []), (.iload_n 1, []), (.invokevirtual 201, [57, 1, 11, 931, 933, 2819, 0]), (.ifCond .eq 20, [4, 1])]),
  (8, none, 0, [(.iload_n 2, []), (.iconst (-1), []), (.if_icmp .eq 11, [3, 2])]),
  (13, none, 0, [(.aload_n 0, []), (.iload_n 2, []), (.invokevirtual 201, [57, 1, 11, 931, 933, 2819, 0]), (.ifCond .eq 7, [4, 3])]),
  (21, none, 0, [(.iconst 1, []), (.goto 4, [5])]),
  (25, none, 5, [(.iconst 0, [])]),
  (26, some [0, 1, 2, 3, 4], 0, [(.istore 5, []), (.iload 5, []), (.ifCond .eq 27, [8, 6])]),
  (33, none, 0, [(.iload_n 3, []), (.iload 4, []), (.invokestatic 324, [2, 1199, 867]), (.sipush (-1440), []), (.if_icmp .lt 15, [8, 7])]),
  (45, none, 0, [(.iload_n 3, []), (.iload 4, []), (.invokestatic 300, [1, 1132, 870]), (.sipush 1440, []), (.if_icmp .le 5, [9, 8])]),
  (57, none, 0, [(.iconst (-1), []), (.ireturn, [])]),
  (59, none, 0, [(.aload_n 0, []), (.getfield 23, [11, 2, 530]), (.getfield 327, [4, 1, 296]), (.bipush 6, []), (.if_icmp .lt 5, [11, 10])]),
  (71, none, 0, [(.iconst (-1), []), (.ireturn, [])]),
  (73, none, 0, [(.aload_n 0, []), (.getfield 23, [11, 2, 530]), (.getfield 330, [4, 4, 304]), (.aload_n 0, []), (.getfield 23, [11, 2, 530]), (.getfield 327, [4, 1, 296]), (.iload_n 1, []), (.iload_n 2, []), (.invokevirtual 333, [287, 1, 8, 1200, 712, 713, 0]), (.aload_n 0, []), (.getfield 23, [11, 2, 530]), (.getfield 330, [4, 4, 304]), (.aload_n 0, []), (.getfield 23, [11, 2, 530]), (.getfield 327, [4, 1, 296]), (.iload_n 3, []), (.iload 4, []), (.invokevirtual 337, [280, 1, 8, 1201, 716, 717, 0]), (.aload_n 0, []), (.getfield 23, [11, 2, 530]), (.dup, []), (.getfield 327, [4, 1, 296]), (.iconst 1, []), (.iadd, []), (.putfield 327, [4, 1, 296]), (.aload_n 0, []), (.invokevirtual 104, [80, 1, 11, 749, 751, 2563, 0]), (.aload_n 0, []), (.getfield 23, [11, 2, 530]), (.getfield 327, [4, 1, 296]), (.ireturn, [])])])
def pm_X11_move : sm_M := (yX11_move, prog_1_method_17_code, 3, (some .int), 2, 0, 0, [797, 1, 1], [
  (0, some [0, 1, 2], 0, [(.iload_n 1, []), (.ifCond .lt 14, [2, 1])]),
  (4, none, 0, [(.iload_n 1, []), (.aload_n 0, []), (.getfield 37, [11, 9, 537]), (.getfield 150, [10, 5, 140]), (.if_icmp .lt 5, [3, 2])]),
  (15, none, 0, [(.iconst (-1), []), (.ireturn, [])]),
  (17, none, 0, [(.iload_n 2, []), (.tableswitch 56 0 2 #[26, 36, 46], [7, 4, 5, 6])]),
  (44, none, 0, [(.aload_n 0, []), (.getfield 37, [11, 9, 537]), (.getfield 153, [10, 16, 175]), (.iload_n 1, []), (.iaload, []), (.ireturn, [])]),
  (54, none, 0, [(.aload_n 0, []), (.getfield 37, [11, 9, 537]), (.getfield 156, [10, 17, 178]), (.iload_n 1, []), (.iaload, []), (.ireturn, [])]),
  (64, none, 0, [(.aload_n 0, []), (.getfield 37, [11, 9, 537]), (.getfield 159, [10, 18, 181]), (.iload_n 1, []), (.iaload, []), (.ireturn, [])]),
  (74, none, 0, [(.iconst (-1), []), (.ireturn, [])])])
def pm_X11_next : sm_M := (yX11_next, prog_1_method_45_code, 5, (some .int), 0, 0, 0, [1131, 1, 1], [
  (0, some [0], 0, [(.aload_n 0, []), (.getfield 37, [11, 9, 537]), (.getfield 293, [10, 4, 137]), (.ifCond .ne 6, [2, 1])]),
  (10, none, 0, [(.bipush (-2), []), (.ireturn, [])]),
  (13, none, 0, [(.aload_n 0, []), (.invokevirtual 177, [50, 1, 11, 802, 804, 2567, 0]), (.ifCond .ne 6, [4, 3])]),
  (20, none, 0, [(.bipush (-3), []), (.ireturn, [])]),
  (23, none, 5, [(.iconst (-1), []), (.istore_n 1, []), (.iconst 0, []), (.istore_n 2, []), (.iconst 0, []), (.istore_n 3, [])]),
  (29, some [0, 1, 2, 3], 0, [(.iload_n 3, []), (.aload_n 0, []), (.getfield 37, [11, 9, 537]), (.getfield 293, [10, 4, 137]), (.if_icmp .ge 56, [10, 6])]),
  (40, none, 0, [(.aload_n 0, []), (.getfield 84, [11, 8, 536]), (.aload_n 0, []), (.getfield 37, [11, 9, 537]), (.iload_n 3, []), (.iconst 1, []), (.invokevirtual 296, [1, 1, 0, 1122, 1123, 1124, 0]), (.aload_n 0, []), (.getfield 84, [11, 8, 536]), (.aload_n 0, []), (.getfield 37, [11, 9, 537]), (.iload_n 3, []), (.iconst 0, []), (.invokevirtual 296, [1, 1, 0, 1122, 1123, 1124, 0]), (.invokestatic 300, [1, 1132, 870]), (.istore 4, []), (.iload_n 1, []), (.iconst (-1), []), (.if_icmp .eq 9, [8, 7])]),
  (76, none, 0, [(.iload 4, []), (.iload_n 2, []), (.if_icmp .ge 8, [9, 8])]),
  (82, none, 9, [(.iload_n 3, []), (.istore_n 1, []), (.iload 4, []), (.istore_n 2, [])]),
  (87, none, 0, [(.iinc 3 1, []), (.goto (-61), [5])]),
  (93, none, 0, [(.iload_n 1, []), (.ireturn, [])])])
def pm_X11_pick : sm_M := (yX11_pick, prog_1_method_37_code, 5, (some .boolean), 2, 0, 0, [1069, 1, 1], [
  (0, some [0, 1, 2], 0, [(.aload_n 0, []), (.iload_n 1, []), (.invokevirtual 128, [56, 1, 11, 781, 783, 2565, 0]), (.ifCond .eq 27, [3, 1])]),
  (8, none, 0, [(.aload_n 0, []), (.iload_n 1, []), (.invokevirtual 195, [49, 1, 11, 918, 920, 2818, 0]), (.ifCond .ne 19, [3, 2])]),
  (16, none, 0, [(.iload_n 1, []), (.istore_n 3, []), (.aload_n 0, []), (.getfield 37, [11, 9, 537]), (.getfield 218, [10, 12, 163]), (.iload_n 1, []), (.iaload, []), (.istore 4, []), (.goto 58, [10])]),
  (32, none, 0, [(.iload_n 1, []), (.bipush 100, []), (.if_icmp .lt 50, [9, 4])]),
  (38, none, 0, [(.iload_n 1, []), (.bipush 100, []), (.isub, []), (.aload_n 0, []), (.getfield 37, [11, 9, 537]), (.getfield 150, [10, 5, 140]), (.if_icmp .ge 36, [9, 5])]),
  (52, none, 0, [(.bipush 10, []), (.iload_n 1, []), (.iadd, []), (.bipush 100, []), (.isub, []), (.istore_n 3, []), (.aload_n 0, []), (.getfield 37, [11, 9, 537]), (.getfield 159, [10, 18, 181]), (.iload_n 1, []), (.bipush 100, []), (.isub, []), (.iaload, []), (.ifCond .ge 7, [7, 6])]),
  (75, none, 0, [(.iconst 0, []), (.goto 4, [8])]),
  (79, none, 8, [(.iconst 2, [])]),
  (80, none, 0, [(.istore 4, []), (.goto 5, [10])]),
  (85, none, 0, [(.iconst 0, []), (.ireturn, [])]),
  (87, some [0, 2, 3, 4], 0, [(.iload_n 2, []), (.iconst (-1), []), (.if_icmp .lt 9, [12, 11])]),
  (92, none, 0, [(.iload_n 2, []), (.iload 4, []), (.if_icmp .lt 5, [13, 12])]),
  (98, none, 0, [(.iconst 0, []), (.ireturn, [])]),
  (100, none, 0, [(.aload_n 0, []), (.getfield 23, [11, 2, 530]), (.getfield 121, [4, 3, 301]), (.iload_n 3, []), (.iload_n 2, []), (.iastore, []), (.aload_n 0, []), (.getfield 75, [11, 7, 535]), (.iconst 0, []), (.putfield 111, [6, 9, 456]), (.iconst 1, []), (.ireturn, [])])])
def pm_X11_place : sm_M := (yX11_place, prog_1_method_7_code, 1, (some .int), 0, 0, 0, [772, 1, 1], [
  (0, some [0], 0, [(.aload_n 0, []), (.getfield 45, [11, 11, 539]), (.ireturn, [])])])
def pm_X11_plan : sm_M := (yX11_plan, prog_1_method_48_code, 3, (some .int), 1, 0, 0, [1155, 1, 1], [
  (0, some [0, 1], 0, [(.aload_n 0, []), (.iload_n 1, []), (.invokevirtual 318, [69, 1, 11, 1156, 1158, 2830, 0]), (.istore_n 2, []), (.iload_n 2, []), (.ifCond .ge 7, [2, 1])]),
  (10, none, 0, [(.iload_n 2, []), (.goto 12, [3])]),
  (14, none, 3, [(.aload_n 0, []), (.getfield 84, [11, 8, 536]), (.getfield 315, [0, 4, 512]), (.iconst 0, []), (.iaload, [])]),
  (23, none, 0, [(.ireturn, [])])])
def pm_X11_planTo : sm_M := (yX11_planTo, prog_1_method_47_code, 2, (some .int), 1, 0, 0, [1159, 1, 1], [
  (0, some [0, 1], 0, [(.iload_n 1, []), (.ifCond .lt 10, [2, 1])]),
  (4, none, 0, [(.iload_n 1, []), (.sipush 1000, []), (.if_icmp .le 5, [3, 2])]),
  (11, none, 0, [(.iconst (-1), []), (.ireturn, [])]),
  (13, none, 0, [(.aload_n 0, []), (.invokevirtual 177, [50, 1, 11, 802, 804, 2567, 0]), (.ifCond .eq 15, [5, 4])]),
  (20, none, 0, [(.aload_n 0, []), (.getfield 60, [11, 4, 532]), (.getfield 181, [2, 14, 388]), (.bipush 64, []), (.if_icmp .le 6, [6, 5])]),
  (32, none, 0, [(.bipush (-3), []), (.ireturn, [])]),
  (35, none, 0, [(.aload_n 0, []), (.getfield 84, [11, 8, 536]), (.aload_n 0, []), (.getfield 37, [11, 9, 537]), (.invokevirtual 307, [4, 1, 0, 1160, 1161, 1162, 0]), (.aload_n 0, []), (.getfield 84, [11, 8, 536]), (.aload_n 0, []), (.getfield 37, [11, 9, 537]), (.iload_n 1, []), (.invokevirtual 311, [11, 1, 0, 1178, 1179, 1180, 0]), (.aload_n 0, []), (.getfield 84, [11, 8, 536]), (.getfield 315, [0, 4, 512]), (.iconst 0, []), (.iaload, []), (.iconst 5, []), (.if_icmp .le 8, [8, 7])]),
  (71, none, 0, [(.bipush (-2), []), (.goto 4, [9])]),
  (76, none, 9, [(.iconst 0, [])]),
  (77, none, 0, [(.ireturn, [])])])
def pm_X11_price : sm_M := (yX11_price, prog_1_method_36_code, 2, (some .int), 0, 0, 0, [1064, 1, 1], [
  (0, some [0], 0, [(.aload_n 0, []), (.getfield 75, [11, 7, 535]), (.aload_n 0, []), (.getfield 37, [11, 9, 537]), (.aload_n 0, []), (.getfield 23, [11, 2, 530]), (.invokevirtual 245, [255, 1, 6, 992, 993, 994, 0]), (.ifCond .ne 6, [2, 1])]),
  (18, none, 0, [(.bipush (-3), []), (.ireturn, [])]),
  (21, none, 0, [(.aload_n 0, []), (.getfield 75, [11, 7, 535]), (.aload_n 0, []), (.getfield 37, [11, 9, 537]), (.invokevirtual 261, [250, 1, 6, 1053, 1054, 1055, 0]), (.istore_n 1, []), (.iload_n 1, []), (.ifCond .ge 8, [4, 3])]),
  (37, none, 0, [(.bipush (-2), []), (.goto 19, [5])]),
  (42, none, 5, [(.aload_n 0, []), (.getfield 37, [11, 9, 537]), (.aload_n 0, []), (.getfield 75, [11, 7, 535]), (.getfield 258, [6, 3, 444]), (.iload_n 1, []), (.iaload, []), (.invokevirtual 265, [20, 1, 10, 1065, 1058, 1059, 0])]),
  (58, none, 0, [(.ireturn, [])])])
def pm_X11_putFour : sm_M := (yX11_putFour, prog_1_method_3_code, 3, none, 1, 0, 0, [578, 1, 1], [
  (0, some [0, 1], 1, [(.bipush 24, []), (.istore_n 2, [])]),
  (3, some [0, 1, 2], 0, [(.iload_n 2, []), (.ifCond .lt 42, [5, 2])]),
  (7, none, 0, [(.aload_n 0, []), (.getfield 41, [11, 10, 538]), (.sipush 2000, []), (.if_icmp .ge 26, [4, 3])]),
  (17, none, 4, [(.aload_n 0, []), (.getfield 9, [11, 0, 528]), (.aload_n 0, []), (.getfield 41, [11, 10, 538]), (.iload_n 1, []), (.iload_n 2, []), (.iushr, []), (.i2b, []), (.bastore, []), (.aload_n 0, []), (.dup, []), (.getfield 41, [11, 10, 538]), (.iconst 1, []), (.iadd, []), (.putfield 41, [11, 10, 538])]),
  (40, none, 0, [(.iinc 2 (-8), []), (.goto (-40), [1])]),
  (46, none, 0, [(.return_, [])])])
def pm_X11_quarrel : sm_M := (yX11_quarrel, prog_1_method_32_code, 2, (some .int), 1, 0, 0, [1040, 1, 1], [
  (0, some [0, 1], 0, [(.aload_n 0, []), (.getfield 75, [11, 7, 535]), (.aload_n 0, []), (.getfield 37, [11, 9, 537]), (.aload_n 0, []), (.getfield 23, [11, 2, 530]), (.invokevirtual 245, [255, 1, 6, 992, 993, 994, 0]), (.ifCond .ne 6, [2, 1])]),
  (18, none, 0, [(.bipush (-3), []), (.ireturn, [])]),
  (21, none, 0, [(.iload_n 1, []), (.ifCond .lt 26, [5, 3])]),
  (25, none, 0, [(.iload_n 1, []), (.aload_n 0, []), (.getfield 75, [11, 7, 535]), (.getfield 249, [6, 4, 446]), (.if_icmp .ge 15, [5, 4])]),
  (36, none, 0, [(.aload_n 0, []), (.getfield 75, [11, 7, 535]), (.getfield 252, [6, 2, 442]), (.iload_n 1, []), (.iaload, []), (.goto 4, [6])]),
  (48, none, 6, [(.iconst (-1), [])]),
  (49, none, 0, [(.ireturn, [])])])
def pm_X11_quarrels : sm_M := (yX11_quarrels, prog_1_method_31_code, 1, (some .int), 0, 0, 0, [991, 1, 1], [
  (0, some [0], 0, [(.aload_n 0, []), (.getfield 75, [11, 7, 535]), (.aload_n 0, []), (.getfield 37, [11, 9, 537]), (.aload_n 0, []), (.getfield 23, [11, 2, 530]), (.invokevirtual 245, [255, 1, 6, 992, 993, 994, 0]), (.ifCond .eq 13, [2, 1])]),
  (18, none, 0, [(.aload_n 0, []), (.getfield 75, [11, 7, 535]), (.getfield 249, [6, 4, 446]), (.goto 5, [3])]),
  (28, none, 3, [(.bipush (-3), [])]),
  (30, none, 0, [(.ireturn, [])])])
def pm_X11_read : sm_M := (yX11_read, prog_1_method_5_code, 2, (some .int), 0, 0, 0, [586, 1, 1], [
  (0, some [0], 0, [(.aload_n 0, []), (.getfield 16, [11, 1, 529]), (.aload_n 0, []), (.getfield 9, [11, 0, 528]), (.aload_n 0, []), (.getfield 41, [11, 10, 538]), (.invokevirtual 92, [269, 1, 7, 587, 588, 589, 0]), (.istore_n 1, []), (.aload_n 0, []), (.iconst 0, []), (.putfield 41, [11, 10, 538]), (.aload_n 0, []), (.iload_n 1, []), (.ifCond .ne 7, [2, 1])]),
  (26, none, 0, [(.iconst (-1), []), (.goto 10, [3])]),
  (30, none, 3, [(.aload_n 0, []), (.getfield 16, [11, 1, 529]), (.getfield 96, [7, 12, 234])]),
  (37, none, 0, [(.putfield 45, [11, 11, 539]), (.iload_n 1, []), (.ifCond .ne 29, [5, 4])]),
  (44, none, 5, [(.aload_n 0, []), (.aload_n 0, []), (.getfield 16, [11, 1, 529]), (.aload_n 0, []), (.getfield 37, [11, 9, 537]), (.invokevirtual 97, [262, 1, 7, 744, 745, 746, 0]), (.putfield 37, [11, 9, 537]), (.aload_n 0, []), (.getfield 23, [11, 2, 530]), (.invokevirtual 101, [237, 1, 4, 748, 287, 288, 0]), (.aload_n 0, []), (.invokevirtual 104, [80, 1, 11, 749, 751, 2563, 0])]),
  (70, none, 0, [(.iload_n 1, []), (.ireturn, [])])])
def pm_X11_ring : sm_M := (yX11_ring, prog_1_method_39_code, 1, (some .int), 0, 0, 0, [1093, 1, 1], [
  (0, some [0], 0, [(.aload_n 0, []), (.getfield 75, [11, 7, 535]), (.aload_n 0, []), (.getfield 37, [11, 9, 537]), (.aload_n 0, []), (.getfield 23, [11, 2, 530]), (.invokevirtual 268, [257, 1, 6, 1074, 1075, 1076, 0]), (.ifCond .eq 13, [2, 1])]),
  (18, none, 0, [(.aload_n 0, []), (.getfield 75, [11, 7, 535]), (.getfield 271, [6, 7, 452]), (.goto 5, [3])]),
  (28, none, 3, [(.bipush (-2), [])]),
  (30, none, 0, [(.ireturn, [])])])
def pm_X11_ringAt : sm_M := (yX11_ringAt, prog_1_method_40_code, 2, (some .int), 1, 0, 0, [1097, 1, 1], [
  (0, some [0, 1], 0, [(.aload_n 0, []), (.getfield 75, [11, 7, 535]), (.aload_n 0, []), (.getfield 37, [11, 9, 537]), (.aload_n 0, []), (.getfield 23, [11, 2, 530]), (.invokevirtual 268, [257, 1, 6, 1074, 1075, 1076, 0]), (.ifCond .eq 30, [4, 1])]),
  (18, none, 0, [(.iload_n 1, []), (.ifCond .lt 26, [4, 2])]),
  (22, none, 0, [(.iload_n 1, []), (.aload_n 0, []), (.getfield 75, [11, 7, 535]), (.getfield 271, [6, 7, 452]), (.if_icmp .ge 15, [4, 3])]),
  (33, none, 0, [(.aload_n 0, []), (.getfield 75, [11, 7, 535]), (.getfield 274, [6, 6, 450]), (.iload_n 1, []), (.iaload, []), (.goto 4, [5])]),
  (45, none, 5, [(.iconst (-1), [])]),
  (46, none, 0, [(.ireturn, [])])])
def pm_X11_set : sm_M := (yX11_set, prog_1_method_28_code, 3, (some .boolean), 2, 0, 0, [966, 1, 1], [
  (0, some [0, 1, 2], 0, [(.aload_n 0, []), (.iload_n 1, []), (.invokevirtual 201, [57, 1, 11, 931, 933, 2819, 0]), (.ifCond .eq 15, [3, 1])]),
  (8, none, 0, [(.iload_n 2, []), (.iconst (-1), []), (.if_icmp .eq 12, [4, 2])]),
  (13, none, 0, [(.iload_n 2, []), (.invokestatic 212, [52, 0, 0, 956, 957, 0, 0]), (.ifCond .ne 5, [4, 3])]),
  (20, none, 0, [(.iconst 0, []), (.ireturn, [])]),
  (22, none, 0, [(.aload_n 0, []), (.getfield 23, [11, 2, 530]), (.getfield 215, [4, 2, 298]), (.iload_n 1, []), (.iload_n 2, []), (.iastore, []), (.iconst 1, []), (.ireturn, [])])])
def pm_X11_setWays : sm_M := (yX11_setWays, prog_1_method_53_code, 3, (some .int), 0, 0, 0, [1217, 1, 1], [
  (0, some [0], 0, [(.aload_n 0, []), (.invokevirtual 177, [50, 1, 11, 802, 804, 2567, 0]), (.ifCond .ne 6, [2, 1])]),
  (7, none, 0, [(.bipush (-3), []), (.ireturn, [])]),
  (10, none, 3, [(.iconst 0, []), (.istore_n 1, []), (.iconst 0, []), (.istore_n 2, [])]),
  (14, some [0, 1, 2], 0, [(.iload_n 2, []), (.aload_n 0, []), (.getfield 60, [11, 4, 532]), (.getfield 181, [2, 14, 388]), (.if_icmp .ge 34, [7, 4])]),
  (25, none, 0, [(.aload_n 0, []), (.getfield 60, [11, 4, 532]), (.aload_n 0, []), (.iload_n 2, []), (.invokevirtual 191, [62, 1, 11, 906, 908, 2817, 0]), (.aload_n 0, []), (.getfield 23, [11, 2, 530]), (.getfield 215, [4, 2, 298]), (.invokevirtual 346, [229, 1, 2, 1218, 1219, 1220, 0]), (.ifCond .eq 6, [6, 5])]),
  (47, none, 6, [(.iinc 1 1, [])]),
  (50, none, 0, [(.iinc 2 1, []), (.goto (-39), [3])]),
  (56, none, 0, [(.iload_n 1, []), (.ireturn, [])])])
def pm_X11_slack : sm_M := (yX11_slack, prog_1_method_54_code, 5, (some .int), 3, 0, 0, [1230, 1, 1], [
  (0, some [0, 1, 2, 3], 0, [(.aload_n 0, []), (.iload_n 2, []), (.invokevirtual 201, [57, 1, 11, 931, 933, 2819, 0]), (.ifCond .ne 5, [2, 1])]),
  (8, none, 0, [(.iconst (-1), []), (.ireturn, [])]),
  (10, none, 0, [(.aload_n 0, []), (.iload_n 1, []), (.invokevirtual 191, [62, 1, 11, 906, 908, 2817, 0]), (.istore 4, []), (.iload 4, []), (.ifCond .ge 6, [4, 3])]),
  (22, none, 0, [(.iload 4, []), (.ireturn, [])]),
  (25, none, 0, [(.aload_n 0, []), (.getfield 60, [11, 4, 532]), (.iload 4, []), (.aload_n 0, []), (.getfield 23, [11, 2, 530]), (.getfield 215, [4, 2, 298]), (.invokevirtual 346, [229, 1, 2, 1218, 1219, 1220, 0]), (.ifCond .eq 24, [6, 5])]),
  (44, none, 0, [(.aload_n 0, []), (.getfield 60, [11, 4, 532]), (.iload 4, []), (.iload_n 2, []), (.aload_n 0, []), (.getfield 23, [11, 2, 530]), (.getfield 215, [4, 2, 298]), (.iload_n 3, []), (.invokevirtual 349, [225, 1, 2, 1231, 1223, 1224, 0]), (.goto 5, [7])]),
  (65, none, 7, [(.bipush (-2), [])]),
  (67, none, 0, [(.ireturn, [])])])
def pm_X11_stale : sm_M := (yX11_stale, prog_1_method_6_code, 1, none, 0, 0, 0, [768, 1, 1], [
  (0, some [0], 0, [(.aload_n 0, []), (.iconst 0, []), (.putfield 48, [11, 12, 540]), (.aload_n 0, []), (.iconst 0, []), (.putfield 52, [11, 13, 541]), (.aload_n 0, []), (.getfield 75, [11, 7, 535]), (.iconst 0, []), (.putfield 107, [6, 8, 454]), (.aload_n 0, []), (.getfield 84, [11, 8, 536]), (.iconst 0, []), (.putfield 110, [0, 5, 514]), (.aload_n 0, []), (.getfield 75, [11, 7, 535]), (.iconst 0, []), (.putfield 111, [6, 9, 456]), (.return_, [])])])
def pm_X11_stands : sm_M := (yX11_stands, prog_1_method_38_code, 1, (some .int), 0, 0, 0, [1073, 1, 1], [
  (0, some [0], 0, [(.aload_n 0, []), (.getfield 75, [11, 7, 535]), (.aload_n 0, []), (.getfield 37, [11, 9, 537]), (.aload_n 0, []), (.getfield 23, [11, 2, 530]), (.invokevirtual 268, [257, 1, 6, 1074, 1075, 1076, 0]), (.ifCond .eq 7, [2, 1])]),
  (18, none, 0, [(.iconst 0, []), (.goto 4, [3])]),
  (22, none, 3, [(.iconst 1, [])]),
  (23, none, 0, [(.ireturn, [])])])
def pm_X11_tried : sm_M := (yX11_tried, prog_1_method_52_code, 3, (some .int), 2, 0, 0, [1209, 1, 1], [
  (0, some [0, 1, 2], 0, [(.aload_n 0, []), (.invokevirtual 177, [50, 1, 11, 802, 804, 2567, 0]), (.pop, []), (.iload_n 1, []), (.ifCond .lt 20, [2, 1])]),
  (9, none, 0, [(.iload_n 1, []), (.aload_n 0, []), (.getfield 60, [11, 4, 532]), (.getfield 340, [2, 13, 384]), (.sipush 1000, []), (.invokestatic 324, [2, 1199, 867]), (.if_icmp .lt 5, [3, 2])]),
  (26, none, 0, [(.iconst (-1), []), (.ireturn, [])]),
  (28, none, 0, [(.aload_n 0, []), (.getfield 30, [11, 3, 531]), (.iload_n 1, []), (.iload_n 2, []), (.invokevirtual 343, [211, 1, 1, 1210, 1211, 1212, 0]), (.ireturn, [])])])
def pm_X11_walk : sm_M := (yX11_walk, prog_1_method_16_code, 3, (some .int), 2, 0, 0, [788, 1, 1], [
  (0, some [0, 1, 2], 0, [(.aload_n 0, []), (.iload_n 1, []), (.invokevirtual 143, [54, 1, 11, 789, 791, 2566, 0]), (.ifCond .eq 23, [3, 1])]),
  (8, none, 0, [(.aload_n 0, []), (.iload_n 2, []), (.invokevirtual 143, [54, 1, 11, 789, 791, 2566, 0]), (.ifCond .eq 15, [3, 2])]),
  (16, none, 0, [(.aload_n 0, []), (.getfield 37, [11, 9, 537]), (.iload_n 1, []), (.iload_n 2, []), (.invokevirtual 146, [21, 1, 10, 793, 736, 737, 0]), (.goto 4, [4])]),
  (28, none, 4, [(.iconst (-1), [])]),
  (29, none, 0, [(.ireturn, [])])])
def pm_X11_ways : sm_M := (yX11_ways, prog_1_method_20_code, 1, (some .int), 0, 0, 0, [801, 1, 1], [
  (0, some [0], 0, [(.aload_n 0, []), (.invokevirtual 177, [50, 1, 11, 802, 804, 2567, 0]), (.ifCond .eq 13, [2, 1])]),
  (7, none, 0, [(.aload_n 0, []), (.getfield 60, [11, 4, 532]), (.getfield 181, [2, 14, 388]), (.goto 5, [3])]),
  (17, none, 3, [(.bipush (-3), [])]),
  (19, none, 0, [(.ireturn, [])])])
def pm_X11_whereAt : sm_M := (yX11_whereAt, prog_1_method_56_code, 10, (some .int), 3, 0, 0, [1239, 1, 1], [
  (0, some [0, 1, 2, 3], 1, [(.iconst (-1), []), (.istore 4, []), (.iconst (-1), []), (.istore 5, []), (.iconst (-1), []), (.istore 6, []), (.iconst (-1), []), (.istore 7, []), (.iconst 0, []), (.istore 8, [])]),
  (15, some [0, 1, 2, 3, 4, 5, 6, 7, 8], 0, [(.iload 8, []), (.aload_n 0, []), (.getfield 37, [11, 9, 537]), (.getfield 134, [10, 2, 129]), (.if_icmp .ge 104, [14, 2])]),
  (27, none, 0, [(.aload_n 0, []), (.getfield 37, [11, 9, 537]), (.getfield 357, [10, 8, 149]), (.iload 8, []), (.iaload, []), (.iload_n 2, []), (.if_icmp .eq 6, [4, 3])]),
  (41, none, 0, [(.goto 81, [13])]),
  (44, none, 0, [(.aload_n 0, []), (.getfield 60, [11, 4, 532]), (.iload_n 1, []), (.iload 8, []), (.iconst 0, []), (.invokevirtual 204, [224, 1, 2, 935, 936, 937, 0]), (.istore 9, []), (.iload 9, []), (.iload_n 3, []), (.if_icmp .ne 14, [6, 5])]),
  (63, none, 0, [(.aload_n 0, []), (.getfield 37, [11, 9, 537]), (.getfield 360, [10, 9, 153]), (.iload 8, []), (.iaload, []), (.ireturn, [])]),
  (74, none, 0, [(.iload 9, []), (.iload_n 3, []), (.if_icmp .ge 18, [9, 7])]),
  (80, none, 0, [(.iload 9, []), (.iload 6, []), (.if_icmp .le 11, [9, 8])]),
  (87, none, 9, [(.iload 8, []), (.istore 4, []), (.iload 9, []), (.istore 6, [])]),
  (95, some [0, 1, 2, 3, 4, 5, 6, 7, 8, 9], 0, [(.iload 9, []), (.iload_n 3, []), (.if_icmp .le 24, [13, 10])]),
  (101, none, 0, [(.iload 5, []), (.iconst (-1), []), (.if_icmp .eq 10, [12, 11])]),
  (107, none, 0, [(.iload 9, []), (.iload 7, []), (.if_icmp .ge 11, [13, 12])]),
  (114, none, 13, [(.iload 8, []), (.istore 5, []), (.iload 9, []), (.istore 7, [])]),
  (122, some [0, 1, 2, 3, 4, 5, 6, 7, 8], 0, [(.iinc 8 1, []), (.goto (-110), [1])]),
  (128, none, 0, [(.iload 4, []), (.iconst (-1), []), (.if_icmp .ne 6, [16, 15])]),
  (134, none, 0, [(.bipush (-2), []), (.ireturn, [])]),
  (137, none, 0, [(.iload 5, []), (.iconst (-1), []), (.if_icmp .ne 14, [18, 17])]),
  (143, none, 0, [(.aload_n 0, []), (.getfield 37, [11, 9, 537]), (.getfield 360, [10, 9, 153]), (.iload 4, []), (.iaload, []), (.ireturn, [])]),
  (154, none, 0, [(.aload_n 0, []), (.getfield 37, [11, 9, 537]), (.aload_n 0, []), (.getfield 37, [11, 9, 537]), (.getfield 360, [10, 9, 153]), (.iload 4, []), (.iaload, []), (.aload_n 0, []), (.getfield 37, [11, 9, 537]), (.getfield 360, [10, 9, 153]), (.iload 5, []), (.iaload, []), (.invokevirtual 146, [21, 1, 10, 793, 736, 737, 0]), (.istore 8, []), (.iload 8, []), (.ifCond .lt 25, [21, 19])]),
  (188, none, 0, [(.iload_n 3, []), (.iload 7, []), (.iload 8, []), (.isub, []), (.if_icmp .gt 16, [21, 20])]),
  (197, none, 0, [(.aload_n 0, []), (.getfield 37, [11, 9, 537]), (.getfield 360, [10, 9, 153]), (.iload 4, []), (.iaload, []), (.goto 5, [22])]),
  (210, none, 22, [(.bipush (-4), [])]),
  (212, none, 0, [(.ireturn, [])])])
def pm_X12_alone : sm_M := (yX12_alone, prog_14_method_118_code, 2, (some .int), 1, 0, 0, [2095, 14, 1], [
  (0, some [0, 1], 0, [(.aload_n 0, []), (.iload_n 1, []), (.invokevirtual 431, [142, 1, 12, 1756, 1758, 3343, 0]), (.ifCond .eq 29, [3, 1])]),
  (8, none, 0, [(.aload_n 0, []), (.getfield 73, [12, 32, 1336]), (.bipush 10, []), (.aload_n 0, []), (.getfield 263, [12, 18, 1322]), (.imul, []), (.iload_n 1, []), (.iadd, []), (.baload, []), (.ifCond .ne 12, [3, 2])]),
  (25, none, 0, [(.aload_n 0, []), (.getfield 107, [12, 43, 1347]), (.iload_n 1, []), (.baload, []), (.ifCond .eq 5, [4, 3])]),
  (34, none, 0, [(.iconst (-1), []), (.ireturn, [])]),
  (36, none, 0, [(.aload_n 0, []), (.iconst 1, []), (.iload_n 1, []), (.ishl, []), (.invokevirtual 547, [124, 1, 12, 2088, 2090, 4101, 0]), (.ireturn, [])])])
def pm_X12_answers : sm_M := (yX12_answers, prog_14_method_101_code, 6, (some .boolean), 2, 0, 0, [2023, 14, 1], [
  (0, some [0, 1, 2], 0, [(.sipush 248, []), (.bipush 6, []), (.aload_n 0, []), (.getfield 263, [12, 18, 1322]), (.imul, []), (.iadd, []), (.iload_n 1, []), (.iadd, []), (.istore_n 3, []), (.aload_n 0, []), (.getfield 86, [12, 36, 1340]), (.iload_n 3, []), (.iaload, []), (.iconst 1, []), (.iadd, []), (.istore 4, []), (.aload_n 0, []), (.getfield 89, [12, 37, 1341]), (.iload_n 3, []), (.iaload, []), (.iconst 1, []), (.iadd, []), (.istore 5, []), (.iload_n 2, []), (.ifCond .ne 26, [2, 1])]),
  (38, none, 0, [(.aload_n 0, []), (.iload 4, []), (.iload 5, []), (.aload_n 0, []), (.getfield 92, [12, 38, 1342]), (.iload_n 3, []), (.iaload, []), (.aload_n 0, []), (.getfield 95, [12, 39, 1343]), (.iload_n 3, []), (.iaload, []), (.invokevirtual 362, [97, 1, 12, 1812, 1814, 3590, 0]), (.goto 44, [5])]),
  (61, none, 0, [(.iload_n 2, []), (.iconst 1, []), (.if_icmp .ne 22, [4, 3])]),
  (66, none, 0, [(.aload_n 0, []), (.iload 5, []), (.iload 4, []), (.aload_n 0, []), (.getfield 92, [12, 38, 1342]), (.iload_n 3, []), (.iaload, []), (.iconst 1, []), (.isub, []), (.invokevirtual 352, [99, 1, 12, 1804, 1806, 3588, 0]), (.goto 20, [5])]),
  (85, none, 5, [(.aload_n 0, []), (.iload 4, []), (.iload 5, []), (.aload_n 0, []), (.getfield 95, [12, 39, 1343]), (.iload_n 3, []), (.iaload, []), (.ineg, []), (.iconst 1, []), (.isub, []), (.invokevirtual 352, [99, 1, 12, 1804, 1806, 3588, 0])]),
  (102, none, 0, [(.ireturn, [])])])
def pm_X12_appends : sm_M := (yX12_appends, prog_14_method_9_code, 3, (some .long), 2, 0, 0, [1304, 14, 1], [
  (0, some [0, 2], 0, [(.iload_n 2, []), (.ifCond .ne 7, [2, 1])]),
  (4, none, 0, [(.lload_n 0, []), (.goto 16, [3])]),
  (8, none, 3, [(.ldc2_w 209, [27, 1305]), (.lload_n 0, []), (.lmul, []), (.iload_n 2, []), (.bipush 97, []), (.isub, []), (.iconst 1, []), (.iadd, []), (.i2l, []), (.ladd, [])]),
  (21, none, 0, [(.lreturn, [])])])
def pm_X12_ask : sm_M := (yX12_ask, prog_14_method_104_code, 3, (some .int), 2, 0, 0, [2011, 14, 1], [
  (0, some [0, 1, 2], 0, [(.iload_n 1, []), (.iconst 0, []), (.aload_n 0, []), (.getfield 104, [12, 42, 1346]), (.aload_n 0, []), (.getfield 263, [12, 18, 1322]), (.iaload, []), (.iconst 1, []), (.isub, []), (.invokestatic 373, [134, 0, 0, 1745, 1746, 0, 0]), (.ifCond .ne 5, [2, 1])]),
  (19, none, 0, [(.iconst (-1), []), (.ireturn, [])]),
  (21, none, 0, [(.aload_n 0, []), (.invokevirtual 434, [128, 1, 12, 1772, 1774, 3584, 0]), (.aload_n 0, []), (.getfield 425, [12, 71, 1375]), (.ifCond .eq 8, [4, 3])]),
  (32, none, 0, [(.bipush (-3), []), (.goto 29, [11])]),
  (37, none, 0, [(.aload_n 0, []), (.iload_n 2, []), (.ifCond .eq 9, [6, 5])]),
  (42, none, 0, [(.iconst 1, []), (.iload_n 1, []), (.ishl, []), (.goto 4, [7])]),
  (48, none, 7, [(.iconst 0, [])]),
  (49, none, 0, [(.iload_n 2, []), (.ifCond .eq 7, [9, 8])]),
  (53, none, 0, [(.iconst 0, []), (.goto 6, [10])]),
  (57, none, 10, [(.iconst 1, []), (.iload_n 1, []), (.ishl, [])]),
  (60, none, 11, [(.invokevirtual 531, [152, 1, 12, 2012, 2014, 3855, 0])]),
  (63, none, 0, [(.ireturn, [])])])
def pm_X12_asks : sm_M := (yX12_asks, prog_14_method_63_code, 2, (some .int), 1, 0, 0, [1851, 14, 1], [
  (0, some [0, 1], 0, [(.iload_n 1, []), (.ifCond .ge 5, [2, 1])]),
  (4, none, 0, [(.iconst (-1), []), (.ireturn, [])]),
  (6, none, 0, [(.aload_n 0, []), (.invokevirtual 434, [128, 1, 12, 1772, 1774, 3584, 0]), (.aload_n 0, []), (.getfield 425, [12, 71, 1375]), (.ifCond .eq 8, [4, 3])]),
  (17, none, 0, [(.bipush (-3), []), (.goto 16, [7])]),
  (22, none, 0, [(.iload_n 1, []), (.aload_n 0, []), (.getfield 416, [12, 73, 1377]), (.if_icmp .ge 7, [6, 5])]),
  (30, none, 0, [(.iconst 0, []), (.goto 4, [7])]),
  (34, none, 7, [(.iconst (-1), [])]),
  (35, none, 0, [(.ireturn, [])])])
def pm_X12_atMost : sm_M := (yX12_atMost, prog_14_method_40_code, 7, (some .boolean), 3, 0, 0, [1819, 14, 1], [
  (0, some [0, 1, 2, 3], 0, [(.aload_n 0, []), (.getfield 349, [12, 53, 1357]), (.ifCond .eq 8, [2, 1])]),
  (7, none, 0, [(.iload_n 1, []), (.iload_n 2, []), (.if_icmp .ne 11, [3, 2])]),
  (12, none, 0, [(.aload_n 0, []), (.iload_n 1, []), (.iload_n 2, []), (.iload_n 3, []), (.invokevirtual 352, [99, 1, 12, 1804, 1806, 3588, 0]), (.ireturn, [])]),
  (20, none, 0, [(.aload_n 0, []), (.iload_n 1, []), (.invokevirtual 356, [164, 1, 12, 1820, 1822, 3592, 0]), (.istore 4, []), (.aload_n 0, []), (.iload_n 2, []), (.invokevirtual 356, [164, 1, 12, 1820, 1822, 3592, 0]), (.istore 5, []), (.iload_n 3, []), (.iload 4, []), (.iconst (-1), []), (.if_icmp .ne 7, [5, 4])]),
  (41, none, 0, [(.iconst 0, []), (.goto 10, [6])]),
  (45, none, 6, [(.aload_n 0, []), (.getfield 92, [12, 38, 1342]), (.iload 4, []), (.iaload, [])]),
  (52, none, 0, [(.iadd, []), (.iload 5, []), (.iconst (-1), []), (.if_icmp .ne 7, [8, 7])]),
  (59, none, 0, [(.iconst 0, []), (.goto 10, [9])]),
  (63, none, 9, [(.aload_n 0, []), (.getfield 95, [12, 39, 1343]), (.iload 5, []), (.iaload, [])]),
  (70, none, 0, [(.isub, []), (.istore 6, []), (.aload_n 0, []), (.iload 4, []), (.iconst (-1), []), (.if_icmp .ne 7, [11, 10])]),
  (80, none, 0, [(.iload_n 1, []), (.goto 12, [12])]),
  (84, none, 12, [(.aload_n 0, []), (.getfield 89, [12, 37, 1341]), (.iload 4, []), (.iaload, []), (.iconst 1, []), (.iadd, [])]),
  (93, some [0, 2, 5, 6], 0, [(.iload 5, []), (.iconst (-1), []), (.if_icmp .ne 7, [14, 13])]),
  (99, none, 0, [(.iload_n 2, []), (.goto 12, [15])]),
  (103, none, 15, [(.aload_n 0, []), (.getfield 89, [12, 37, 1341]), (.iload 5, []), (.iaload, []), (.iconst 1, []), (.iadd, [])]),
  (112, some [6], 0, [(.iload 6, []), (.invokevirtual 352, [99, 1, 12, 1804, 1806, 3588, 0]), (.ireturn, [])])])
def pm_X12_back : sm_M := (yX12_back, prog_14_method_5_code, 2, (some .int), 1, 0, 0, [1623, 14, 1], [
  (0, some [0, 1], 0, [(.iload_n 1, []), (.ifCond .lt 11, [2, 1])]),
  (4, none, 0, [(.iload_n 1, []), (.aload_n 0, []), (.getfield 199, [12, 2, 1307]), (.if_icmp .le 5, [3, 2])]),
  (12, none, 0, [(.iconst (-1), []), (.ireturn, [])]),
  (14, none, 0, [(.aload_n 0, []), (.dup, []), (.getfield 199, [12, 2, 1307]), (.iload_n 1, []), (.isub, []), (.putfield 199, [12, 2, 1307]), (.aload_n 0, []), (.getfield 199, [12, 2, 1307]), (.ireturn, [])])])
def pm_X12_bears : sm_M := (yX12_bears, prog_14_method_75_code, 8, (some .int), 1, 0, 0, [1899, 14, 1], [
  (0, some [0, 1], 0, [(.aload_n 0, []), (.iload_n 1, []), (.invokevirtual 431, [142, 1, 12, 1756, 1758, 3343, 0]), (.ifCond .ne 5, [2, 1])]),
  (8, none, 0, [(.iconst (-1), []), (.ireturn, [])]),
  (10, none, 3, [(.bipush 10, []), (.aload_n 0, []), (.getfield 263, [12, 18, 1322]), (.imul, []), (.iload_n 1, []), (.iadd, []), (.istore_n 2, []), (.bipush (-2), []), (.istore_n 3, []), (.iconst 0, []), (.istore 4, [])]),
  (26, some [0, 2, 3, 4], 0, [(.iload 4, []), (.aload_n 0, []), (.getfield 80, [12, 34, 1338]), (.iload_n 2, []), (.iaload, []), (.if_icmp .ge 96, [17, 4])]),
  (37, none, 5, [(.iconst 1, []), (.istore 5, []), (.iconst 0, []), (.istore 6, [])]),
  (43, some [0, 2, 3, 4, 5, 6], 0, [(.iload 6, []), (.aload_n 0, []), (.getfield 83, [12, 35, 1339]), (.iconst 4, []), (.iload_n 2, []), (.imul, []), (.iload 4, []), (.iadd, []), (.iaload, []), (.if_icmp .ge 54, [13, 6])]),
  (59, none, 0, [(.aload_n 0, []), (.iconst 3, []), (.iconst 4, []), (.iload_n 2, []), (.imul, []), (.iload 4, []), (.iadd, []), (.imul, []), (.iload 6, []), (.iadd, []), (.invokevirtual 455, [94, 1, 12, 1900, 1902, 3843, 0]), (.istore 7, []), (.iload 7, []), (.bipush (-4), []), (.if_icmp .ne 6, [8, 7])]),
  (83, none, 0, [(.bipush (-4), []), (.ireturn, [])]),
  (86, none, 0, [(.iload 5, []), (.ifCond .eq 13, [11, 9])]),
  (91, none, 0, [(.iload 7, []), (.iconst 1, []), (.if_icmp .ne 7, [11, 10])]),
  (97, none, 0, [(.iconst 1, []), (.goto 4, [12])]),
  (101, none, 12, [(.iconst 0, [])]),
  (102, none, 0, [(.istore 5, []), (.iinc 6 1, []), (.goto (-64), [5])]),
  (110, none, 0, [(.iload 5, []), (.ifCond .eq 12, [16, 14])]),
  (115, none, 0, [(.iload_n 3, []), (.bipush (-2), []), (.if_icmp .ne 6, [16, 15])]),
  (121, none, 16, [(.iload 4, []), (.istore_n 3, [])]),
  (124, none, 0, [(.iinc 4 1, []), (.goto (-101), [3])]),
  (130, none, 0, [(.iload_n 3, []), (.ireturn, [])])])
def pm_X12_bearsSpan : sm_M := (yX12_bearsSpan, prog_14_method_74_code, 4, (some .int), 1, 0, 0, [1903, 14, 1], [
  (0, some [0, 1], 0, [(.aload_n 0, []), (.getfield 110, [12, 44, 1348]), (.aload_n 0, []), (.getfield 86, [12, 36, 1340]), (.iload_n 1, []), (.iaload, []), (.iaload, []), (.istore_n 2, []), (.aload_n 0, []), (.getfield 89, [12, 37, 1341]), (.iload_n 1, []), (.iaload, []), (.iconst (-1), []), (.if_icmp .ne 7, [2, 1])]),
  (22, none, 0, [(.iconst 0, []), (.goto 14, [3])]),
  (26, none, 3, [(.aload_n 0, []), (.getfield 110, [12, 44, 1348]), (.aload_n 0, []), (.getfield 89, [12, 37, 1341]), (.iload_n 1, []), (.iaload, []), (.iaload, [])]),
  (37, none, 0, [(.istore_n 3, []), (.iload_n 2, []), (.iconst (-1), []), (.if_icmp .eq 8, [5, 4])]),
  (43, none, 0, [(.iload_n 3, []), (.iconst (-1), []), (.if_icmp .ne 6, [6, 5])]),
  (48, none, 0, [(.bipush (-4), []), (.ireturn, [])]),
  (51, none, 0, [(.iload_n 2, []), (.iload_n 3, []), (.isub, []), (.aload_n 0, []), (.getfield 92, [12, 38, 1342]), (.iload_n 1, []), (.iaload, []), (.aload_n 0, []), (.getfield 95, [12, 39, 1343]), (.iload_n 1, []), (.iaload, []), (.invokestatic 373, [134, 0, 0, 1745, 1746, 0, 0]), (.ifCond .eq 7, [8, 7])]),
  (72, none, 0, [(.iconst 1, []), (.goto 4, [9])]),
  (76, none, 9, [(.iconst 0, [])]),
  (77, none, 0, [(.ireturn, [])])])
def pm_X12_been : sm_M := (yX12_been, prog_14_method_98_code, 4, (some .int), 3, 0, 0, [1999, 14, 1], [
  (0, some [0, 1, 2, 3], 0, [(.aload_n 0, []), (.iload_n 1, []), (.invokevirtual 504, [141, 1, 12, 1988, 1990, 3851, 0]), (.ifCond .eq 22, [2, 1])]),
  (8, none, 0, [(.iload_n 2, []), (.iconst 0, []), (.aload_n 0, []), (.getfield 52, [12, 25, 1329]), (.aload_n 0, []), (.getfield 263, [12, 18, 1322]), (.iaload, []), (.iconst 1, []), (.isub, []), (.invokestatic 373, [134, 0, 0, 1745, 1746, 0, 0]), (.ifCond .ne 5, [3, 2])]),
  (27, none, 0, [(.iconst (-1), []), (.ireturn, [])]),
  (29, none, 0, [(.aload_n 0, []), (.iload_n 1, []), (.iload_n 2, []), (.invokevirtual 507, [163, 1, 12, 1992, 1994, 3852, 0]), (.aload_n 0, []), (.iconst 0, []), (.putfield 510, [12, 90, 1394]), (.aload_n 0, []), (.aload_n 0, []), (.getfield 61, [12, 28, 1332]), (.aload_n 0, []), (.getfield 263, [12, 18, 1322]), (.iaload, []), (.iconst 2, []), (.iadd, []), (.invokevirtual 419, [96, 1, 12, 1800, 1802, 3587, 0]), (.ifCond .eq 7, [5, 4])]),
  (58, none, 5, [(.aload_n 0, []), (.invokevirtual 513, [155, 1, 12, 2000, 2002, 3853, 0])]),
  (62, none, 0, [(.aload_n 0, []), (.getfield 391, [12, 64, 1368]), (.ifCond .eq 8, [7, 6])]),
  (69, none, 0, [(.bipush (-3), []), (.goto 30, [12])]),
  (74, none, 0, [(.aload_n 0, []), (.getfield 510, [12, 90, 1394]), (.ifCond .ne 8, [9, 8])]),
  (81, none, 0, [(.bipush (-2), []), (.goto 18, [12])]),
  (86, none, 0, [(.iload_n 3, []), (.ifCond .eq 10, [11, 10])]),
  (90, none, 0, [(.aload_n 0, []), (.getfield 516, [12, 92, 1396]), (.goto 7, [12])]),
  (97, none, 12, [(.aload_n 0, []), (.getfield 519, [12, 91, 1395])]),
  (101, none, 0, [(.ireturn, [])])])
def pm_X12_begins : sm_M := (yX12_begins, prog_14_method_43_code, 4, (some .boolean), 1, 0, 0, [1803, 14, 1], [
  (0, some [0, 1], 1, [(.aload_n 0, []), (.iload_n 1, []), (.putfield 346, [12, 51, 1355]), (.aload_n 0, []), (.iconst 0, []), (.putfield 343, [12, 52, 1356]), (.iconst 0, []), (.istore_n 2, [])]),
  (12, some [0, 2], 0, [(.iload_n 2, []), (.sipush 169, []), (.if_icmp .ge 40, [7, 2])]),
  (19, none, 0, [(.aload_n 0, []), (.getfield 125, [12, 50, 1354]), (.iload_n 2, []), (.iload_n 2, []), (.bipush 13, []), (.idiv, []), (.iload_n 2, []), (.bipush 13, []), (.irem, []), (.if_icmp .eq 10, [4, 3])]),
  (35, none, 0, [(.iload_n 2, []), (.bipush 13, []), (.irem, []), (.ifCond .ne 7, [5, 4])]),
  (42, none, 0, [(.iconst 0, []), (.goto 6, [6])]),
  (46, none, 6, [(.sipush 1440, [])]),
  (49, none, 0, [(.iastore, []), (.iinc 2 1, []), (.goto (-41), [1])]),
  (56, none, 8, [(.iconst 1, []), (.istore_n 2, []), (.sipush 240, []), (.iconst 4, []), (.aload_n 0, []), (.getfield 263, [12, 18, 1322]), (.imul, []), (.iadd, []), (.istore_n 3, [])]),
  (69, some [0, 2, 3], 0, [(.iload_n 3, []), (.sipush 240, []), (.iconst 4, []), (.aload_n 0, []), (.getfield 263, [12, 18, 1322]), (.imul, []), (.iadd, []), (.aload_n 0, []), (.getfield 98, [12, 40, 1344]), (.aload_n 0, []), (.getfield 263, [12, 18, 1322]), (.iaload, []), (.iadd, []), (.if_icmp .ge 84, [18, 9])]),
  (93, none, 0, [(.iload_n 2, []), (.ifCond .eq 80, [18, 10])]),
  (97, none, 0, [(.aload_n 0, []), (.getfield 349, [12, 53, 1357]), (.ifCond .eq 60, [16, 11])]),
  (104, none, 0, [(.aload_n 0, []), (.aload_n 0, []), (.getfield 89, [12, 37, 1341]), (.iload_n 3, []), (.iaload, []), (.iconst 1, []), (.iadd, []), (.iconst 0, []), (.aload_n 0, []), (.getfield 92, [12, 38, 1342]), (.iload_n 3, []), (.iaload, []), (.invokevirtual 352, [99, 1, 12, 1804, 1806, 3588, 0]), (.ifCond .eq 33, [14, 12])]),
  (126, none, 0, [(.aload_n 0, []), (.iconst 0, []), (.aload_n 0, []), (.getfield 89, [12, 37, 1341]), (.iload_n 3, []), (.iaload, []), (.iconst 1, []), (.iadd, []), (.sipush 1440, []), (.aload_n 0, []), (.getfield 95, [12, 39, 1343]), (.iload_n 3, []), (.iaload, []), (.isub, []), (.invokevirtual 352, [99, 1, 12, 1804, 1806, 3588, 0]), (.ifCond .eq 7, [14, 13])]),
  (152, none, 0, [(.iconst 1, []), (.goto 4, [15])]),
  (156, none, 15, [(.iconst 0, [])]),
  (157, none, 0, [(.istore_n 2, []), (.goto 10, [17])]),
  (161, none, 17, [(.aload_n 0, []), (.iload_n 3, []), (.iconst 0, []), (.invokevirtual 366, [132, 1, 12, 1808, 1810, 3589, 0]), (.istore_n 2, [])]),
  (168, none, 0, [(.iinc 3 1, []), (.goto (-102), [8])]),
  (174, none, 19, [(.iconst 0, []), (.istore_n 3, [])]),
  (176, some [0, 2, 3], 0, [(.iload_n 3, []), (.aload_n 0, []), (.getfield 275, [12, 54, 1358]), (.if_icmp .ge 46, [22, 20])]),
  (184, none, 0, [(.iload_n 2, []), (.ifCond .eq 42, [22, 21])]),
  (188, none, 0, [(.aload_n 0, []), (.aload_n 0, []), (.getfield 128, [12, 55, 1359]), (.iload_n 3, []), (.iaload, []), (.iconst 1, []), (.iadd, []), (.aload_n 0, []), (.getfield 131, [12, 56, 1360]), (.iload_n 3, []), (.iaload, []), (.iconst 1, []), (.iadd, []), (.aload_n 0, []), (.getfield 134, [12, 57, 1361]), (.iload_n 3, []), (.iaload, []), (.aload_n 0, []), (.getfield 137, [12, 58, 1362]), (.iload_n 3, []), (.iaload, []), (.invokevirtual 362, [97, 1, 12, 1812, 1814, 3590, 0]), (.istore_n 2, []), (.iinc 3 1, []), (.goto (-48), [19])]),
  (227, none, 0, [(.iload_n 2, []), (.ireturn, [])])])
def pm_X12_between : sm_M := (yX12_between, prog_14_method_41_code, 5, (some .boolean), 4, 0, 0, [1815, 14, 1], [
  (0, some [0, 1, 2, 3, 4], 0, [(.aload_n 0, []), (.iload_n 2, []), (.iload_n 1, []), (.iload 4, []), (.invokevirtual 359, [91, 1, 12, 1816, 1818, 3591, 0]), (.ifCond .eq 18, [3, 1])]),
  (11, none, 0, [(.aload_n 0, []), (.iload_n 1, []), (.iload_n 2, []), (.iload_n 3, []), (.ineg, []), (.invokevirtual 359, [91, 1, 12, 1816, 1818, 3591, 0]), (.ifCond .eq 7, [3, 2])]),
  (22, none, 0, [(.iconst 1, []), (.goto 4, [4])]),
  (26, none, 4, [(.iconst 0, [])]),
  (27, none, 0, [(.ireturn, [])])])
def pm_X12_bits : sm_M := (yX12_bits, prog_14_method_77_code, 3, (some .int), 1, 0, 0, [1926, 14, 1], [
  (0, some [0], 1, [(.iconst 0, []), (.istore_n 1, []), (.iconst 0, []), (.istore_n 2, [])]),
  (4, some [0, 1, 2], 0, [(.iload_n 2, []), (.bipush 10, []), (.if_icmp .ge 17, [3, 2])]),
  (10, none, 0, [(.iload_n 1, []), (.iload_n 0, []), (.iload_n 2, []), (.ishr, []), (.iconst 1, []), (.iand, []), (.iadd, []), (.istore_n 1, []), (.iinc 2 1, []), (.goto (-17), [1])]),
  (24, none, 0, [(.iload_n 1, []), (.ireturn, [])])])
def pm_X12_bound : sm_M := (yX12_bound, prog_14_method_38_code, 8, (some .boolean), 3, 0, 0, [1807, 14, 1], [
  (0, some [0, 1, 2, 3], 0, [(.sipush 169, []), (.aload_n 0, []), (.getfield 343, [12, 52, 1356]), (.imul, []), (.istore 4, []), (.aload_n 0, []), (.getfield 125, [12, 50, 1354]), (.iload 4, []), (.bipush 13, []), (.iload_n 2, []), (.imul, []), (.iadd, []), (.iload_n 1, []), (.iadd, []), (.iaload, []), (.iload_n 3, []), (.iadd, []), (.ifCond .ge 5, [2, 1])]),
  (29, none, 0, [(.iconst 0, []), (.ireturn, [])]),
  (31, none, 0, [(.iload_n 3, []), (.aload_n 0, []), (.getfield 125, [12, 50, 1354]), (.iload 4, []), (.bipush 13, []), (.iload_n 1, []), (.imul, []), (.iadd, []), (.iload_n 2, []), (.iadd, []), (.iaload, []), (.if_icmp .lt 5, [4, 3])]),
  (49, none, 0, [(.iconst 1, []), (.ireturn, [])]),
  (51, none, 5, [(.iconst 0, []), (.istore 5, [])]),
  (54, some [0, 1, 2, 3, 4, 5], 0, [(.iload 5, []), (.aload_n 0, []), (.getfield 346, [12, 51, 1355]), (.if_icmp .ge 101, [12, 6])]),
  (63, none, 7, [(.iconst 0, []), (.istore 6, [])]),
  (66, some [0, 1, 2, 3, 4, 5, 6], 0, [(.iload 6, []), (.aload_n 0, []), (.getfield 346, [12, 51, 1355]), (.if_icmp .ge 83, [11, 8])]),
  (75, none, 0, [(.aload_n 0, []), (.getfield 125, [12, 50, 1354]), (.iload 4, []), (.bipush 13, []), (.iload 5, []), (.imul, []), (.iadd, []), (.iload_n 1, []), (.iadd, []), (.iaload, []), (.iload_n 3, []), (.iadd, []), (.aload_n 0, []), (.getfield 125, [12, 50, 1354]), (.iload 4, []), (.bipush 13, []), (.iload_n 2, []), (.imul, []), (.iadd, []), (.iload 6, []), (.iadd, []), (.iaload, []), (.iadd, []), (.istore 7, []), (.iload 7, []), (.aload_n 0, []), (.getfield 125, [12, 50, 1354]), (.iload 4, []), (.bipush 13, []), (.iload 5, []), (.imul, []), (.iadd, []), (.iload 6, []), (.iadd, []), (.iaload, []), (.if_icmp .ge 21, [10, 9])]),
  (131, none, 10, [(.aload_n 0, []), (.getfield 125, [12, 50, 1354]), (.iload 4, []), (.bipush 13, []), (.iload 5, []), (.imul, []), (.iadd, []), (.iload 6, []), (.iadd, []), (.iload 7, []), (.iastore, [])]),
  (149, none, 0, [(.iinc 6 1, []), (.goto (-86), [7])]),
  (155, none, 0, [(.iinc 5 1, []), (.goto (-104), [5])]),
  (161, none, 0, [(.iconst 1, []), (.ireturn, [])])])
def pm_X12_breaks : sm_M := (yX12_breaks, prog_14_method_76_code, 5, (some .int), 0, 0, 0, [1907, 14, 1], [
  (0, some [0], 1, [(.iconst 0, []), (.istore_n 1, [])]),
  (2, some [0, 1], 0, [(.iload_n 1, []), (.aload_n 0, []), (.getfield 340, [12, 46, 1350]), (.if_icmp .ge 85, [12, 2])]),
  (10, none, 0, [(.aload_n 0, []), (.getfield 110, [12, 44, 1348]), (.aload_n 0, []), (.getfield 116, [12, 47, 1351]), (.iload_n 1, []), (.iaload, []), (.iaload, []), (.istore_n 2, []), (.aload_n 0, []), (.getfield 110, [12, 44, 1348]), (.aload_n 0, []), (.getfield 119, [12, 48, 1352]), (.iload_n 1, []), (.iaload, []), (.iaload, []), (.istore_n 3, []), (.iload_n 2, []), (.iconst (-1), []), (.if_icmp .eq 50, [11, 3])]),
  (39, none, 0, [(.iload_n 3, []), (.iconst (-1), []), (.if_icmp .ne 6, [5, 4])]),
  (44, none, 0, [(.goto 42, [11])]),
  (47, none, 0, [(.iload_n 2, []), (.iload_n 3, []), (.if_icmp .ge 9, [7, 6])]),
  (52, none, 0, [(.iload_n 3, []), (.iload_n 2, []), (.isub, []), (.goto 6, [8])]),
  (58, none, 8, [(.iload_n 2, []), (.iload_n 3, []), (.isub, [])]),
  (61, none, 0, [(.istore 4, []), (.aload_n 0, []), (.getfield 122, [12, 49, 1353]), (.iload_n 1, []), (.iaload, []), (.iconst (-1), []), (.if_icmp .eq 14, [10, 9])]),
  (73, none, 0, [(.iload 4, []), (.aload_n 0, []), (.getfield 122, [12, 49, 1353]), (.iload_n 1, []), (.iaload, []), (.if_icmp .ge 5, [11, 10])]),
  (84, none, 0, [(.iload_n 1, []), (.ireturn, [])]),
  (86, none, 0, [(.iinc 1 1, []), (.goto (-87), [1])]),
  (92, none, 0, [(.bipush (-2), []), (.ireturn, [])])])
def pm_X12_byteAt : sm_M := (yX12_byteAt, prog_14_method_6_code, 2, (some .int), 1, 0, 0, [1635, 14, 1], [
  (0, some [0, 1], 0, [(.iload_n 1, []), (.aload_n 0, []), (.getfield 206, [12, 4, 1309]), (.if_icmp .ge 16, [2, 1])]),
  (8, none, 0, [(.aload_n 0, []), (.getfield 17, [12, 3, 1308]), (.iload_n 1, []), (.baload, []), (.sipush 255, []), (.iand, []), (.goto 4, [3])]),
  (21, none, 3, [(.iconst 0, [])]),
  (22, none, 0, [(.ireturn, [])])])
def pm_X12_can : sm_M := (yX12_can, prog_14_method_71_code, 5, (some .int), 2, 0, 0, [1883, 14, 1], [
  (0, some [0, 1, 2], 0, [(.aload_n 0, []), (.iload_n 1, []), (.invokevirtual 370, [143, 1, 12, 1741, 1743, 3342, 0]), (.ifCond .eq 11, [2, 1])]),
  (8, none, 0, [(.aload_n 0, []), (.iload_n 2, []), (.invokevirtual 452, [140, 1, 12, 1884, 1886, 3842, 0]), (.ifCond .ne 5, [3, 2])]),
  (16, none, 0, [(.iconst (-1), []), (.ireturn, [])]),
  (18, none, 0, [(.aload_n 0, []), (.invokevirtual 434, [128, 1, 12, 1772, 1774, 3584, 0]), (.aload_n 0, []), (.getfield 425, [12, 71, 1375]), (.ifCond .eq 6, [5, 4])]),
  (29, none, 0, [(.bipush (-3), []), (.ireturn, [])]),
  (32, none, 6, [(.iconst 0, []), (.istore_n 3, []), (.iconst 0, []), (.istore 4, [])]),
  (37, some [0, 1, 2, 3, 4], 0, [(.iload 4, []), (.aload_n 0, []), (.getfield 416, [12, 73, 1377]), (.if_icmp .ge 48, [12, 7])]),
  (46, none, 0, [(.aload_n 0, []), (.iload 4, []), (.iconst 0, []), (.invokevirtual 444, [149, 1, 12, 1864, 1866, 3840, 0]), (.ifCond .eq 32, [11, 8])]),
  (56, none, 0, [(.aload_n 0, []), (.iload_n 1, []), (.iconst 1, []), (.iadd, []), (.iconst 0, []), (.iconst 0, []), (.invokevirtual 448, [122, 1, 12, 1868, 1870, 3841, 0]), (.iload_n 2, []), (.if_icmp .gt 19, [11, 9])]),
  (69, none, 0, [(.aload_n 0, []), (.iload_n 1, []), (.iconst 1, []), (.iadd, []), (.iconst 0, []), (.iconst 1, []), (.invokevirtual 448, [122, 1, 12, 1868, 1870, 3841, 0]), (.iload_n 2, []), (.if_icmp .lt 6, [11, 10])]),
  (82, none, 11, [(.iinc 3 1, [])]),
  (85, none, 0, [(.iinc 4 1, []), (.goto (-51), [6])]),
  (91, none, 0, [(.iload_n 3, []), (.ireturn, [])])])
def pm_X12_changes : sm_M := (yX12_changes, prog_14_method_20_code, 1, none, 0, 0, 0, [1732, 14, 1], [
  (0, some [0], 0, [(.aload_n 0, []), (.iconst 0, []), (.putfield 287, [12, 70, 1374]), (.aload_n 0, []), (.iconst 0, []), (.putfield 291, [12, 79, 1383]), (.return_, [])])])
def pm_X12_cheapest : sm_M := (yX12_cheapest, prog_14_method_85_code, 3, (some .int), 0, 0, 0, [1942, 14, 1], [
  (0, some [0], 0, [(.aload_n 0, []), (.invokevirtual 476, [183, 1, 12, 1912, 1914, 3844, 0]), (.aload_n 0, []), (.getfield 458, [12, 80, 1384]), (.ifCond .eq 6, [2, 1])]),
  (11, none, 0, [(.bipush (-3), []), (.ireturn, [])]),
  (14, none, 3, [(.bipush (-2), []), (.istore_n 1, []), (.iconst 0, []), (.istore_n 2, [])]),
  (19, some [0, 1, 2], 0, [(.iload_n 2, []), (.aload_n 0, []), (.getfield 464, [12, 84, 1388]), (.if_icmp .ge 40, [8, 4])]),
  (27, none, 0, [(.iload_n 1, []), (.bipush (-2), []), (.if_icmp .eq 21, [6, 5])]),
  (33, none, 0, [(.aload_n 0, []), (.aload_n 0, []), (.getfield 174, [12, 85, 1389]), (.iload_n 2, []), (.iaload, []), (.invokevirtual 479, [200, 1, 12, 1943, 1945, 3847, 0]), (.aload_n 0, []), (.iload_n 1, []), (.invokevirtual 479, [200, 1, 12, 1943, 1945, 3847, 0]), (.if_icmp .ge 10, [7, 6])]),
  (51, none, 7, [(.aload_n 0, []), (.getfield 174, [12, 85, 1389]), (.iload_n 2, []), (.iaload, []), (.istore_n 1, [])]),
  (58, none, 0, [(.iinc 2 1, []), (.goto (-42), [3])]),
  (64, none, 0, [(.iload_n 1, []), (.ireturn, [])])])
def pm_X12_choice : sm_M := (yX12_choice, prog_14_method_65_code, 4, (some .int), 2, 0, 0, [1847, 14, 1], [
  (0, some [0, 1, 2], 0, [(.aload_n 0, []), (.iload_n 2, []), (.invokevirtual 431, [142, 1, 12, 1756, 1758, 3343, 0]), (.ifCond .ne 5, [2, 1])]),
  (8, none, 0, [(.iconst (-1), []), (.ireturn, [])]),
  (10, none, 0, [(.aload_n 0, []), (.iload_n 1, []), (.invokevirtual 437, [90, 1, 12, 1848, 1850, 3598, 0]), (.istore_n 3, []), (.iload_n 3, []), (.ifCond .eq 5, [4, 3])]),
  (20, none, 0, [(.iload_n 3, []), (.ireturn, [])]),
  (22, none, 0, [(.aload_n 0, []), (.getfield 107, [12, 43, 1347]), (.iload_n 2, []), (.baload, []), (.ifCond .eq 6, [6, 5])]),
  (31, none, 0, [(.bipush (-2), []), (.ireturn, [])]),
  (34, none, 0, [(.aload_n 0, []), (.aload_n 0, []), (.invokevirtual 407, [201, 1, 12, 1792, 1794, 3585, 0]), (.invokevirtual 410, [153, 1, 12, 1796, 1798, 3586, 0]), (.aload_n 0, []), (.iload_n 1, []), (.iload_n 2, []), (.invokevirtual 440, [106, 1, 12, 1852, 1854, 3599, 0]), (.ireturn, [])])])
def pm_X12_choiceOf : sm_M := (yX12_choiceOf, prog_14_method_64_code, 5, (some .int), 2, 0, 0, [1855, 14, 1], [
  (0, some [0, 1, 2], 1, [(.iconst (-1), []), (.istore_n 3, []), (.iconst 0, []), (.istore 4, [])]),
  (5, some [0, 1, 2, 3, 4], 0, [(.iload 4, []), (.aload_n 0, []), (.getfield 382, [12, 59, 1363]), (.if_icmp .ge 33, [5, 2])]),
  (14, none, 0, [(.aload_n 0, []), (.getfield 140, [12, 60, 1364]), (.iload 4, []), (.iaload, []), (.iload_n 2, []), (.if_icmp .ne 16, [4, 3])]),
  (25, none, 4, [(.aload_n 0, []), (.getfield 156, [12, 75, 1379]), (.bipush 55, []), (.iload_n 1, []), (.imul, []), (.iload 4, []), (.iadd, []), (.baload, []), (.istore_n 3, [])]),
  (38, none, 0, [(.iinc 4 1, []), (.goto (-36), [1])]),
  (44, none, 0, [(.iload_n 3, []), (.ireturn, [])])])
def pm_X12_choices : sm_M := (yX12_choices, prog_14_method_46_code, 3, (some .int), 1, 0, 0, [1831, 14, 1], [
  (0, some [0, 1], 0, [(.iload_n 1, []), (.bipush 10, []), (.if_icmp .ge 18, [2, 1])]),
  (6, none, 0, [(.aload_n 0, []), (.getfield 80, [12, 34, 1338]), (.bipush 10, []), (.aload_n 0, []), (.getfield 263, [12, 18, 1322]), (.imul, []), (.iload_n 1, []), (.iadd, []), (.iaload, []), (.ireturn, [])]),
  (21, none, 0, [(.iload_n 1, []), (.bipush 60, []), (.if_icmp .ge 15, [4, 3])]),
  (27, none, 0, [(.aload_n 0, []), (.getfield 122, [12, 49, 1353]), (.iload_n 1, []), (.bipush 10, []), (.isub, []), (.iaload, []), (.goto 12, [5])]),
  (39, none, 5, [(.aload_n 0, []), (.getfield 152, [12, 66, 1370]), (.iload_n 1, []), (.bipush 60, []), (.isub, []), (.iaload, [])]),
  (48, none, 0, [(.istore_n 2, []), (.iload_n 2, []), (.iconst (-1), []), (.if_icmp .ne 7, [7, 6])]),
  (54, none, 0, [(.iconst 0, []), (.goto 4, [8])]),
  (58, none, 8, [(.iconst 2, [])]),
  (59, none, 0, [(.ireturn, [])])])
def pm_X12_chooses : sm_M := (yX12_chooses, prog_14_method_47_code, 6, (some .boolean), 2, 0, 0, [1839, 14, 1], [
  (0, some [0, 1, 2], 0, [(.iload_n 1, []), (.bipush 10, []), (.if_icmp .ge 80, [10, 1])]),
  (6, none, 0, [(.iconst 4, []), (.bipush 10, []), (.aload_n 0, []), (.getfield 263, [12, 18, 1322]), (.imul, []), (.iload_n 1, []), (.iadd, []), (.imul, []), (.iload_n 2, []), (.iadd, []), (.istore_n 3, []), (.aload_n 0, []), (.getfield 376, [12, 68, 1372]), (.iload_n 1, []), (.ishr, []), (.iconst 1, []), (.iand, []), (.iconst 1, []), (.if_icmp .ne 10, [3, 2])]),
  (32, none, 0, [(.aload_n 0, []), (.getfield 379, [12, 69, 1373]), (.goto 4, [4])]),
  (39, none, 4, [(.iconst 0, [])]),
  (40, none, 5, [(.istore 4, []), (.iconst 3, []), (.iload_n 3, []), (.imul, []), (.istore 5, [])]),
  (47, some [0, 3, 4, 5], 0, [(.iload 5, []), (.iconst 3, []), (.iload_n 3, []), (.imul, []), (.aload_n 0, []), (.getfield 83, [12, 35, 1339]), (.iload_n 3, []), (.iaload, []), (.iadd, []), (.if_icmp .ge 22, [9, 6])]),
  (62, none, 0, [(.aload_n 0, []), (.iload 5, []), (.iload 4, []), (.invokevirtual 366, [132, 1, 12, 1808, 1810, 3589, 0]), (.ifCond .ne 5, [8, 7])]),
  (73, none, 0, [(.iconst 0, []), (.ireturn, [])]),
  (75, none, 0, [(.iinc 5 1, []), (.goto (-31), [5])]),
  (81, none, 0, [(.iconst 1, []), (.ireturn, [])]),
  (83, none, 0, [(.iload_n 1, []), (.bipush 60, []), (.if_icmp .ge 15, [12, 11])]),
  (89, none, 0, [(.aload_n 0, []), (.getfield 122, [12, 49, 1353]), (.iload_n 1, []), (.bipush 10, []), (.isub, []), (.iaload, []), (.goto 12, [13])]),
  (101, none, 13, [(.aload_n 0, []), (.getfield 152, [12, 66, 1370]), (.iload_n 1, []), (.bipush 60, []), (.isub, []), (.iaload, [])]),
  (110, none, 0, [(.istore_n 3, []), (.iload_n 1, []), (.bipush 60, []), (.if_icmp .ge 17, [15, 14])]),
  (117, none, 0, [(.aload_n 0, []), (.getfield 116, [12, 47, 1351]), (.iload_n 1, []), (.bipush 10, []), (.isub, []), (.iaload, []), (.iconst 1, []), (.iadd, []), (.goto 14, [16])]),
  (131, none, 16, [(.aload_n 0, []), (.getfield 149, [12, 65, 1369]), (.iload_n 1, []), (.bipush 60, []), (.isub, []), (.iaload, []), (.iconst 1, []), (.iadd, [])]),
  (142, none, 0, [(.istore 4, []), (.iload_n 1, []), (.bipush 60, []), (.if_icmp .ge 17, [18, 17])]),
  (150, none, 0, [(.aload_n 0, []), (.getfield 119, [12, 48, 1352]), (.iload_n 1, []), (.bipush 10, []), (.isub, []), (.iaload, []), (.iconst 1, []), (.iadd, []), (.goto 14, [19])]),
  (164, none, 19, [(.aload_n 0, []), (.getfield 61, [12, 28, 1332]), (.aload_n 0, []), (.getfield 263, [12, 18, 1322]), (.iaload, []), (.iconst 1, []), (.iadd, [])]),
  (175, some [0, 2, 3, 4], 0, [(.istore 5, []), (.iload_n 2, []), (.ifCond .ne 16, [21, 20])]),
  (181, none, 0, [(.aload_n 0, []), (.iload 5, []), (.iload 4, []), (.iload_n 3, []), (.ineg, []), (.invokevirtual 359, [91, 1, 12, 1816, 1818, 3591, 0]), (.goto 13, [22])]),
  (194, none, 22, [(.aload_n 0, []), (.iload 4, []), (.iload 5, []), (.iload_n 3, []), (.ineg, []), (.invokevirtual 359, [91, 1, 12, 1816, 1818, 3591, 0])]),
  (204, some [], 0, [(.ireturn, [])])])
def pm_X12_copies : sm_M := (yX12_copies, prog_14_method_37_code, 4, none, 2, 0, 0, [1835, 14, 1], [
  (0, some [0, 1, 2], 1, [(.iconst 0, []), (.istore_n 3, [])]),
  (2, some [0, 1, 2, 3], 0, [(.iload_n 3, []), (.sipush 169, []), (.if_icmp .ge 33, [3, 2])]),
  (9, none, 0, [(.aload_n 0, []), (.getfield 125, [12, 50, 1354]), (.sipush 169, []), (.iload_n 2, []), (.imul, []), (.iload_n 3, []), (.iadd, []), (.aload_n 0, []), (.getfield 125, [12, 50, 1354]), (.sipush 169, []), (.iload_n 1, []), (.imul, []), (.iload_n 3, []), (.iadd, []), (.iaload, []), (.iastore, []), (.iinc 3 1, []), (.goto (-34), [1])]),
  (39, none, 0, [(.return_, [])])])
def pm_X12_could : sm_M := (yX12_could, prog_14_method_97_code, 7, (some .int), 4, 0, 0, [1987, 14, 1], [
  (0, some [0, 1, 2, 3, 4], 0, [(.aload_n 0, []), (.iload_n 1, []), (.invokevirtual 504, [141, 1, 12, 1988, 1990, 3851, 0]), (.ifCond .eq 39, [4, 1])]),
  (8, none, 0, [(.iload_n 2, []), (.iconst 0, []), (.aload_n 0, []), (.getfield 52, [12, 25, 1329]), (.aload_n 0, []), (.getfield 263, [12, 18, 1322]), (.iaload, []), (.iconst 1, []), (.isub, []), (.invokestatic 373, [134, 0, 0, 1745, 1746, 0, 0]), (.ifCond .eq 20, [4, 2])]),
  (27, none, 0, [(.aload_n 0, []), (.iload_n 3, []), (.invokevirtual 452, [140, 1, 12, 1884, 1886, 3842, 0]), (.ifCond .eq 12, [4, 3])]),
  (35, none, 0, [(.aload_n 0, []), (.iload 4, []), (.invokevirtual 452, [140, 1, 12, 1884, 1886, 3842, 0]), (.ifCond .ne 5, [5, 4])]),
  (44, none, 0, [(.iconst (-1), []), (.ireturn, [])]),
  (46, none, 0, [(.iload_n 3, []), (.iload 4, []), (.if_icmp .le 5, [7, 6])]),
  (52, none, 0, [(.iconst 0, []), (.ireturn, [])]),
  (54, none, 0, [(.aload_n 0, []), (.iload_n 1, []), (.iload_n 2, []), (.invokevirtual 507, [163, 1, 12, 1992, 1994, 3852, 0]), (.aload_n 0, []), (.getfield 61, [12, 28, 1332]), (.aload_n 0, []), (.getfield 263, [12, 18, 1322]), (.iaload, []), (.iconst 1, []), (.iadd, []), (.istore 5, []), (.aload_n 0, []), (.iload 5, []), (.iconst 1, []), (.iadd, []), (.invokevirtual 419, [96, 1, 12, 1800, 1802, 3587, 0]), (.ifCond .eq 28, [11, 8])]),
  (84, none, 0, [(.aload_n 0, []), (.iload 5, []), (.iconst 0, []), (.iload_n 3, []), (.iload 4, []), (.invokevirtual 362, [97, 1, 12, 1812, 1814, 3590, 0]), (.ifCond .eq 15, [11, 9])]),
  (97, none, 0, [(.aload_n 0, []), (.iconst 0, []), (.invokevirtual 422, [179, 1, 12, 1824, 1826, 3593, 0]), (.ifCond .le 7, [11, 10])]),
  (105, none, 0, [(.iconst 1, []), (.goto 4, [12])]),
  (109, none, 12, [(.iconst 0, [])]),
  (110, some [0], 0, [(.istore 6, []), (.aload_n 0, []), (.getfield 391, [12, 64, 1368]), (.ifCond .eq 8, [14, 13])]),
  (119, none, 0, [(.bipush (-3), []), (.goto 13, [17])]),
  (124, none, 0, [(.iload 6, []), (.ifCond .eq 7, [16, 15])]),
  (129, none, 0, [(.iconst 1, []), (.goto 4, [17])]),
  (133, none, 17, [(.iconst 0, [])]),
  (134, some [], 0, [(.ireturn, [])])])
def pm_X12_count : sm_M := (yX12_count, prog_14_method_122_code, 2, (some .int), 1, 0, 0, [2111, 14, 1], [
  (0, some [0, 1], 0, [(.iload_n 1, []), (.tableswitch 116 0 7 #[47, 57, 67, 77, 87, 97, 102, 111], [9, 1, 2, 3, 4, 5, 6, 7, 8])]),
  (48, none, 0, [(.aload_n 0, []), (.getfield 49, [12, 24, 1328]), (.aload_n 0, []), (.getfield 263, [12, 18, 1322]), (.iaload, []), (.ireturn, [])]),
  (58, none, 0, [(.aload_n 0, []), (.getfield 52, [12, 25, 1329]), (.aload_n 0, []), (.getfield 263, [12, 18, 1322]), (.iaload, []), (.ireturn, [])]),
  (68, none, 0, [(.aload_n 0, []), (.getfield 61, [12, 28, 1332]), (.aload_n 0, []), (.getfield 263, [12, 18, 1322]), (.iaload, []), (.ireturn, [])]),
  (78, none, 0, [(.aload_n 0, []), (.getfield 70, [12, 31, 1335]), (.aload_n 0, []), (.getfield 263, [12, 18, 1322]), (.iaload, []), (.ireturn, [])]),
  (88, none, 0, [(.aload_n 0, []), (.getfield 104, [12, 42, 1346]), (.aload_n 0, []), (.getfield 263, [12, 18, 1322]), (.iaload, []), (.ireturn, [])]),
  (98, none, 0, [(.aload_n 0, []), (.getfield 340, [12, 46, 1350]), (.ireturn, [])]),
  (103, none, 0, [(.aload_n 0, []), (.invokevirtual 434, [128, 1, 12, 1772, 1774, 3584, 0]), (.aload_n 0, []), (.getfield 428, [12, 72, 1376]), (.ireturn, [])]),
  (112, none, 0, [(.aload_n 0, []), (.getfield 199, [12, 2, 1307]), (.ireturn, [])]),
  (117, none, 0, [(.aload_n 0, []), (.iload_n 1, []), (.bipush 10, []), (.isub, []), (.invokevirtual 431, [142, 1, 12, 1756, 1758, 3343, 0]), (.ifCond .eq 23, [11, 10])]),
  (128, none, 0, [(.aload_n 0, []), (.getfield 80, [12, 34, 1338]), (.bipush 10, []), (.aload_n 0, []), (.getfield 263, [12, 18, 1322]), (.imul, []), (.iload_n 1, []), (.iadd, []), (.bipush 10, []), (.isub, []), (.iaload, []), (.goto 4, [12])]),
  (148, none, 12, [(.iconst (-1), [])]),
  (149, none, 0, [(.ireturn, [])])])
def pb_X12_cut_0 : sm_B := (0, some [0], 1, [(.aload_n 0, []), (.iconst 0, []), (.putfield 215, [12, 10, 1315]), (.iconst 0, []), (.istore_n 1, [])])
def pb_X12_cut_1 : sm_B := (7, some [0, 1], 0, [(.aload_n 0, []), (.getfield 215, [12, 10, 1315]), (.sipush 500, []), (.if_icmp .gt 278, [37, 2])])
def pb_X12_cut_2 : sm_B := (17, none, 0, [(.aload_n 0, []), (.iload_n 1, []), (.invokevirtual 218, [101, 1, 12, 1632, 1634, 3079, 0]), (.istore_n 2, []), (.iload_n 1, []), (.aload_n 0, []), (.getfield 206, [12, 4, 1309]), (.if_icmp .lt 15, [4, 3])])
def pb_X12_cut_3 : sm_B := (31, none, 0, [(.aload_n 0, []), (.iconst 0, []), (.aload_n 0, []), (.getfield 206, [12, 4, 1309]), (.iconst 0, []), (.lconst 0, []), (.invokevirtual 222, [197, 1, 12, 1636, 1638, 3080, 0]), (.return_, [])])
def pb_X12_cut_4 : sm_B := (43, none, 0, [(.iload_n 2, []), (.bipush 9, []), (.if_icmp .eq 21, [8, 5])])
def pb_X12_cut_5 : sm_B := (49, none, 0, [(.iload_n 2, []), (.bipush 10, []), (.if_icmp .eq 15, [8, 6])])
def pb_X12_cut_6 : sm_B := (55, none, 0, [(.iload_n 2, []), (.bipush 13, []), (.if_icmp .eq 9, [8, 7])])
def pb_X12_cut_7 : sm_B := (61, none, 0, [(.iload_n 2, []), (.bipush 32, []), (.if_icmp .ne 9, [9, 8])])
def pb_X12_cut_8 : sm_B := (67, none, 0, [(.iinc 1 1, []), (.goto 219, [36])])
def pb_X12_cut_9 : sm_B := (73, none, 0, [(.iload_n 2, []), (.invokestatic 226, [139, 0, 0, 1640, 1641, 0, 0]), (.ifCond .eq 119, [25, 10])])
def pb_X12_cut_10 : sm_B := (80, none, 11, [(.iconst 0, []), (.istore_n 3, []), (.lconst 0, []), (.lstore 4, [])])
def pb_X12_cut_11 : sm_B := (85, some [0, 1, 3, 4], 0, [(.aload_n 0, []), (.iload_n 1, []), (.iload_n 3, []), (.iadd, []), (.invokevirtual 218, [101, 1, 12, 1632, 1634, 3079, 0]), (.invokestatic 226, [139, 0, 0, 1640, 1641, 0, 0]), (.ifCond .eq 29, [15, 12])])
def pb_X12_cut_12 : sm_B := (98, none, 0, [(.iload_n 3, []), (.bipush 8, []), (.if_icmp .ge 17, [14, 13])])
def pb_X12_cut_13 : sm_B := (104, none, 14, [(.lload 4, []), (.aload_n 0, []), (.iload_n 1, []), (.iload_n 3, []), (.iadd, []), (.invokevirtual 218, [101, 1, 12, 1632, 1634, 3079, 0]), (.invokestatic 211, [88, 0, 0, 1302, 1303, 0, 0]), (.lstore 4, [])])
def pb_X12_cut_14 : sm_B := (118, none, 0, [(.iinc 3 1, []), (.goto (-36), [11])])
def pb_X12_cut_15 : sm_B := (124, none, 0, [(.iload_n 3, []), (.bipush 8, []), (.if_icmp .le 7, [17, 16])])
def pb_X12_cut_16 : sm_B := (130, none, 0, [(.iconst 3, []), (.goto 4, [18])])
def pb_X12_cut_17 : sm_B := (134, none, 18, [(.iconst 1, [])])
def pb_X12_cut_18 : sm_B := (135, none, 0, [(.istore 6, []), (.iload_n 3, []), (.bipush 7, []), (.if_icmp .gt 39, [24, 19])])
def pb_X12_cut_19 : sm_B := (143, none, 20, [(.iconst 0, []), (.istore 7, [])])
def pb_X12_cut_20 : sm_B := (146, some [0, 1, 3, 4, 6, 7], 0, [(.iload 7, []), (.bipush 15, []), (.if_icmp .ge 29, [24, 21])])
def pb_X12_cut_21 : sm_B := (153, none, 0, [(.aload_n 0, []), (.getfield 34, [12, 9, 1314]), (.iload 7, []), (.laload, []), (.lload 4, []), (.lcmp, []), (.ifCond .ne 10, [23, 22])])
def pb_X12_cut_22 : sm_B := (166, none, 23, [(.bipush 20, []), (.iload 7, []), (.iadd, []), (.istore 6, [])])
def pb_X12_cut_23 : sm_B := (173, none, 0, [(.iinc 7 1, []), (.goto (-30), [20])])
def pb_X12_cut_24 : sm_B := (179, none, 0, [(.aload_n 0, []), (.iload 6, []), (.iload_n 1, []), (.iconst 0, []), (.lload 4, []), (.invokevirtual 222, [197, 1, 12, 1636, 1638, 3080, 0]), (.iload_n 1, []), (.iload_n 3, []), (.iadd, []), (.istore_n 1, []), (.goto 96, [36])])
def pb_X12_cut_25 : sm_B := (196, none, 0, [(.iload_n 2, []), (.invokestatic 230, [137, 0, 0, 1643, 1644, 0, 0]), (.ifCond .eq 75, [35, 26])])
def pb_X12_cut_26 : sm_B := (203, none, 27, [(.iconst 0, []), (.istore_n 3, []), (.iconst 0, []), (.istore 4, [])])
def pb_X12_cut_27 : sm_B := (208, some [0, 1, 3, 4], 0, [(.aload_n 0, []), (.iload_n 1, []), (.iload_n 3, []), (.iadd, []), (.invokevirtual 218, [101, 1, 12, 1632, 1634, 3079, 0]), (.invokestatic 230, [137, 0, 0, 1643, 1644, 0, 0]), (.ifCond .eq 32, [31, 28])])
def pb_X12_cut_28 : sm_B := (221, none, 0, [(.iload_n 3, []), (.iconst 4, []), (.if_icmp .ge 21, [30, 29])])
def pb_X12_cut_29 : sm_B := (226, none, 30, [(.bipush 10, []), (.iload 4, []), (.imul, []), (.aload_n 0, []), (.iload_n 1, []), (.iload_n 3, []), (.iadd, []), (.invokevirtual 218, [101, 1, 12, 1632, 1634, 3079, 0]), (.iadd, []), (.bipush 48, []), (.isub, []), (.istore 4, [])])
def pb_X12_cut_30 : sm_B := (244, none, 0, [(.iinc 3 1, []), (.goto (-39), [27])])
def pb_X12_cut_31 : sm_B := (250, none, 0, [(.aload_n 0, []), (.iload_n 3, []), (.iconst 4, []), (.if_icmp .le 7, [33, 32])])
def pb_X12_cut_32 : sm_B := (256, none, 0, [(.iconst 3, []), (.goto 4, [34])])
def pb_X12_cut_33 : sm_B := (260, none, 34, [(.iconst 2, [])])
def pb_X12_cut_34 : sm_B := (261, none, 0, [(.iload_n 1, []), (.iload 4, []), (.lconst 0, []), (.invokevirtual 222, [197, 1, 12, 1636, 1638, 3080, 0]), (.iload_n 1, []), (.iload_n 3, []), (.iadd, []), (.istore_n 1, []), (.goto 17, [36])])
def pb_X12_cut_35 : sm_B := (275, none, 36, [(.aload_n 0, []), (.iload_n 2, []), (.invokestatic 233, [184, 0, 0, 1646, 1647, 0, 0]), (.iload_n 1, []), (.iconst 0, []), (.lconst 0, []), (.invokevirtual 222, [197, 1, 12, 1636, 1638, 3080, 0]), (.iinc 1 1, [])])
def pb_X12_cut_36 : sm_B := (289, none, 0, [(.goto (-282), [1])])
def pb_X12_cut_37 : sm_B := (292, none, 0, [(.return_, [])])
def pm_X12_cut : sm_M := (yX12_cut, prog_14_method_12_code, 8, none, 0, 0, 0, [1631, 14, 1], [
  pb_X12_cut_0,
  pb_X12_cut_1,
  pb_X12_cut_2,
  pb_X12_cut_3,
  pb_X12_cut_4,
  pb_X12_cut_5,
  pb_X12_cut_6,
  pb_X12_cut_7,
  pb_X12_cut_8,
  pb_X12_cut_9,
  pb_X12_cut_10,
  pb_X12_cut_11,
  pb_X12_cut_12,
  pb_X12_cut_13,
  pb_X12_cut_14,
  pb_X12_cut_15,
  pb_X12_cut_16,
  pb_X12_cut_17,
  pb_X12_cut_18,
  pb_X12_cut_19,
  pb_X12_cut_20,
  pb_X12_cut_21,
  pb_X12_cut_22,
  pb_X12_cut_23,
  pb_X12_cut_24,
  pb_X12_cut_25,
  pb_X12_cut_26,
  pb_X12_cut_27,
  pb_X12_cut_28,
  pb_X12_cut_29,
  pb_X12_cut_30,
  pb_X12_cut_31,
  pb_X12_cut_32,
  pb_X12_cut_33,
  pb_X12_cut_34,
  pb_X12_cut_35,
  pb_X12_cut_36,
  pb_X12_cut_37])
def pm_X12_doubt : sm_M := (yX12_doubt, prog_14_method_59_code, 3, (some .boolean), 2, 0, 0, [1755, 14, 1], [
  (0, some [0, 1, 2], 0, [(.aload_n 0, []), (.iload_n 1, []), (.invokevirtual 431, [142, 1, 12, 1756, 1758, 3343, 0]), (.ifCond .eq 20, [2, 1])]),
  (8, none, 0, [(.aload_n 0, []), (.getfield 73, [12, 32, 1336]), (.bipush 10, []), (.aload_n 0, []), (.getfield 263, [12, 18, 1322]), (.imul, []), (.iload_n 1, []), (.iadd, []), (.baload, []), (.ifCond .eq 5, [3, 2])]),
  (25, none, 0, [(.iconst 0, []), (.ireturn, [])]),
  (27, none, 0, [(.aload_n 0, []), (.getfield 107, [12, 43, 1347]), (.iload_n 1, []), (.iload_n 2, []), (.bastore, []), (.iload_n 2, []), (.ifCond .eq 10, [5, 4])]),
  (38, none, 5, [(.aload_n 0, []), (.getfield 177, [12, 86, 1390]), (.iload_n 1, []), (.iconst (-1), []), (.iastore, [])]),
  (45, none, 0, [(.aload_n 0, []), (.invokevirtual 284, [103, 1, 12, 1729, 1731, 3341, 0]), (.iconst 1, []), (.ireturn, [])])])
def pb_X12_drawn_0 : sm_B := (0, some [0, 1, 2, 3], 0, [(.aload_n 0, []), (.iload_n 2, []), (.invokevirtual 504, [141, 1, 12, 1988, 1990, 3851, 0]), (.ifCond .eq 11, [2, 1])])
def pb_X12_drawn_1 : sm_B := (8, none, 0, [(.aload_n 0, []), (.iload_n 3, []), (.invokevirtual 452, [140, 1, 12, 1884, 1886, 3842, 0]), (.ifCond .ne 5, [3, 2])])
def pb_X12_drawn_2 : sm_B := (16, none, 0, [(.iconst (-1), []), (.ireturn, [])])
def pb_X12_drawn_3 : sm_B := (18, none, 0, [(.aload_n 0, []), (.iload_n 1, []), (.invokevirtual 437, [90, 1, 12, 1848, 1850, 3598, 0]), (.istore 4, []), (.iload 4, []), (.ifCond .eq 6, [5, 4])])
def pb_X12_drawn_4 : sm_B := (30, none, 0, [(.iload 4, []), (.ireturn, [])])
def pb_X12_drawn_5 : sm_B := (33, none, 0, [(.aload_n 0, []), (.iload_n 1, []), (.iconst 0, []), (.invokevirtual 444, [149, 1, 12, 1864, 1866, 3840, 0]), (.ifCond .ne 5, [7, 6])])
def pb_X12_drawn_6 : sm_B := (42, none, 0, [(.iconst (-1), []), (.ireturn, [])])
def pb_X12_drawn_7 : sm_B := (44, none, 8, [(.iconst (-1), []), (.istore 5, []), (.iconst (-1), []), (.istore 6, []), (.iconst 0, []), (.istore 7, [])])
def pb_X12_drawn_8 : sm_B := (53, some [0, 2, 3, 5, 6, 7], 0, [(.iload 7, []), (.aload_n 0, []), (.getfield 61, [12, 28, 1332]), (.aload_n 0, []), (.getfield 263, [12, 18, 1322]), (.iaload, []), (.if_icmp .ge 127, [22, 9])])
def pb_X12_drawn_9 : sm_B := (67, none, 0, [(.aload_n 0, []), (.getfield 64, [12, 29, 1333]), (.bipush 10, []), (.aload_n 0, []), (.getfield 263, [12, 18, 1322]), (.imul, []), (.iload 7, []), (.iadd, []), (.iaload, []), (.iload_n 2, []), (.if_icmp .eq 6, [11, 10])])
def pb_X12_drawn_10 : sm_B := (86, none, 0, [(.goto 99, [21])])
def pb_X12_drawn_11 : sm_B := (89, none, 0, [(.aload_n 0, []), (.iload 7, []), (.iconst 1, []), (.iadd, []), (.iconst 0, []), (.iconst 0, []), (.invokevirtual 448, [122, 1, 12, 1868, 1870, 3841, 0]), (.istore 8, []), (.iload 8, []), (.iload_n 3, []), (.if_icmp .ne 19, [13, 12])])
def pb_X12_drawn_12 : sm_B := (107, none, 0, [(.aload_n 0, []), (.getfield 67, [12, 30, 1334]), (.bipush 10, []), (.aload_n 0, []), (.getfield 263, [12, 18, 1322]), (.imul, []), (.iload 7, []), (.iadd, []), (.iaload, []), (.ireturn, [])])
def pb_X12_drawn_13 : sm_B := (123, none, 0, [(.iload 8, []), (.iload_n 3, []), (.if_icmp .ge 28, [17, 14])])
def pb_X12_drawn_14 : sm_B := (129, none, 0, [(.iload 5, []), (.iconst (-1), []), (.if_icmp .eq 18, [16, 15])])
def pb_X12_drawn_15 : sm_B := (135, none, 0, [(.iload 8, []), (.aload_n 0, []), (.iload 5, []), (.iconst 1, []), (.iadd, []), (.iconst 0, []), (.iconst 0, []), (.invokevirtual 448, [122, 1, 12, 1868, 1870, 3841, 0]), (.if_icmp .le 7, [17, 16])])
def pb_X12_drawn_16 : sm_B := (150, none, 17, [(.iload 7, []), (.istore 5, [])])
def pb_X12_drawn_17 : sm_B := (154, some [0, 2, 3, 5, 6, 7, 8], 0, [(.iload 8, []), (.iload_n 3, []), (.if_icmp .le 28, [21, 18])])
def pb_X12_drawn_18 : sm_B := (160, none, 0, [(.iload 6, []), (.iconst (-1), []), (.if_icmp .eq 18, [20, 19])])
def pb_X12_drawn_19 : sm_B := (166, none, 0, [(.iload 8, []), (.aload_n 0, []), (.iload 6, []), (.iconst 1, []), (.iadd, []), (.iconst 0, []), (.iconst 0, []), (.invokevirtual 448, [122, 1, 12, 1868, 1870, 3841, 0]), (.if_icmp .ge 7, [21, 20])])
def pb_X12_drawn_20 : sm_B := (181, none, 21, [(.iload 7, []), (.istore 6, [])])
def pb_X12_drawn_21 : sm_B := (185, some [0, 2, 3, 5, 6, 7], 0, [(.iinc 7 1, []), (.goto (-135), [8])])
def pb_X12_drawn_22 : sm_B := (191, none, 0, [(.iload 5, []), (.iconst (-1), []), (.if_icmp .ne 6, [24, 23])])
def pb_X12_drawn_23 : sm_B := (197, none, 0, [(.bipush (-2), []), (.ireturn, [])])
def pb_X12_drawn_24 : sm_B := (200, none, 0, [(.aload_n 0, []), (.getfield 67, [12, 30, 1334]), (.bipush 10, []), (.aload_n 0, []), (.getfield 263, [12, 18, 1322]), (.imul, []), (.iload 5, []), (.iadd, []), (.iaload, []), (.istore 7, []), (.iload 6, []), (.iconst (-1), []), (.if_icmp .ne 6, [26, 25])])
def pb_X12_drawn_25 : sm_B := (223, none, 0, [(.iload 7, []), (.ireturn, [])])
def pb_X12_drawn_26 : sm_B := (226, none, 0, [(.aload_n 0, []), (.getfield 113, [12, 45, 1349]), (.bipush 6, []), (.iload 7, []), (.imul, []), (.aload_n 0, []), (.getfield 67, [12, 30, 1334]), (.bipush 10, []), (.aload_n 0, []), (.getfield 263, [12, 18, 1322]), (.imul, []), (.iload 6, []), (.iadd, []), (.iaload, []), (.iadd, []), (.iaload, []), (.istore 8, []), (.iload 8, []), (.iconst (-1), []), (.if_icmp .eq 25, [29, 27])])
def pb_X12_drawn_27 : sm_B := (260, none, 0, [(.iload_n 3, []), (.aload_n 0, []), (.iload 6, []), (.iconst 1, []), (.iadd, []), (.iconst 0, []), (.iconst 0, []), (.invokevirtual 448, [122, 1, 12, 1868, 1870, 3841, 0]), (.iload 8, []), (.isub, []), (.if_icmp .gt 8, [29, 28])])
def pb_X12_drawn_28 : sm_B := (277, none, 0, [(.iload 7, []), (.goto 5, [30])])
def pb_X12_drawn_29 : sm_B := (282, none, 30, [(.bipush (-4), [])])
def pb_X12_drawn_30 : sm_B := (284, none, 0, [(.ireturn, [])])
def pm_X12_drawn : sm_M := (yX12_drawn, prog_14_method_115_code, 9, (some .int), 3, 0, 0, [2083, 14, 1], [
  pb_X12_drawn_0,
  pb_X12_drawn_1,
  pb_X12_drawn_2,
  pb_X12_drawn_3,
  pb_X12_drawn_4,
  pb_X12_drawn_5,
  pb_X12_drawn_6,
  pb_X12_drawn_7,
  pb_X12_drawn_8,
  pb_X12_drawn_9,
  pb_X12_drawn_10,
  pb_X12_drawn_11,
  pb_X12_drawn_12,
  pb_X12_drawn_13,
  pb_X12_drawn_14,
  pb_X12_drawn_15,
  pb_X12_drawn_16,
  pb_X12_drawn_17,
  pb_X12_drawn_18,
  pb_X12_drawn_19,
  pb_X12_drawn_20,
  pb_X12_drawn_21,
  pb_X12_drawn_22,
  pb_X12_drawn_23,
  pb_X12_drawn_24,
  pb_X12_drawn_25,
  pb_X12_drawn_26,
  pb_X12_drawn_27,
  pb_X12_drawn_28,
  pb_X12_drawn_29,
  pb_X12_drawn_30])
def pm_X12_ends : sm_M := (yX12_ends, prog_14_method_70_code, 6, (some .int), 2, 0, 0, [1879, 14, 1], [
  (0, some [0, 1, 2], 0, [(.aload_n 0, []), (.iload_n 1, []), (.invokevirtual 370, [143, 1, 12, 1741, 1743, 3342, 0]), (.ifCond .ne 5, [2, 1])]),
  (8, none, 0, [(.iconst (-1), []), (.ireturn, [])]),
  (10, none, 0, [(.aload_n 0, []), (.invokevirtual 434, [128, 1, 12, 1772, 1774, 3584, 0]), (.aload_n 0, []), (.getfield 425, [12, 71, 1375]), (.ifCond .eq 6, [4, 3])]),
  (21, none, 0, [(.bipush (-3), []), (.ireturn, [])]),
  (24, none, 5, [(.bipush (-2), []), (.istore_n 3, []), (.iconst 0, []), (.istore 4, [])]),
  (30, some [0, 1, 2, 3, 4], 0, [(.iload 4, []), (.aload_n 0, []), (.getfield 416, [12, 73, 1377]), (.if_icmp .ge 61, [15, 6])]),
  (39, none, 0, [(.aload_n 0, []), (.iload 4, []), (.iconst 0, []), (.invokevirtual 444, [149, 1, 12, 1864, 1866, 3840, 0]), (.ifCond .ne 6, [8, 7])]),
  (49, none, 0, [(.goto 42, [14])]),
  (52, none, 0, [(.aload_n 0, []), (.iload_n 1, []), (.iconst 1, []), (.iadd, []), (.iconst 0, []), (.iload_n 2, []), (.invokevirtual 448, [122, 1, 12, 1868, 1870, 3841, 0]), (.istore 5, []), (.iload_n 3, []), (.bipush (-2), []), (.if_icmp .eq 22, [13, 9])]),
  (69, none, 0, [(.iload_n 2, []), (.ifCond .eq 12, [12, 10])]),
  (73, none, 0, [(.iload 5, []), (.iload_n 3, []), (.if_icmp .le 15, [14, 11])]),
  (79, none, 0, [(.goto 9, [13])]),
  (82, none, 0, [(.iload 5, []), (.iload_n 3, []), (.if_icmp .ge 6, [14, 13])]),
  (88, none, 14, [(.iload 5, []), (.istore_n 3, [])]),
  (91, none, 0, [(.iinc 4 1, []), (.goto (-64), [5])]),
  (97, none, 0, [(.iload_n 3, []), (.ireturn, [])])])
def pm_X12_fail : sm_M := (yX12_fail, prog_14_method_15_code, 2, none, 1, 0, 0, [1660, 14, 1], [
  (0, some [0, 1], 0, [(.aload_n 0, []), (.getfield 236, [12, 13, 1317]), (.ifCond .le 4, [2, 1])]),
  (7, none, 0, [(.return_, [])]),
  (8, none, 0, [(.aload_n 0, []), (.iload_n 1, []), (.putfield 236, [12, 13, 1317]), (.aload_n 0, []), (.aload_n 0, []), (.getfield 24, [12, 6, 1311]), (.aload_n 0, []), (.getfield 239, [12, 11, 1316]), (.iaload, []), (.putfield 242, [12, 14, 1318]), (.return_, [])])])
def pm_X12_feed : sm_M := (yX12_feed, prog_14_method_3_code, 6, (some .int), 5, 0, 0, [1615, 14, 1], [
  (0, some [0, 1, 2, 3, 4, 5], 0, [(.aload_n 0, []), (.getfield 199, [12, 2, 1307]), (.bipush 20, []), (.iadd, []), (.sipush 2000, []), (.if_icmp .le 5, [2, 1])]),
  (13, none, 0, [(.iconst (-1), []), (.ireturn, [])]),
  (15, none, 0, [(.aload_n 0, []), (.iload_n 1, []), (.invokevirtual 202, [172, 1, 12, 1616, 1618, 3077, 0]), (.aload_n 0, []), (.iload_n 2, []), (.invokevirtual 202, [172, 1, 12, 1616, 1618, 3077, 0]), (.aload_n 0, []), (.iload_n 3, []), (.invokevirtual 202, [172, 1, 12, 1616, 1618, 3077, 0]), (.aload_n 0, []), (.iload 4, []), (.invokevirtual 202, [172, 1, 12, 1616, 1618, 3077, 0]), (.aload_n 0, []), (.iload 5, []), (.invokevirtual 202, [172, 1, 12, 1616, 1618, 3077, 0]), (.aload_n 0, []), (.getfield 199, [12, 2, 1307]), (.ireturn, [])])])
def pm_X12_fewer : sm_M := (yX12_fewer, prog_14_method_45_code, 1, (some .int), 0, 0, 0, [1751, 14, 1], [
  (0, some [0], 0, [(.aload_n 0, []), (.getfield 275, [12, 54, 1358]), (.ifCond .ne 5, [2, 1])]),
  (7, none, 0, [(.iconst (-1), []), (.ireturn, [])]),
  (9, none, 0, [(.aload_n 0, []), (.dup, []), (.getfield 275, [12, 54, 1358]), (.iconst 1, []), (.isub, []), (.putfield 275, [12, 54, 1358]), (.aload_n 0, []), (.invokevirtual 284, [103, 1, 12, 1729, 1731, 3341, 0]), (.aload_n 0, []), (.getfield 275, [12, 54, 1358]), (.ireturn, [])])])
def pm_X12_first : sm_M := (yX12_first, prog_14_method_110_code, 2, (some .int), 1, 0, 0, [2063, 14, 1], [
  (0, some [0, 1], 0, [(.aload_n 0, []), (.iload_n 1, []), (.iconst 1, []), (.invokevirtual 540, [169, 1, 12, 2052, 2054, 4098, 0]), (.ireturn, [])])])
def pm_X12_forced : sm_M := (yX12_forced, prog_14_method_72_code, 5, (some .int), 1, 0, 0, [1891, 14, 1], [
  (0, some [0, 1], 0, [(.aload_n 0, []), (.iload_n 1, []), (.invokevirtual 431, [142, 1, 12, 1756, 1758, 3343, 0]), (.ifCond .eq 12, [2, 1])]),
  (8, none, 0, [(.aload_n 0, []), (.getfield 107, [12, 43, 1347]), (.iload_n 1, []), (.baload, []), (.ifCond .eq 5, [3, 2])]),
  (17, none, 0, [(.iconst (-1), []), (.ireturn, [])]),
  (19, none, 0, [(.aload_n 0, []), (.invokevirtual 434, [128, 1, 12, 1772, 1774, 3584, 0]), (.aload_n 0, []), (.getfield 425, [12, 71, 1375]), (.ifCond .eq 6, [5, 4])]),
  (30, none, 0, [(.bipush (-3), []), (.ireturn, [])]),
  (33, none, 6, [(.aload_n 0, []), (.iconst 0, []), (.putfield 385, [12, 67, 1371]), (.aload_n 0, []), (.aload_n 0, []), (.invokevirtual 407, [201, 1, 12, 1792, 1794, 3585, 0]), (.invokevirtual 410, [153, 1, 12, 1796, 1798, 3586, 0]), (.bipush (-2), []), (.istore_n 2, []), (.iconst 0, []), (.istore_n 3, [])]),
  (51, some [0, 1, 2, 3], 0, [(.iload_n 3, []), (.aload_n 0, []), (.getfield 416, [12, 73, 1377]), (.if_icmp .ge 33, [11, 7])]),
  (59, none, 0, [(.aload_n 0, []), (.iload_n 3, []), (.iload_n 1, []), (.invokevirtual 440, [106, 1, 12, 1852, 1854, 3599, 0]), (.istore 4, []), (.iload_n 3, []), (.ifCond .le 12, [10, 8])]),
  (71, none, 0, [(.iload 4, []), (.iload_n 2, []), (.if_icmp .eq 6, [10, 9])]),
  (77, none, 0, [(.bipush (-2), []), (.ireturn, [])]),
  (80, none, 0, [(.iload 4, []), (.istore_n 2, []), (.iinc 3 1, []), (.goto (-35), [6])]),
  (89, none, 0, [(.iload_n 2, []), (.ireturn, [])])])
def pm_X12_gap : sm_M := (yX12_gap, prog_14_method_69_code, 5, (some .int), 4, 0, 0, [1875, 14, 1], [
  (0, some [0, 1, 2, 3, 4], 0, [(.aload_n 0, []), (.iload_n 2, []), (.invokevirtual 370, [143, 1, 12, 1741, 1743, 3342, 0]), (.ifCond .eq 28, [4, 1])]),
  (8, none, 0, [(.aload_n 0, []), (.iload_n 3, []), (.invokevirtual 370, [143, 1, 12, 1741, 1743, 3342, 0]), (.ifCond .eq 20, [4, 2])]),
  (16, none, 0, [(.aload_n 0, []), (.iload_n 1, []), (.invokevirtual 437, [90, 1, 12, 1848, 1850, 3598, 0]), (.ifCond .ne 12, [4, 3])]),
  (24, none, 0, [(.aload_n 0, []), (.iload_n 1, []), (.iconst 0, []), (.invokevirtual 444, [149, 1, 12, 1864, 1866, 3840, 0]), (.ifCond .ne 7, [5, 4])]),
  (33, none, 0, [(.sipush (-10000), []), (.ireturn, [])]),
  (37, none, 0, [(.aload_n 0, []), (.iload_n 2, []), (.iconst 1, []), (.iadd, []), (.iload_n 3, []), (.iconst 1, []), (.iadd, []), (.iload 4, []), (.invokevirtual 448, [122, 1, 12, 1868, 1870, 3841, 0]), (.ireturn, [])])])
def pm_X12_gapNow : sm_M := (yX12_gapNow, prog_14_method_67_code, 4, (some .int), 3, 0, 0, [1871, 14, 1], [
  (0, some [0, 1, 2, 3], 0, [(.iload_n 3, []), (.ifCond .eq 21, [2, 1])]),
  (4, none, 0, [(.aload_n 0, []), (.getfield 125, [12, 50, 1354]), (.sipush 169, []), (.bipush 13, []), (.iload_n 2, []), (.imul, []), (.iadd, []), (.iload_n 1, []), (.iadd, []), (.iaload, []), (.goto 19, [3])]),
  (22, none, 3, [(.aload_n 0, []), (.getfield 125, [12, 50, 1354]), (.sipush 169, []), (.bipush 13, []), (.iload_n 1, []), (.imul, []), (.iadd, []), (.iload_n 2, []), (.iadd, []), (.iaload, []), (.ineg, [])]),
  (38, none, 0, [(.ireturn, [])])])
def pm_X12_give : sm_M := (yX12_give, prog_14_method_117_code, 1, (some .int), 0, 0, 0, [2087, 14, 1], [
  (0, some [0], 0, [(.aload_n 0, []), (.aload_n 0, []), (.invokevirtual 407, [201, 1, 12, 1792, 1794, 3585, 0]), (.aload_n 0, []), (.invokevirtual 467, [187, 1, 12, 1916, 1918, 3845, 0]), (.iconst (-1), []), (.ixor, []), (.iand, []), (.invokevirtual 547, [124, 1, 12, 2088, 2090, 4101, 0]), (.ireturn, [])])])
def pm_X12_gives : sm_M := (yX12_gives, prog_14_method_116_code, 6, (some .int), 1, 0, 0, [2091, 14, 1], [
  (0, some [0, 1], 1, [(.aload_n 0, []), (.iload_n 1, []), (.putfield 376, [12, 68, 1372]), (.aload_n 0, []), (.iconst 0, []), (.putfield 385, [12, 67, 1371]), (.iconst 0, []), (.istore_n 2, []), (.sipush 1441, []), (.istore_n 3, [])]),
  (16, some [0, 2, 3], 0, [(.iload_n 2, []), (.iload_n 3, []), (.if_icmp .ge 55, [8, 2])]),
  (21, none, 0, [(.iload_n 2, []), (.iload_n 3, []), (.iadd, []), (.iconst 2, []), (.idiv, []), (.istore 4, []), (.aload_n 0, []), (.iload 4, []), (.putfield 379, [12, 69, 1373]), (.aload_n 0, []), (.aload_n 0, []), (.invokevirtual 407, [201, 1, 12, 1792, 1794, 3585, 0]), (.invokevirtual 470, [131, 1, 12, 1920, 1922, 3846, 0]), (.istore 5, []), (.aload_n 0, []), (.getfield 391, [12, 64, 1368]), (.ifCond .eq 6, [4, 3])]),
  (51, none, 0, [(.bipush (-3), []), (.ireturn, [])]),
  (54, none, 0, [(.iload 5, []), (.ifCond .eq 9, [6, 5])]),
  (59, none, 0, [(.iload 4, []), (.istore_n 3, []), (.goto 8, [7])]),
  (65, none, 7, [(.iload 4, []), (.iconst 1, []), (.iadd, []), (.istore_n 2, [])]),
  (70, none, 0, [(.goto (-54), [1])]),
  (73, none, 0, [(.iload_n 2, []), (.ireturn, [])])])
def pm_X12_givingUp : sm_M := (yX12_givingUp, prog_14_method_83_code, 2, (some .int), 1, 0, 0, [1938, 14, 1], [
  (0, some [0, 1], 0, [(.iload_n 1, []), (.ifCond .ge 5, [2, 1])]),
  (4, none, 0, [(.iconst (-1), []), (.ireturn, [])]),
  (6, none, 0, [(.aload_n 0, []), (.invokevirtual 476, [183, 1, 12, 1912, 1914, 3844, 0]), (.aload_n 0, []), (.getfield 458, [12, 80, 1384]), (.ifCond .eq 8, [4, 3])]),
  (17, none, 0, [(.bipush (-3), []), (.goto 21, [7])]),
  (22, none, 0, [(.iload_n 1, []), (.aload_n 0, []), (.getfield 464, [12, 84, 1388]), (.if_icmp .ge 12, [6, 5])]),
  (30, none, 0, [(.aload_n 0, []), (.getfield 174, [12, 85, 1389]), (.iload_n 1, []), (.iaload, []), (.goto 4, [7])]),
  (39, none, 7, [(.iconst (-1), [])]),
  (40, none, 0, [(.ireturn, [])])])
def pm_X12_givingUps : sm_M := (yX12_givingUps, prog_14_method_82_code, 1, (some .int), 0, 0, 0, [1934, 14, 1], [
  (0, some [0], 0, [(.aload_n 0, []), (.invokevirtual 476, [183, 1, 12, 1912, 1914, 3844, 0]), (.aload_n 0, []), (.getfield 458, [12, 80, 1384]), (.ifCond .eq 8, [2, 1])]),
  (11, none, 0, [(.bipush (-3), []), (.goto 7, [3])]),
  (16, none, 3, [(.aload_n 0, []), (.getfield 464, [12, 84, 1388])]),
  (20, none, 0, [(.ireturn, [])])])
def pm_X12_goes : sm_M := (yX12_goes, prog_14_method_66_code, 4, (some .int), 2, 0, 0, [1859, 14, 1], [
  (0, some [0, 1, 2], 0, [(.iload_n 2, []), (.iconst 0, []), (.aload_n 0, []), (.getfield 340, [12, 46, 1350]), (.iconst 1, []), (.isub, []), (.invokestatic 373, [134, 0, 0, 1745, 1746, 0, 0]), (.ifCond .ne 5, [2, 1])]),
  (14, none, 0, [(.iconst (-1), []), (.ireturn, [])]),
  (16, none, 0, [(.aload_n 0, []), (.iload_n 1, []), (.invokevirtual 437, [90, 1, 12, 1848, 1850, 3598, 0]), (.istore_n 3, []), (.iload_n 3, []), (.ifCond .eq 5, [4, 3])]),
  (26, none, 0, [(.iload_n 3, []), (.ireturn, [])]),
  (28, none, 0, [(.aload_n 0, []), (.iconst 0, []), (.putfield 385, [12, 67, 1371]), (.aload_n 0, []), (.aload_n 0, []), (.invokevirtual 407, [201, 1, 12, 1792, 1794, 3585, 0]), (.invokevirtual 410, [153, 1, 12, 1796, 1798, 3586, 0]), (.aload_n 0, []), (.iload_n 1, []), (.bipush 10, []), (.iload_n 2, []), (.iadd, []), (.invokevirtual 440, [106, 1, 12, 1852, 1854, 3599, 0]), (.ireturn, [])])])
def pm_X12_goesAll : sm_M := (yX12_goesAll, prog_14_method_52_code, 1, none, 0, 0, 0, [1775, 14, 1], [
  (0, some [0], 0, [(.aload_n 0, []), (.getfield 287, [12, 70, 1374]), (.ifCond .eq 4, [2, 1])]),
  (7, none, 0, [(.return_, [])]),
  (8, none, 0, [(.aload_n 0, []), (.iconst 0, []), (.putfield 349, [12, 53, 1357]), (.aload_n 0, []), (.iconst 0, []), (.putfield 376, [12, 68, 1372]), (.aload_n 0, []), (.iconst 0, []), (.putfield 385, [12, 67, 1371]), (.aload_n 0, []), (.aload_n 0, []), (.invokevirtual 407, [201, 1, 12, 1792, 1794, 3585, 0]), (.invokevirtual 410, [153, 1, 12, 1796, 1798, 3586, 0]), (.aload_n 0, []), (.aload_n 0, []), (.getfield 382, [12, 59, 1363]), (.putfield 413, [12, 74, 1378]), (.aload_n 0, []), (.iconst 0, []), (.putfield 416, [12, 73, 1377]), (.aload_n 0, []), (.iconst 0, []), (.putfield 388, [12, 63, 1367]), (.aload_n 0, []), (.iconst 0, []), (.putfield 391, [12, 64, 1368]), (.aload_n 0, []), (.aload_n 0, []), (.getfield 61, [12, 28, 1332]), (.aload_n 0, []), (.getfield 263, [12, 18, 1322]), (.iaload, []), (.iconst 1, []), (.iadd, []), (.invokevirtual 419, [96, 1, 12, 1800, 1802, 3587, 0]), (.ifCond .eq 12, [4, 3])]),
  (72, none, 4, [(.aload_n 0, []), (.aload_n 0, []), (.iconst 1, []), (.invokevirtual 422, [179, 1, 12, 1824, 1826, 3593, 0]), (.putfield 416, [12, 73, 1377])]),
  (81, none, 0, [(.aload_n 0, []), (.aload_n 0, []), (.getfield 391, [12, 64, 1368]), (.putfield 425, [12, 71, 1375]), (.aload_n 0, []), (.aload_n 0, []), (.getfield 388, [12, 63, 1367]), (.putfield 428, [12, 72, 1376]), (.aload_n 0, []), (.iconst 1, []), (.putfield 287, [12, 70, 1374]), (.return_, [])])])
def pm_X12_goesOn : sm_M := (yX12_goesOn, prog_14_method_17_code, 1, none, 0, 0, 0, [1668, 14, 1], [
  (0, some [0], 0, [(.aload_n 0, []), (.getfield 239, [12, 11, 1316]), (.sipush 500, []), (.if_icmp .ne 11, [2, 1])]),
  (10, none, 0, [(.aload_n 0, []), (.iconst 2, []), (.invokevirtual 251, [116, 1, 12, 1657, 1659, 3083, 0]), (.goto 13, [3])]),
  (18, none, 3, [(.aload_n 0, []), (.dup, []), (.getfield 239, [12, 11, 1316]), (.iconst 1, []), (.iadd, []), (.putfield 239, [12, 11, 1316])]),
  (28, none, 0, [(.return_, [])])])
def pm_X12_hand : sm_M := (yX12_hand, prog_14_method_121_code, 4, (some .int), 2, 0, 0, [2107, 14, 1], [
  (0, some [0, 1, 2], 0, [(.aload_n 0, []), (.iload_n 2, []), (.invokevirtual 370, [143, 1, 12, 1741, 1743, 3342, 0]), (.ifCond .ne 5, [2, 1])]),
  (8, none, 0, [(.iconst (-1), []), (.ireturn, [])]),
  (10, none, 0, [(.aload_n 0, []), (.iload_n 1, []), (.invokevirtual 437, [90, 1, 12, 1848, 1850, 3598, 0]), (.istore_n 3, []), (.iload_n 3, []), (.ifCond .eq 5, [4, 3])]),
  (20, none, 0, [(.iload_n 3, []), (.ireturn, [])]),
  (22, none, 0, [(.aload_n 0, []), (.iload_n 1, []), (.iconst 1, []), (.invokevirtual 444, [149, 1, 12, 1864, 1866, 3840, 0]), (.ifCond .ne 5, [6, 5])]),
  (31, none, 0, [(.iconst (-1), []), (.ireturn, [])]),
  (33, none, 0, [(.aload_n 0, []), (.getfield 101, [12, 41, 1345]), (.bipush 10, []), (.aload_n 0, []), (.getfield 263, [12, 18, 1322]), (.imul, []), (.iload_n 2, []), (.iadd, []), (.iaload, []), (.iconst (-1), []), (.if_icmp .eq 8, [8, 7])]),
  (51, none, 0, [(.bipush (-2), []), (.goto 12, [9])]),
  (56, none, 9, [(.aload_n 0, []), (.iload_n 2, []), (.iconst 1, []), (.iadd, []), (.iconst 0, []), (.iconst 0, []), (.invokevirtual 448, [122, 1, 12, 1868, 1870, 3841, 0])]),
  (65, none, 0, [(.ireturn, [])])])
def pm_X12_hasWay : sm_M := (yX12_hasWay, prog_14_method_53_code, 2, (some .boolean), 1, 0, 0, [1923, 14, 1], [
  (0, some [0, 1], 0, [(.aload_n 0, []), (.iconst 0, []), (.putfield 349, [12, 53, 1357]), (.aload_n 0, []), (.iload_n 1, []), (.invokevirtual 410, [153, 1, 12, 1796, 1798, 3586, 0]), (.aload_n 0, []), (.iconst 0, []), (.putfield 388, [12, 63, 1367]), (.aload_n 0, []), (.iconst 0, []), (.putfield 391, [12, 64, 1368]), (.aload_n 0, []), (.aload_n 0, []), (.getfield 61, [12, 28, 1332]), (.aload_n 0, []), (.getfield 263, [12, 18, 1322]), (.iaload, []), (.iconst 1, []), (.iadd, []), (.invokevirtual 419, [96, 1, 12, 1800, 1802, 3587, 0]), (.ifCond .eq 15, [3, 1])]),
  (38, none, 0, [(.aload_n 0, []), (.iconst 0, []), (.invokevirtual 422, [179, 1, 12, 1824, 1826, 3593, 0]), (.ifCond .le 7, [3, 2])]),
  (46, none, 0, [(.iconst 1, []), (.goto 4, [4])]),
  (50, none, 4, [(.iconst 0, [])]),
  (51, none, 0, [(.ireturn, [])])])
def pm_X12_holdsSpan : sm_M := (yX12_holdsSpan, prog_14_method_42_code, 3, (some .boolean), 2, 0, 0, [1811, 14, 1], [
  (0, some [0, 1, 2], 0, [(.aload_n 0, []), (.aload_n 0, []), (.getfield 86, [12, 36, 1340]), (.iload_n 1, []), (.iaload, []), (.iconst 1, []), (.iadd, []), (.aload_n 0, []), (.getfield 89, [12, 37, 1341]), (.iload_n 1, []), (.iaload, []), (.iconst 1, []), (.iadd, []), (.aload_n 0, []), (.getfield 92, [12, 38, 1342]), (.iload_n 1, []), (.iaload, []), (.iload_n 2, []), (.isub, []), (.aload_n 0, []), (.getfield 95, [12, 39, 1343]), (.iload_n 1, []), (.iaload, []), (.iload_n 2, []), (.iadd, []), (.invokevirtual 362, [97, 1, 12, 1812, 1814, 3590, 0]), (.ireturn, [])])])
def pm_X12_hour : sm_M := (yX12_hour, prog_14_method_68_code, 5, (some .int), 3, 0, 0, [1863, 14, 1], [
  (0, some [0, 1, 2, 3], 0, [(.aload_n 0, []), (.iload_n 2, []), (.invokevirtual 370, [143, 1, 12, 1741, 1743, 3342, 0]), (.ifCond .ne 5, [2, 1])]),
  (8, none, 0, [(.iconst (-1), []), (.ireturn, [])]),
  (10, none, 0, [(.aload_n 0, []), (.iload_n 1, []), (.invokevirtual 437, [90, 1, 12, 1848, 1850, 3598, 0]), (.istore 4, []), (.iload 4, []), (.ifCond .eq 6, [4, 3])]),
  (22, none, 0, [(.iload 4, []), (.ireturn, [])]),
  (25, none, 0, [(.aload_n 0, []), (.iload_n 1, []), (.iconst 0, []), (.invokevirtual 444, [149, 1, 12, 1864, 1866, 3840, 0]), (.ifCond .eq 15, [6, 5])]),
  (34, none, 0, [(.aload_n 0, []), (.iload_n 2, []), (.iconst 1, []), (.iadd, []), (.iconst 0, []), (.iload_n 3, []), (.invokevirtual 448, [122, 1, 12, 1868, 1870, 3841, 0]), (.goto 4, [7])]),
  (46, none, 7, [(.iconst (-1), [])]),
  (47, none, 0, [(.ireturn, [])])])
def pm_X12_in : sm_M := (yX12_in, prog_14_method_55_code, 3, (some .boolean), 3, 0, 0, [1747, 14, 1], [
  (0, some [0, 1, 2], 0, [(.iload_n 0, []), (.iload_n 1, []), (.if_icmp .lt 12, [3, 1])]),
  (5, none, 0, [(.iload_n 0, []), (.iload_n 2, []), (.if_icmp .gt 7, [3, 2])]),
  (10, none, 0, [(.iconst 1, []), (.goto 4, [4])]),
  (14, none, 4, [(.iconst 0, [])]),
  (15, none, 0, [(.ireturn, [])])])
def pb_X12_init_0 : sm_B := (0, some [0], 1, [(.aload_n 0, []), (.invokespecial 7, [1297, 24, 25]), (.aload_n 0, []), (.sipush 2000, []), (.newarray .byte, [1, 55]), (.putfield 13, [12, 1, 1306]), (.aload_n 0, []), (.sipush 2000, []), (.newarray .byte, [1, 55]), (.putfield 17, [12, 3, 1308]), (.aload_n 0, []), (.sipush 503, []), (.newarray .int, [0, 56]), (.putfield 20, [12, 5, 1310]), (.aload_n 0, []), (.sipush 503, []), (.newarray .int, [0, 56]), (.putfield 24, [12, 6, 1311]), (.aload_n 0, []), (.sipush 503, []), (.newarray .int, [0, 56]), (.putfield 27, [12, 7, 1312]), (.aload_n 0, []), (.sipush 503, []), (.newarray .long, [3, 57]), (.putfield 30, [12, 8, 1313]), (.aload_n 0, []), (.bipush 15, []), (.newarray .long, [3, 57]), (.putfield 34, [12, 9, 1314]), (.aload_n 0, []), (.iconst (-1), []), (.putfield 37, [12, 17, 1321]), (.aload_n 0, []), (.bipush 50, []), (.newarray .long, [3, 57]), (.putfield 40, [12, 21, 1325]), (.aload_n 0, []), (.bipush 50, []), (.newarray .int, [0, 56])])
def pb_X12_init_1 : sm_B := (84, none, 2, [(.putfield 43, [12, 22, 1326]), (.aload_n 0, []), (.bipush 50, []), (.newarray .int, [0, 56]), (.putfield 46, [12, 23, 1327]), (.aload_n 0, []), (.iconst 2, []), (.newarray .int, [0, 56]), (.putfield 49, [12, 24, 1328]), (.aload_n 0, []), (.iconst 2, []), (.newarray .int, [0, 56]), (.putfield 52, [12, 25, 1329]), (.aload_n 0, []), (.iconst 2, []), (.newarray .int, [0, 56]), (.putfield 55, [12, 26, 1330]), (.aload_n 0, []), (.bipush 72, []), (.newarray .int, [0, 56]), (.putfield 58, [12, 27, 1331]), (.aload_n 0, []), (.iconst 2, []), (.newarray .int, [0, 56]), (.putfield 61, [12, 28, 1332]), (.aload_n 0, []), (.bipush 20, []), (.newarray .int, [0, 56]), (.putfield 64, [12, 29, 1333]), (.aload_n 0, []), (.bipush 20, []), (.newarray .int, [0, 56]), (.putfield 67, [12, 30, 1334]), (.aload_n 0, []), (.iconst 2, []), (.newarray .int, [0, 56]), (.putfield 70, [12, 31, 1335]), (.aload_n 0, []), (.bipush 20, []), (.newarray .boolean, [2, 484])])
def pb_X12_init_2 : sm_B := (159, none, 3, [(.putfield 73, [12, 32, 1336]), (.aload_n 0, []), (.bipush 20, []), (.newarray .int, [0, 56]), (.putfield 77, [12, 33, 1337]), (.aload_n 0, []), (.bipush 20, []), (.newarray .int, [0, 56]), (.putfield 80, [12, 34, 1338]), (.aload_n 0, []), (.bipush 80, []), (.newarray .int, [0, 56]), (.putfield 83, [12, 35, 1339]), (.aload_n 0, []), (.sipush 260, []), (.newarray .int, [0, 56]), (.putfield 86, [12, 36, 1340]), (.aload_n 0, []), (.sipush 260, []), (.newarray .int, [0, 56]), (.putfield 89, [12, 37, 1341]), (.aload_n 0, []), (.sipush 260, []), (.newarray .int, [0, 56]), (.putfield 92, [12, 38, 1342]), (.aload_n 0, []), (.sipush 260, []), (.newarray .int, [0, 56]), (.putfield 95, [12, 39, 1343]), (.aload_n 0, []), (.iconst 2, []), (.newarray .int, [0, 56]), (.putfield 98, [12, 40, 1344]), (.aload_n 0, []), (.bipush 20, []), (.newarray .int, [0, 56]), (.putfield 101, [12, 41, 1345]), (.aload_n 0, []), (.iconst 2, []), (.newarray .int, [0, 56])])
def pb_X12_init_3 : sm_B := (241, none, 4, [(.putfield 104, [12, 42, 1346]), (.aload_n 0, []), (.bipush 10, []), (.newarray .boolean, [2, 484]), (.putfield 107, [12, 43, 1347]), (.aload_n 0, []), (.bipush 10, []), (.newarray .int, [0, 56]), (.putfield 110, [12, 44, 1348]), (.aload_n 0, []), (.bipush 36, []), (.newarray .int, [0, 56]), (.putfield 113, [12, 45, 1349]), (.aload_n 0, []), (.bipush 45, []), (.newarray .int, [0, 56]), (.putfield 116, [12, 47, 1351]), (.aload_n 0, []), (.bipush 45, []), (.newarray .int, [0, 56]), (.putfield 119, [12, 48, 1352]), (.aload_n 0, []), (.bipush 45, []), (.newarray .int, [0, 56]), (.putfield 122, [12, 49, 1353]), (.aload_n 0, []), (.sipush 12000, []), (.newarray .int, [0, 56]), (.putfield 125, [12, 50, 1354]), (.aload_n 0, []), (.bipush 6, []), (.newarray .int, [0, 56]), (.putfield 128, [12, 55, 1359]), (.aload_n 0, []), (.bipush 6, []), (.newarray .int, [0, 56]), (.putfield 131, [12, 56, 1360]), (.aload_n 0, []), (.bipush 6, []), (.newarray .int, [0, 56])])
def pb_X12_init_4 : sm_B := (322, none, 5, [(.putfield 134, [12, 57, 1361]), (.aload_n 0, []), (.bipush 6, []), (.newarray .int, [0, 56]), (.putfield 137, [12, 58, 1362]), (.aload_n 0, []), (.bipush 70, []), (.newarray .int, [0, 56]), (.putfield 140, [12, 60, 1364]), (.aload_n 0, []), (.bipush 70, []), (.newarray .int, [0, 56]), (.putfield 143, [12, 61, 1365]), (.aload_n 0, []), (.bipush 70, []), (.newarray .int, [0, 56]), (.putfield 146, [12, 62, 1366]), (.aload_n 0, []), (.bipush 10, []), (.newarray .int, [0, 56]), (.putfield 149, [12, 65, 1369]), (.aload_n 0, []), (.bipush 10, []), (.newarray .int, [0, 56]), (.putfield 152, [12, 66, 1370]), (.aload_n 0, []), (.ldc 155, [55100, 1298]), (.newarray .byte, [1, 55]), (.putfield 156, [12, 75, 1379]), (.aload_n 0, []), (.sipush 1000, []), (.newarray .byte, [1, 55]), (.putfield 159, [12, 76, 1380]), (.aload_n 0, []), (.sipush 1000, []), (.newarray .byte, [1, 55]), (.putfield 162, [12, 77, 1381]), (.aload_n 0, []), (.sipush 1000, []), (.newarray .boolean, [2, 484])])
def pb_X12_init_5 : sm_B := (405, none, 6, [(.putfield 165, [12, 78, 1382]), (.aload_n 0, []), (.sipush 1024, []), (.newarray .boolean, [2, 484]), (.putfield 168, [12, 81, 1385]), (.aload_n 0, []), (.sipush 1024, []), (.newarray .int, [0, 56]), (.putfield 171, [12, 83, 1387]), (.aload_n 0, []), (.sipush 1024, []), (.newarray .int, [0, 56]), (.putfield 174, [12, 85, 1389]), (.aload_n 0, []), (.bipush 60, []), (.newarray .int, [0, 56]), (.putfield 177, [12, 86, 1390]), (.aload_n 0, []), (.bipush 60, []), (.newarray .int, [0, 56]), (.putfield 180, [12, 88, 1392]), (.aload_n 0, []), (.bipush 60, []), (.newarray .boolean, [2, 484]), (.putfield 183, [12, 89, 1393]), (.aload_n 0, []), (.sipush 243, []), (.newarray .int, [0, 56]), (.putfield 186, [12, 93, 1397]), (.aload_n 0, []), (.sipush 243, []), (.newarray .int, [0, 56]), (.putfield 189, [12, 94, 1398]), (.aload_n 0, []), (.bipush 6, []), (.newarray .int, [0, 56]), (.dup, []), (.iconst 0, []), (.iconst 1, []), (.iastore, [])])
def pb_X12_init_6 : sm_B := (486, none, 7, [(.dup, []), (.iconst 1, []), (.iconst 3, []), (.iastore, []), (.dup, []), (.iconst 2, []), (.bipush 9, []), (.iastore, []), (.dup, []), (.iconst 3, []), (.bipush 27, []), (.iastore, []), (.dup, []), (.iconst 4, []), (.bipush 81, []), (.iastore, []), (.dup, []), (.iconst 5, []), (.sipush 243, []), (.iastore, []), (.putfield 192, [12, 95, 1399]), (.aload_n 0, []), (.getfield 34, [12, 9, 1314]), (.iconst 0, []), (.bipush 119, []), (.bipush 104, []), (.bipush 111, []), (.iconst 0, []), (.iconst 0, []), (.iconst 0, []), (.iconst 0, []), (.invokestatic 195, [205, 0, 0, 1299, 1300, 0, 0]), (.lastore, []), (.aload_n 0, []), (.getfield 34, [12, 9, 1314]), (.iconst 1, []), (.bipush 112, []), (.bipush 108, []), (.bipush 97, []), (.bipush 99, [])])
def pb_X12_init_7 : sm_B := (546, none, 8, [(.bipush 101, []), (.iconst 0, []), (.iconst 0, []), (.invokestatic 195, [205, 0, 0, 1299, 1300, 0, 0]), (.lastore, []), (.aload_n 0, []), (.getfield 34, [12, 9, 1314]), (.iconst 2, []), (.bipush 119, []), (.bipush 97, []), (.bipush 121, []), (.iconst 0, []), (.iconst 0, []), (.iconst 0, []), (.iconst 0, []), (.invokestatic 195, [205, 0, 0, 1299, 1300, 0, 0]), (.lastore, []), (.aload_n 0, []), (.getfield 34, [12, 9, 1314]), (.iconst 3, []), (.bipush 116, []), (.bipush 105, []), (.bipush 109, []), (.bipush 101, []), (.iconst 0, []), (.iconst 0, []), (.iconst 0, []), (.invokestatic 195, [205, 0, 0, 1299, 1300, 0, 0]), (.lastore, []), (.aload_n 0, []), (.getfield 34, [12, 9, 1314]), (.iconst 4, []), (.bipush 111, []), (.bipush 102, []), (.iconst 0, []), (.iconst 0, []), (.iconst 0, []), (.iconst 0, []), (.iconst 0, []), (.invokestatic 195, [205, 0, 0, 1299, 1300, 0, 0])])
def pb_X12_init_8 : sm_B := (610, none, 9, [(.lastore, []), (.aload_n 0, []), (.getfield 34, [12, 9, 1314]), (.iconst 5, []), (.bipush 105, []), (.bipush 110, []), (.iconst 0, []), (.iconst 0, []), (.iconst 0, []), (.iconst 0, []), (.iconst 0, []), (.invokestatic 195, [205, 0, 0, 1299, 1300, 0, 0]), (.lastore, []), (.aload_n 0, []), (.getfield 34, [12, 9, 1314]), (.bipush 6, []), (.bipush 115, []), (.bipush 97, []), (.bipush 121, []), (.iconst 0, []), (.iconst 0, []), (.iconst 0, []), (.iconst 0, []), (.invokestatic 195, [205, 0, 0, 1299, 1300, 0, 0]), (.lastore, []), (.aload_n 0, []), (.getfield 34, [12, 9, 1314]), (.bipush 7, []), (.bipush 115, []), (.bipush 117, []), (.bipush 114, []), (.bipush 101, []), (.iconst 0, []), (.iconst 0, []), (.iconst 0, []), (.invokestatic 195, [205, 0, 0, 1299, 1300, 0, 0]), (.lastore, []), (.aload_n 0, []), (.getfield 34, [12, 9, 1314]), (.bipush 8, [])])
def pb_X12_init_9 : sm_B := (676, none, 10, [(.bipush 111, []), (.bipush 114, []), (.iconst 0, []), (.iconst 0, []), (.iconst 0, []), (.iconst 0, []), (.iconst 0, []), (.invokestatic 195, [205, 0, 0, 1299, 1300, 0, 0]), (.lastore, []), (.aload_n 0, []), (.getfield 34, [12, 9, 1314]), (.bipush 9, []), (.bipush 97, []), (.bipush 110, []), (.bipush 100, []), (.iconst 0, []), (.iconst 0, []), (.iconst 0, []), (.iconst 0, []), (.invokestatic 195, [205, 0, 0, 1299, 1300, 0, 0]), (.lastore, []), (.aload_n 0, []), (.getfield 34, [12, 9, 1314]), (.bipush 10, []), (.bipush 97, []), (.bipush 116, []), (.iconst 0, []), (.iconst 0, []), (.iconst 0, []), (.iconst 0, []), (.iconst 0, []), (.invokestatic 195, [205, 0, 0, 1299, 1300, 0, 0]), (.lastore, []), (.aload_n 0, []), (.getfield 34, [12, 9, 1314]), (.bipush 11, []), (.bipush 98, []), (.bipush 101, []), (.bipush 104, []), (.bipush 105, [])])
def pb_X12_init_10 : sm_B := (742, none, 11, [(.bipush 110, []), (.bipush 100, []), (.iconst 0, []), (.invokestatic 195, [205, 0, 0, 1299, 1300, 0, 0]), (.lastore, []), (.aload_n 0, []), (.getfield 34, [12, 9, 1314]), (.bipush 12, []), (.bipush 111, []), (.bipush 112, []), (.bipush 101, []), (.bipush 110, []), (.iconst 0, []), (.iconst 0, []), (.iconst 0, []), (.invokestatic 195, [205, 0, 0, 1299, 1300, 0, 0]), (.lastore, []), (.aload_n 0, []), (.getfield 34, [12, 9, 1314]), (.bipush 13, []), (.bipush 97, []), (.bipush 115, []), (.bipush 107, []), (.iconst 0, []), (.iconst 0, []), (.iconst 0, []), (.iconst 0, []), (.invokestatic 195, [205, 0, 0, 1299, 1300, 0, 0]), (.lastore, []), (.aload_n 0, []), (.getfield 34, [12, 9, 1314]), (.bipush 14, []), (.bipush 116, []), (.bipush 114, []), (.bipush 117, []), (.bipush 115, []), (.bipush 116, []), (.iconst 0, []), (.iconst 0, []), (.invokestatic 195, [205, 0, 0, 1299, 1300, 0, 0])])
def pb_X12_init_11 : sm_B := (813, none, 12, [(.lastore, []), (.iconst 0, []), (.istore_n 1, [])])
def pb_X12_init_12 : sm_B := (816, some [0, 1], 0, [(.iload_n 1, []), (.bipush 10, []), (.if_icmp .ge 16, [14, 13])])
def pb_X12_init_13 : sm_B := (822, none, 0, [(.aload_n 0, []), (.getfield 110, [12, 44, 1348]), (.iload_n 1, []), (.iconst (-1), []), (.iastore, []), (.iinc 1 1, []), (.goto (-16), [12])])
def pb_X12_init_14 : sm_B := (835, none, 15, [(.iconst 0, []), (.istore_n 1, [])])
def pb_X12_init_15 : sm_B := (837, some [0, 1], 0, [(.iload_n 1, []), (.bipush 60, []), (.if_icmp .ge 16, [17, 16])])
def pb_X12_init_16 : sm_B := (843, none, 0, [(.aload_n 0, []), (.getfield 177, [12, 86, 1390]), (.iload_n 1, []), (.iconst (-1), []), (.iastore, []), (.iinc 1 1, []), (.goto (-16), [15])])
def pb_X12_init_17 : sm_B := (856, none, 0, [(.return_, [])])
def pm_X12_init : sm_M := (yX12_init, prog_14_method_2_code, 2, none, 0, 58, 81792, [1296, 14, 1], [
  pb_X12_init_0,
  pb_X12_init_1,
  pb_X12_init_2,
  pb_X12_init_3,
  pb_X12_init_4,
  pb_X12_init_5,
  pb_X12_init_6,
  pb_X12_init_7,
  pb_X12_init_8,
  pb_X12_init_9,
  pb_X12_init_10,
  pb_X12_init_11,
  pb_X12_init_12,
  pb_X12_init_13,
  pb_X12_init_14,
  pb_X12_init_15,
  pb_X12_init_16,
  pb_X12_init_17])
def pm_X12_is : sm_M := (yX12_is, prog_14_method_14_code, 2, (some .boolean), 1, 0, 0, [1652, 14, 1], [
  (0, some [0, 1], 0, [(.aload_n 0, []), (.getfield 236, [12, 13, 1317]), (.ifCond .ne 20, [3, 1])]),
  (7, none, 0, [(.aload_n 0, []), (.getfield 20, [12, 5, 1310]), (.aload_n 0, []), (.getfield 239, [12, 11, 1316]), (.iaload, []), (.iload_n 1, []), (.if_icmp .ne 7, [3, 2])]),
  (20, none, 0, [(.iconst 1, []), (.goto 4, [4])]),
  (24, none, 4, [(.iconst 0, [])]),
  (25, none, 0, [(.ireturn, [])])])
def pm_X12_isDigit : sm_M := (yX12_isDigit, prog_14_method_7_code, 1, (some .boolean), 1, 0, 0, [1645, 14, 1], [
  (0, some [0], 0, [(.iload_n 0, []), (.bipush 48, []), (.if_icmp .lt 13, [3, 1])]),
  (6, none, 0, [(.iload_n 0, []), (.bipush 57, []), (.if_icmp .gt 7, [3, 2])]),
  (12, none, 0, [(.iconst 1, []), (.goto 4, [4])]),
  (16, none, 4, [(.iconst 0, [])]),
  (17, none, 0, [(.ireturn, [])])])
def pm_X12_isLeft : sm_M := (yX12_isLeft, prog_14_method_102_code, 6, (some .boolean), 2, 0, 0, [2019, 14, 1], [
  (0, some [0, 1, 2], 1, [(.iconst 0, []), (.istore_n 3, [])]),
  (2, some [0, 1, 2, 3], 0, [(.iload_n 3, []), (.bipush 32, []), (.if_icmp .ge 117, [15, 2])]),
  (8, none, 0, [(.iload_n 3, []), (.iload_n 2, []), (.iconst (-1), []), (.ixor, []), (.iand, []), (.ifCond .eq 6, [4, 3])]),
  (16, none, 0, [(.goto 100, [14])]),
  (19, none, 5, [(.aload_n 0, []), (.iconst 1, []), (.iconst 2, []), (.invokevirtual 397, [109, 1, 12, 1832, 1834, 3595, 0]), (.aload_n 0, []), (.iconst 2, []), (.putfield 343, [12, 52, 1356]), (.iconst 1, []), (.istore 4, []), (.iconst 0, []), (.istore 5, [])]),
  (36, some [0, 1, 2, 3, 4, 5], 0, [(.iload 5, []), (.aload_n 0, []), (.getfield 104, [12, 42, 1346]), (.aload_n 0, []), (.getfield 263, [12, 18, 1322]), (.iaload, []), (.if_icmp .ge 62, [12, 6])]),
  (50, none, 0, [(.iload 4, []), (.ifCond .eq 57, [12, 7])]),
  (55, none, 0, [(.iload_n 1, []), (.iload 5, []), (.ishr, []), (.iconst 1, []), (.iand, []), (.iconst 1, []), (.if_icmp .ne 15, [9, 8])]),
  (65, none, 0, [(.aload_n 0, []), (.iload 5, []), (.iconst 0, []), (.invokevirtual 525, [87, 1, 12, 2020, 2022, 4097, 0]), (.istore 4, []), (.goto 29, [11])]),
  (77, none, 0, [(.iload_n 2, []), (.iload 5, []), (.ishr, []), (.iconst 1, []), (.iand, []), (.iconst 1, []), (.if_icmp .ne 19, [11, 10])]),
  (87, none, 11, [(.aload_n 0, []), (.iload 5, []), (.iconst 1, []), (.iload_n 3, []), (.iload 5, []), (.ishr, []), (.iconst 1, []), (.iand, []), (.iadd, []), (.invokevirtual 525, [87, 1, 12, 2020, 2022, 4097, 0]), (.istore 4, [])]),
  (103, none, 0, [(.iinc 5 1, []), (.goto (-70), [5])]),
  (109, none, 0, [(.iload 4, []), (.ifCond .eq 5, [14, 13])]),
  (114, none, 0, [(.iconst 1, []), (.ireturn, [])]),
  (116, none, 0, [(.iinc 3 1, []), (.goto (-117), [1])]),
  (122, none, 0, [(.iconst 0, []), (.ireturn, [])])])
def pm_X12_isLetter : sm_M := (yX12_isLetter, prog_14_method_8_code, 1, (some .boolean), 1, 0, 0, [1642, 14, 1], [
  (0, some [0], 0, [(.iload_n 0, []), (.bipush 97, []), (.if_icmp .lt 13, [3, 1])]),
  (6, none, 0, [(.iload_n 0, []), (.bipush 122, []), (.if_icmp .gt 7, [3, 2])]),
  (12, none, 0, [(.iconst 1, []), (.goto 4, [4])]),
  (16, none, 4, [(.iconst 0, [])]),
  (17, none, 0, [(.ireturn, [])])])
def pm_X12_isMinute : sm_M := (yX12_isMinute, prog_14_method_58_code, 2, (some .boolean), 1, 0, 0, [1887, 14, 1], [
  (0, some [1], 0, [(.iload_n 1, []), (.iconst 0, []), (.sipush 1440, []), (.invokestatic 373, [134, 0, 0, 1745, 1746, 0, 0]), (.ireturn, [])])])
def pm_X12_isPerson : sm_M := (yX12_isPerson, prog_14_method_95_code, 2, (some .boolean), 1, 0, 0, [1991, 14, 1], [
  (0, some [0, 1], 0, [(.iload_n 1, []), (.iconst 0, []), (.aload_n 0, []), (.getfield 49, [12, 24, 1328]), (.aload_n 0, []), (.getfield 263, [12, 18, 1322]), (.iaload, []), (.iconst 1, []), (.isub, []), (.invokestatic 373, [134, 0, 0, 1745, 1746, 0, 0]), (.ireturn, [])])])
def pm_X12_isSaying : sm_M := (yX12_isSaying, prog_14_method_57_code, 2, (some .boolean), 1, 0, 0, [1759, 14, 1], [
  (0, some [0, 1], 0, [(.iload_n 1, []), (.iconst 0, []), (.aload_n 0, []), (.getfield 70, [12, 31, 1335]), (.aload_n 0, []), (.getfield 263, [12, 18, 1322]), (.iaload, []), (.iconst 1, []), (.isub, []), (.invokestatic 373, [134, 0, 0, 1745, 1746, 0, 0]), (.ireturn, [])])])
def pm_X12_isTime : sm_M := (yX12_isTime, prog_14_method_56_code, 2, (some .boolean), 1, 0, 0, [1744, 14, 1], [
  (0, some [0, 1], 0, [(.iload_n 1, []), (.iconst 0, []), (.aload_n 0, []), (.getfield 61, [12, 28, 1332]), (.aload_n 0, []), (.getfield 263, [12, 18, 1322]), (.iaload, []), (.iconst 1, []), (.isub, []), (.invokestatic 373, [134, 0, 0, 1745, 1746, 0, 0]), (.ireturn, [])])])
def pm_X12_itemAt : sm_M := (yX12_itemAt, prog_14_method_87_code, 2, (some .int), 1, 0, 0, [1959, 14, 1], [
  (0, some [0, 1], 0, [(.aload_n 0, []), (.iload_n 1, []), (.invokevirtual 431, [142, 1, 12, 1756, 1758, 3343, 0]), (.ifCond .eq 20, [4, 1])]),
  (8, none, 0, [(.aload_n 0, []), (.getfield 107, [12, 43, 1347]), (.iload_n 1, []), (.baload, []), (.ifCond .eq 7, [3, 2])]),
  (17, none, 0, [(.iconst (-1), []), (.goto 32, [7])]),
  (21, none, 0, [(.iload_n 1, []), (.goto 28, [7])]),
  (25, none, 0, [(.iload_n 1, []), (.bipush 100, []), (.isub, []), (.iconst 0, []), (.aload_n 0, []), (.getfield 340, [12, 46, 1350]), (.iconst 1, []), (.isub, []), (.invokestatic 373, [134, 0, 0, 1745, 1746, 0, 0]), (.ifCond .eq 10, [6, 5])]),
  (42, none, 0, [(.iload_n 1, []), (.bipush 90, []), (.isub, []), (.goto 4, [7])]),
  (49, none, 7, [(.iconst (-1), [])]),
  (50, none, 0, [(.ireturn, [])])])
def pm_X12_keep : sm_M := (yX12_keep, prog_14_method_120_code, 2, (some .int), 0, 0, 0, [2103, 14, 1], [
  (0, some [0], 0, [(.aload_n 0, []), (.invokevirtual 434, [128, 1, 12, 1772, 1774, 3584, 0]), (.aload_n 0, []), (.getfield 425, [12, 71, 1375]), (.ifCond .eq 6, [2, 1])]),
  (11, none, 0, [(.bipush (-3), []), (.ireturn, [])]),
  (14, none, 3, [(.iconst 0, []), (.istore_n 1, [])]),
  (16, some [0, 1], 0, [(.iload_n 1, []), (.aload_n 0, []), (.getfield 416, [12, 73, 1377]), (.if_icmp .ge 20, [7, 4])]),
  (24, none, 0, [(.aload_n 0, []), (.iload_n 1, []), (.iconst 1, []), (.invokevirtual 444, [149, 1, 12, 1864, 1866, 3840, 0]), (.ifCond .eq 5, [6, 5])]),
  (33, none, 0, [(.iload_n 1, []), (.ireturn, [])]),
  (35, none, 0, [(.iinc 1 1, []), (.goto (-22), [3])]),
  (41, none, 0, [(.bipush (-2), []), (.ireturn, [])])])
def pm_X12_kept : sm_M := (yX12_kept, prog_14_method_119_code, 3, (some .int), 1, 0, 0, [2099, 14, 1], [
  (0, some [0, 1], 0, [(.aload_n 0, []), (.iload_n 1, []), (.invokevirtual 437, [90, 1, 12, 1848, 1850, 3598, 0]), (.istore_n 2, []), (.iload_n 2, []), (.ifCond .eq 5, [2, 1])]),
  (10, none, 0, [(.iload_n 2, []), (.ireturn, [])]),
  (12, none, 0, [(.aload_n 0, []), (.iload_n 1, []), (.iconst 1, []), (.invokevirtual 444, [149, 1, 12, 1864, 1866, 3840, 0]), (.ifCond .eq 7, [4, 3])]),
  (21, none, 0, [(.iconst 1, []), (.goto 4, [5])]),
  (25, none, 5, [(.iconst 0, [])]),
  (26, none, 0, [(.ireturn, [])])])
def pm_X12_known : sm_M := (yX12_known, prog_14_method_25_code, 5, (some .int), 1, 0, 0, [1692, 14, 1], [
  (0, some [0, 1], 0, [(.aload_n 0, []), (.getfield 239, [12, 11, 1316]), (.istore_n 2, []), (.aload_n 0, []), (.iconst 1, []), (.invokevirtual 312, [158, 1, 12, 1673, 1675, 3087, 0]), (.aload_n 0, []), (.getfield 236, [12, 13, 1317]), (.ifCond .le 5, [2, 1])]),
  (17, none, 0, [(.iconst 0, []), (.ireturn, [])]),
  (19, none, 3, [(.iconst (-1), []), (.istore_n 3, []), (.iconst 0, []), (.istore 4, [])]),
  (24, some [0, 1, 2, 3, 4], 0, [(.iload 4, []), (.aload_n 0, []), (.getfield 269, [12, 20, 1324]), (.if_icmp .ge 50, [9, 4])]),
  (33, none, 0, [(.iload_n 3, []), (.iconst (-1), []), (.if_icmp .ne 39, [8, 5])]),
  (38, none, 0, [(.aload_n 0, []), (.getfield 40, [12, 21, 1325]), (.iload 4, []), (.laload, []), (.aload_n 0, []), (.getfield 30, [12, 8, 1313]), (.iload_n 2, []), (.laload, []), (.lcmp, []), (.ifCond .ne 22, [8, 6])]),
  (55, none, 0, [(.aload_n 0, []), (.getfield 43, [12, 22, 1326]), (.iload 4, []), (.iaload, []), (.iload_n 1, []), (.if_icmp .ne 11, [8, 7])]),
  (66, none, 8, [(.aload_n 0, []), (.getfield 46, [12, 23, 1327]), (.iload 4, []), (.iaload, []), (.istore_n 3, [])]),
  (74, none, 0, [(.iinc 4 1, []), (.goto (-53), [3])]),
  (80, none, 0, [(.iload_n 3, []), (.iconst (-1), []), (.if_icmp .ne 9, [11, 10])]),
  (85, none, 11, [(.aload_n 0, []), (.iconst 4, []), (.iload_n 2, []), (.invokevirtual 315, [206, 1, 12, 1677, 1679, 3328, 0])]),
  (91, none, 0, [(.iload_n 3, []), (.ireturn, [])])])
def pm_X12_knows : sm_M := (yX12_knows, prog_14_method_24_code, 4, none, 3, 0, 0, [1684, 14, 1], [
  (0, some [0, 1, 2, 3], 0, [(.aload_n 0, []), (.getfield 40, [12, 21, 1325]), (.aload_n 0, []), (.getfield 269, [12, 20, 1324]), (.aload_n 0, []), (.getfield 30, [12, 8, 1313]), (.iload_n 1, []), (.laload, []), (.lastore, []), (.aload_n 0, []), (.getfield 43, [12, 22, 1326]), (.aload_n 0, []), (.getfield 269, [12, 20, 1324]), (.iload_n 2, []), (.iastore, []), (.aload_n 0, []), (.getfield 46, [12, 23, 1327]), (.aload_n 0, []), (.getfield 269, [12, 20, 1324]), (.iload_n 3, []), (.iastore, []), (.aload_n 0, []), (.dup, []), (.getfield 269, [12, 20, 1324]), (.iconst 1, []), (.iadd, []), (.putfield 269, [12, 20, 1324]), (.return_, [])])])
def pm_X12_lays : sm_M := (yX12_lays, prog_14_method_54_code, 4, (some .boolean), 2, 0, 0, [1867, 14, 1], [
  (0, some [0, 1, 2], 0, [(.aload_n 0, []), (.iload_n 2, []), (.putfield 349, [12, 53, 1357]), (.aload_n 0, []), (.iconst 0, []), (.putfield 376, [12, 68, 1372]), (.aload_n 0, []), (.iconst 0, []), (.putfield 385, [12, 67, 1371]), (.aload_n 0, []), (.aload_n 0, []), (.invokevirtual 407, [201, 1, 12, 1792, 1794, 3585, 0]), (.invokevirtual 410, [153, 1, 12, 1796, 1798, 3586, 0]), (.aload_n 0, []), (.aload_n 0, []), (.getfield 61, [12, 28, 1332]), (.aload_n 0, []), (.getfield 263, [12, 18, 1322]), (.iaload, []), (.iconst 1, []), (.iadd, []), (.invokevirtual 419, [96, 1, 12, 1800, 1802, 3587, 0]), (.ifCond .ne 5, [2, 1])]),
  (41, none, 0, [(.iconst 0, []), (.ireturn, [])]),
  (43, none, 3, [(.aload_n 0, []), (.iconst 0, []), (.iconst 1, []), (.invokevirtual 397, [109, 1, 12, 1832, 1834, 3595, 0]), (.aload_n 0, []), (.iconst 1, []), (.putfield 343, [12, 52, 1356]), (.iconst 0, []), (.istore_n 3, [])]),
  (56, some [0, 1, 3], 0, [(.iload_n 3, []), (.aload_n 0, []), (.getfield 382, [12, 59, 1363]), (.if_icmp .ge 35, [7, 4])]),
  (64, none, 0, [(.aload_n 0, []), (.aload_n 0, []), (.getfield 140, [12, 60, 1364]), (.iload_n 3, []), (.iaload, []), (.aload_n 0, []), (.getfield 156, [12, 75, 1379]), (.bipush 55, []), (.iload_n 1, []), (.imul, []), (.iload_n 3, []), (.iadd, []), (.baload, []), (.invokevirtual 400, [108, 1, 12, 1836, 1838, 3596, 0]), (.ifCond .ne 5, [6, 5])]),
  (88, none, 0, [(.iconst 0, []), (.ireturn, [])]),
  (90, none, 0, [(.iinc 3 1, []), (.goto (-37), [3])]),
  (96, none, 0, [(.iconst 1, []), (.ireturn, [])])])
def pm_X12_laysSet : sm_M := (yX12_laysSet, prog_14_method_112_code, 3, (some .boolean), 1, 0, 0, [2075, 14, 1], [
  (0, some [0, 1], 0, [(.aload_n 0, []), (.iload_n 1, []), (.iconst 0, []), (.invokevirtual 444, [149, 1, 12, 1864, 1866, 3840, 0]), (.ifCond .ne 5, [2, 1])]),
  (9, none, 0, [(.iconst 0, []), (.ireturn, [])]),
  (11, none, 3, [(.iconst 0, []), (.istore_n 2, [])]),
  (13, some [0, 2], 0, [(.iload_n 2, []), (.aload_n 0, []), (.getfield 61, [12, 28, 1332]), (.aload_n 0, []), (.getfield 263, [12, 18, 1322]), (.iaload, []), (.if_icmp .ge 44, [8, 4])]),
  (26, none, 0, [(.aload_n 0, []), (.getfield 110, [12, 44, 1348]), (.iload_n 2, []), (.iaload, []), (.iconst (-1), []), (.if_icmp .eq 28, [7, 5])]),
  (36, none, 0, [(.aload_n 0, []), (.iload_n 2, []), (.iconst 1, []), (.iadd, []), (.iconst 0, []), (.aload_n 0, []), (.getfield 110, [12, 44, 1348]), (.iload_n 2, []), (.iaload, []), (.aload_n 0, []), (.getfield 110, [12, 44, 1348]), (.iload_n 2, []), (.iaload, []), (.invokevirtual 362, [97, 1, 12, 1812, 1814, 3590, 0]), (.ifCond .ne 5, [7, 6])]),
  (59, none, 0, [(.iconst 0, []), (.ireturn, [])]),
  (61, none, 0, [(.iinc 2 1, []), (.goto (-51), [3])]),
  (67, none, 0, [(.iconst 1, []), (.ireturn, [])])])
def pm_X12_left : sm_M := (yX12_left, prog_14_method_106_code, 4, (some .int), 2, 0, 0, [2031, 14, 1], [
  (0, some [0, 1, 2], 0, [(.iconst 1, []), (.aload_n 0, []), (.getfield 104, [12, 42, 1346]), (.aload_n 0, []), (.getfield 263, [12, 18, 1322]), (.iaload, []), (.ishl, []), (.iconst 1, []), (.isub, []), (.istore_n 3, []), (.iload_n 1, []), (.iload_n 3, []), (.iconst (-1), []), (.ixor, []), (.iand, []), (.ifCond .ne 17, [3, 1])]),
  (22, none, 0, [(.iload_n 2, []), (.iload_n 3, []), (.iconst (-1), []), (.ixor, []), (.iand, []), (.ifCond .ne 9, [3, 2])]),
  (30, none, 0, [(.iload_n 1, []), (.iload_n 2, []), (.iand, []), (.ifCond .eq 5, [4, 3])]),
  (36, none, 0, [(.iconst (-1), []), (.ireturn, [])]),
  (38, none, 0, [(.aload_n 0, []), (.invokevirtual 434, [128, 1, 12, 1772, 1774, 3584, 0]), (.aload_n 0, []), (.getfield 425, [12, 71, 1375]), (.ifCond .eq 8, [6, 5])]),
  (49, none, 0, [(.bipush (-3), []), (.goto 9, [7])]),
  (54, none, 7, [(.aload_n 0, []), (.iload_n 1, []), (.iload_n 2, []), (.invokevirtual 531, [152, 1, 12, 2012, 2014, 3855, 0])]),
  (60, none, 0, [(.ireturn, [])])])
def pm_X12_leftOf : sm_M := (yX12_leftOf, prog_14_method_103_code, 5, (some .int), 2, 0, 0, [2015, 14, 1], [
  (0, some [0, 1, 2], 1, [(.iconst 0, []), (.istore_n 3, []), (.iconst 0, []), (.istore 4, [])]),
  (5, some [0, 1, 2, 3, 4], 0, [(.iload 4, []), (.aload_n 0, []), (.getfield 416, [12, 73, 1377]), (.if_icmp .ge 31, [6, 2])]),
  (14, none, 0, [(.aload_n 0, []), (.iload 4, []), (.iconst 0, []), (.invokevirtual 444, [149, 1, 12, 1864, 1866, 3840, 0]), (.ifCond .eq 15, [5, 3])]),
  (24, none, 0, [(.aload_n 0, []), (.iload_n 1, []), (.iload_n 2, []), (.invokevirtual 528, [138, 1, 12, 2016, 2018, 4096, 0]), (.ifCond .eq 6, [5, 4])]),
  (33, none, 5, [(.iinc 3 1, [])]),
  (36, none, 0, [(.iinc 4 1, []), (.goto (-34), [1])]),
  (42, none, 0, [(.iload_n 3, []), (.ireturn, [])])])
def pm_X12_lists : sm_M := (yX12_lists, prog_14_method_48_code, 3, none, 1, 0, 0, [1799, 14, 1], [
  (0, some [0, 1], 1, [(.aload_n 0, []), (.iconst 0, []), (.putfield 382, [12, 59, 1363]), (.iconst 0, []), (.istore_n 2, [])]),
  (7, some [0, 1, 2], 0, [(.iload_n 2, []), (.aload_n 0, []), (.getfield 70, [12, 31, 1335]), (.aload_n 0, []), (.getfield 263, [12, 18, 1322]), (.iaload, []), (.if_icmp .ge 40, [6, 2])]),
  (20, none, 0, [(.iload_n 1, []), (.iload_n 2, []), (.ishr, []), (.iconst 1, []), (.iand, []), (.ifCond .ne 6, [4, 3])]),
  (28, none, 0, [(.goto 23, [5])]),
  (31, none, 5, [(.aload_n 0, []), (.getfield 140, [12, 60, 1364]), (.aload_n 0, []), (.getfield 382, [12, 59, 1363]), (.iload_n 2, []), (.iastore, []), (.aload_n 0, []), (.dup, []), (.getfield 382, [12, 59, 1363]), (.iconst 1, []), (.iadd, []), (.putfield 382, [12, 59, 1363])]),
  (51, none, 0, [(.iinc 2 1, []), (.goto (-47), [1])]),
  (57, none, 7, [(.iconst 0, []), (.istore_n 2, [])]),
  (59, some [0, 2], 0, [(.iload_n 2, []), (.aload_n 0, []), (.getfield 340, [12, 46, 1350]), (.if_icmp .ge 32, [9, 8])]),
  (67, none, 0, [(.aload_n 0, []), (.getfield 140, [12, 60, 1364]), (.aload_n 0, []), (.getfield 382, [12, 59, 1363]), (.bipush 10, []), (.iload_n 2, []), (.iadd, []), (.iastore, []), (.aload_n 0, []), (.dup, []), (.getfield 382, [12, 59, 1363]), (.iconst 1, []), (.iadd, []), (.putfield 382, [12, 59, 1363]), (.iinc 2 1, []), (.goto (-34), [7])]),
  (96, none, 10, [(.iconst 0, []), (.istore_n 2, [])]),
  (98, some [0, 2], 0, [(.iload_n 2, []), (.aload_n 0, []), (.getfield 385, [12, 67, 1371]), (.if_icmp .ge 32, [12, 11])]),
  (106, none, 0, [(.aload_n 0, []), (.getfield 140, [12, 60, 1364]), (.aload_n 0, []), (.getfield 382, [12, 59, 1363]), (.bipush 60, []), (.iload_n 2, []), (.iadd, []), (.iastore, []), (.aload_n 0, []), (.dup, []), (.getfield 382, [12, 59, 1363]), (.iconst 1, []), (.iadd, []), (.putfield 382, [12, 59, 1363]), (.iinc 2 1, []), (.goto (-34), [10])]),
  (135, none, 0, [(.return_, [])])])
def pm_X12_meets : sm_M := (yX12_meets, prog_14_method_36_code, 5, none, 0, 0, 0, [1728, 14, 1], [
  (0, some [0], 1, [(.aload_n 0, []), (.iconst 0, []), (.putfield 340, [12, 46, 1350]), (.iconst 0, []), (.istore_n 1, [])]),
  (7, some [0, 1], 0, [(.iload_n 1, []), (.aload_n 0, []), (.getfield 61, [12, 28, 1332]), (.aload_n 0, []), (.getfield 263, [12, 18, 1322]), (.iaload, []), (.if_icmp .ge 159, [11, 2])]),
  (20, none, 3, [(.iload_n 1, []), (.iconst 1, []), (.iadd, []), (.istore_n 2, [])]),
  (24, some [0, 1, 2], 0, [(.iload_n 2, []), (.aload_n 0, []), (.getfield 61, [12, 28, 1332]), (.aload_n 0, []), (.getfield 263, [12, 18, 1322]), (.iaload, []), (.if_icmp .ge 136, [10, 4])]),
  (37, none, 0, [(.bipush 10, []), (.aload_n 0, []), (.getfield 263, [12, 18, 1322]), (.imul, []), (.iload_n 1, []), (.iadd, []), (.istore_n 3, []), (.bipush 10, []), (.aload_n 0, []), (.getfield 263, [12, 18, 1322]), (.imul, []), (.iload_n 2, []), (.iadd, []), (.istore 4, []), (.aload_n 0, []), (.getfield 64, [12, 29, 1333]), (.iload_n 3, []), (.iaload, []), (.iconst (-1), []), (.if_icmp .eq 99, [9, 5])]),
  (68, none, 0, [(.aload_n 0, []), (.getfield 64, [12, 29, 1333]), (.iload_n 3, []), (.iaload, []), (.aload_n 0, []), (.getfield 64, [12, 29, 1333]), (.iload 4, []), (.iaload, []), (.if_icmp .ne 83, [9, 6])]),
  (84, none, 0, [(.aload_n 0, []), (.getfield 67, [12, 30, 1334]), (.iload_n 3, []), (.iaload, []), (.aload_n 0, []), (.getfield 67, [12, 30, 1334]), (.iload 4, []), (.iaload, []), (.if_icmp .ne 6, [8, 7])]),
  (100, none, 0, [(.goto 64, [9])]),
  (103, none, 9, [(.aload_n 0, []), (.getfield 116, [12, 47, 1351]), (.aload_n 0, []), (.getfield 340, [12, 46, 1350]), (.iload_n 1, []), (.iastore, []), (.aload_n 0, []), (.getfield 119, [12, 48, 1352]), (.aload_n 0, []), (.getfield 340, [12, 46, 1350]), (.iload_n 2, []), (.iastore, []), (.aload_n 0, []), (.getfield 122, [12, 49, 1353]), (.aload_n 0, []), (.getfield 340, [12, 46, 1350]), (.aload_n 0, []), (.getfield 113, [12, 45, 1349]), (.bipush 6, []), (.aload_n 0, []), (.getfield 67, [12, 30, 1334]), (.iload_n 3, []), (.iaload, []), (.imul, []), (.aload_n 0, []), (.getfield 67, [12, 30, 1334]), (.iload 4, []), (.iaload, []), (.iadd, []), (.iaload, []), (.iastore, []), (.aload_n 0, []), (.dup, []), (.getfield 340, [12, 46, 1350]), (.iconst 1, []), (.iadd, []), (.putfield 340, [12, 46, 1350])]),
  (164, none, 0, [(.iinc 2 1, []), (.goto (-143), [3])]),
  (170, none, 0, [(.iinc 1 1, []), (.goto (-166), [1])]),
  (176, none, 0, [(.return_, [])])])
def pm_X12_meetsAll : sm_M := (yX12_meetsAll, prog_14_method_99_code, 3, none, 0, 0, 0, [2003, 14, 1], [
  (0, some [0], 0, [(.iconst 0, []), (.istore_n 1, []), (.aload_n 0, []), (.getfield 146, [12, 62, 1366]), (.iconst 0, []), (.iconst 0, []), (.iastore, []), (.aload_n 0, []), (.getfield 382, [12, 59, 1363]), (.ifCond .ne 8, [2, 1])]),
  (16, none, 2, [(.aload_n 0, []), (.iconst 0, []), (.invokevirtual 522, [180, 1, 12, 2004, 2006, 3854, 0])]),
  (21, some [0, 1], 0, [(.iload_n 1, []), (.ifCond .lt 144, [13, 3])]),
  (25, none, 0, [(.aload_n 0, []), (.getfield 382, [12, 59, 1363]), (.ifCond .le 137, [13, 4])]),
  (32, none, 0, [(.aload_n 0, []), (.getfield 146, [12, 62, 1366]), (.iload_n 1, []), (.iaload, []), (.aload_n 0, []), (.aload_n 0, []), (.getfield 140, [12, 60, 1364]), (.iload_n 1, []), (.iaload, []), (.invokevirtual 394, [107, 1, 12, 1828, 1830, 3594, 0]), (.if_icmp .ne 9, [6, 5])]),
  (51, none, 0, [(.iinc 1 (-1), []), (.goto (-33), [2])]),
  (57, none, 0, [(.aload_n 0, []), (.getfield 146, [12, 62, 1366]), (.iload_n 1, []), (.iaload, []), (.istore_n 2, []), (.aload_n 0, []), (.getfield 146, [12, 62, 1366]), (.iload_n 1, []), (.dup2, []), (.iaload, []), (.iconst 1, []), (.iadd, []), (.iastore, []), (.aload_n 0, []), (.dup, []), (.getfield 388, [12, 63, 1367]), (.iconst 1, []), (.iadd, []), (.putfield 388, [12, 63, 1367]), (.aload_n 0, []), (.getfield 388, [12, 63, 1367]), (.sipush 1000, []), (.if_icmp .le 9, [8, 7])]),
  (94, none, 0, [(.aload_n 0, []), (.iconst 1, []), (.putfield 391, [12, 64, 1368]), (.return_, [])]),
  (100, none, 0, [(.aload_n 0, []), (.iload_n 1, []), (.iload_n 1, []), (.iconst 1, []), (.iadd, []), (.invokevirtual 397, [109, 1, 12, 1832, 1834, 3595, 0]), (.aload_n 0, []), (.iload_n 1, []), (.iconst 1, []), (.iadd, []), (.putfield 343, [12, 52, 1356]), (.aload_n 0, []), (.aload_n 0, []), (.getfield 140, [12, 60, 1364]), (.iload_n 1, []), (.iaload, []), (.iload_n 2, []), (.invokevirtual 400, [108, 1, 12, 1836, 1838, 3596, 0]), (.ifCond .ne 6, [10, 9])]),
  (129, none, 0, [(.goto (-108), [2])]),
  (132, none, 0, [(.iload_n 1, []), (.iconst 1, []), (.iadd, []), (.aload_n 0, []), (.getfield 382, [12, 59, 1363]), (.if_icmp .ne 14, [12, 11])]),
  (142, none, 0, [(.aload_n 0, []), (.aload_n 0, []), (.getfield 343, [12, 52, 1356]), (.invokevirtual 522, [180, 1, 12, 2004, 2006, 3854, 0]), (.goto (-129), [2])]),
  (153, none, 0, [(.iinc 1 1, []), (.aload_n 0, []), (.getfield 146, [12, 62, 1366]), (.iload_n 1, []), (.iconst 0, []), (.iastore, []), (.goto (-142), [2])]),
  (166, none, 0, [(.return_, [])])])
def pm_X12_more : sm_M := (yX12_more, prog_14_method_44_code, 5, (some .int), 4, 0, 0, [1740, 14, 1], [
  (0, some [0, 1, 2, 3, 4], 0, [(.aload_n 0, []), (.getfield 275, [12, 54, 1358]), (.bipush 6, []), (.if_icmp .eq 51, [6, 1])]),
  (9, none, 0, [(.aload_n 0, []), (.iload_n 1, []), (.invokevirtual 370, [143, 1, 12, 1741, 1743, 3342, 0]), (.ifCond .eq 43, [6, 2])]),
  (17, none, 0, [(.iload_n 2, []), (.iconst (-1), []), (.if_icmp .eq 11, [4, 3])]),
  (22, none, 0, [(.aload_n 0, []), (.iload_n 2, []), (.invokevirtual 370, [143, 1, 12, 1741, 1743, 3342, 0]), (.ifCond .eq 30, [6, 4])]),
  (30, none, 0, [(.iload_n 3, []), (.sipush (-1440), []), (.sipush 1440, []), (.invokestatic 373, [134, 0, 0, 1745, 1746, 0, 0]), (.ifCond .eq 17, [6, 5])]),
  (43, none, 0, [(.iload 4, []), (.sipush (-1440), []), (.sipush 1440, []), (.invokestatic 373, [134, 0, 0, 1745, 1746, 0, 0]), (.ifCond .ne 5, [7, 6])]),
  (57, none, 0, [(.iconst (-1), []), (.ireturn, [])]),
  (59, none, 0, [(.aload_n 0, []), (.getfield 128, [12, 55, 1359]), (.aload_n 0, []), (.getfield 275, [12, 54, 1358]), (.iload_n 1, []), (.iastore, []), (.aload_n 0, []), (.getfield 131, [12, 56, 1360]), (.aload_n 0, []), (.getfield 275, [12, 54, 1358]), (.iload_n 2, []), (.iastore, []), (.aload_n 0, []), (.getfield 134, [12, 57, 1361]), (.aload_n 0, []), (.getfield 275, [12, 54, 1358]), (.iload_n 3, []), (.iastore, []), (.aload_n 0, []), (.getfield 137, [12, 58, 1362]), (.aload_n 0, []), (.getfield 275, [12, 54, 1358]), (.iload 4, []), (.iastore, []), (.aload_n 0, []), (.dup, []), (.getfield 275, [12, 54, 1358]), (.iconst 1, []), (.iadd, []), (.putfield 275, [12, 54, 1358]), (.aload_n 0, []), (.invokevirtual 284, [103, 1, 12, 1729, 1731, 3341, 0]), (.aload_n 0, []), (.getfield 275, [12, 54, 1358]), (.ireturn, [])])])
def pm_X12_move : sm_M := (yX12_move, prog_14_method_61_code, 3, (some .int), 2, 0, 0, [1767, 14, 1], [
  (0, some [0, 1, 2], 0, [(.iload_n 1, []), (.iconst 0, []), (.aload_n 0, []), (.getfield 340, [12, 46, 1350]), (.iconst 1, []), (.isub, []), (.invokestatic 373, [134, 0, 0, 1745, 1746, 0, 0]), (.ifCond .eq 12, [2, 1])]),
  (14, none, 0, [(.iload_n 2, []), (.iconst 0, []), (.iconst 2, []), (.invokestatic 373, [134, 0, 0, 1745, 1746, 0, 0]), (.ifCond .ne 5, [3, 2])]),
  (23, none, 0, [(.iconst (-1), []), (.ireturn, [])]),
  (25, none, 0, [(.iload_n 2, []), (.ifCond .ne 12, [5, 4])]),
  (29, none, 0, [(.aload_n 0, []), (.getfield 116, [12, 47, 1351]), (.iload_n 1, []), (.iaload, []), (.goto 38, [10])]),
  (38, none, 0, [(.iload_n 2, []), (.iconst 1, []), (.if_icmp .ne 12, [7, 6])]),
  (43, none, 0, [(.aload_n 0, []), (.getfield 119, [12, 48, 1352]), (.iload_n 1, []), (.iaload, []), (.goto 24, [10])]),
  (52, none, 0, [(.aload_n 0, []), (.getfield 122, [12, 49, 1353]), (.iload_n 1, []), (.iaload, []), (.iconst (-1), []), (.if_icmp .ne 8, [9, 8])]),
  (62, none, 0, [(.bipush (-2), []), (.goto 9, [10])]),
  (67, none, 10, [(.aload_n 0, []), (.getfield 122, [12, 49, 1353]), (.iload_n 1, []), (.iaload, [])]),
  (73, none, 0, [(.ireturn, [])])])
def pm_X12_must : sm_M := (yX12_must, prog_14_method_18_code, 2, none, 1, 0, 0, [1676, 14, 1], [
  (0, some [0, 1], 0, [(.aload_n 0, []), (.iload_n 1, []), (.invokevirtual 254, [136, 1, 12, 1649, 1651, 3081, 0]), (.ifCond .eq 10, [2, 1])]),
  (8, none, 0, [(.aload_n 0, []), (.invokevirtual 257, [129, 1, 12, 1665, 1667, 3085, 0]), (.goto 8, [3])]),
  (15, none, 3, [(.aload_n 0, []), (.iconst 1, []), (.invokevirtual 251, [116, 1, 12, 1657, 1659, 3083, 0])]),
  (20, none, 0, [(.return_, [])])])
def pm_X12_named : sm_M := (yX12_named, prog_14_method_23_code, 3, (some .int), 0, 0, 0, [1672, 14, 1], [
  (0, some [0], 1, [(.aload_n 0, []), (.getfield 239, [12, 11, 1316]), (.istore_n 1, []), (.aload_n 0, []), (.iconst 1, []), (.invokevirtual 312, [158, 1, 12, 1673, 1675, 3087, 0]), (.iconst 0, []), (.istore_n 2, [])]),
  (12, some [0, 1, 2], 0, [(.iload_n 2, []), (.aload_n 0, []), (.getfield 269, [12, 20, 1324]), (.if_icmp .ge 38, [6, 2])]),
  (20, none, 0, [(.aload_n 0, []), (.getfield 236, [12, 13, 1317]), (.ifCond .ne 31, [6, 3])]),
  (27, none, 0, [(.aload_n 0, []), (.getfield 40, [12, 21, 1325]), (.iload_n 2, []), (.laload, []), (.aload_n 0, []), (.getfield 30, [12, 8, 1313]), (.iload_n 1, []), (.laload, []), (.lcmp, []), (.ifCond .ne 9, [5, 4])]),
  (43, none, 5, [(.aload_n 0, []), (.iconst 3, []), (.iload_n 1, []), (.invokevirtual 315, [206, 1, 12, 1677, 1679, 3328, 0])]),
  (49, none, 0, [(.iinc 2 1, []), (.goto (-40), [1])]),
  (55, none, 0, [(.iload_n 1, []), (.ireturn, [])])])
def pm_X12_next : sm_M := (yX12_next, prog_14_method_105_code, 7, (some .int), 0, 0, 0, [2027, 14, 1], [
  (0, some [0], 0, [(.aload_n 0, []), (.getfield 104, [12, 42, 1346]), (.aload_n 0, []), (.getfield 263, [12, 18, 1322]), (.iaload, []), (.ifCond .ne 6, [2, 1])]),
  (12, none, 0, [(.bipush (-2), []), (.ireturn, [])]),
  (15, none, 0, [(.aload_n 0, []), (.invokevirtual 434, [128, 1, 12, 1772, 1774, 3584, 0]), (.aload_n 0, []), (.getfield 425, [12, 71, 1375]), (.ifCond .eq 6, [4, 3])]),
  (26, none, 0, [(.bipush (-3), []), (.ireturn, [])]),
  (29, none, 5, [(.iconst (-1), []), (.istore_n 1, []), (.iconst 0, []), (.istore_n 2, []), (.iconst 0, []), (.istore_n 3, [])]),
  (35, some [0, 1, 2, 3], 0, [(.iload_n 3, []), (.aload_n 0, []), (.getfield 104, [12, 42, 1346]), (.aload_n 0, []), (.getfield 263, [12, 18, 1322]), (.iaload, []), (.if_icmp .ge 64, [14, 6])]),
  (48, none, 0, [(.aload_n 0, []), (.iconst 1, []), (.iload_n 3, []), (.ishl, []), (.iconst 0, []), (.invokevirtual 531, [152, 1, 12, 2012, 2014, 3855, 0]), (.istore 4, []), (.aload_n 0, []), (.iconst 0, []), (.iconst 1, []), (.iload_n 3, []), (.ishl, []), (.invokevirtual 531, [152, 1, 12, 2012, 2014, 3855, 0]), (.istore 5, []), (.iload 4, []), (.iload 5, []), (.if_icmp .le 8, [8, 7])]),
  (75, none, 0, [(.iload 4, []), (.goto 5, [9])]),
  (80, none, 9, [(.iload 5, [])]),
  (82, none, 0, [(.istore 6, []), (.iload_n 1, []), (.iconst (-1), []), (.if_icmp .eq 12, [12, 10])]),
  (89, none, 0, [(.iload 6, []), (.iload_n 2, []), (.if_icmp .lt 6, [12, 11])]),
  (95, none, 0, [(.goto 8, [13])]),
  (98, none, 13, [(.iload_n 3, []), (.istore_n 1, []), (.iload 6, []), (.istore_n 2, [])]),
  (103, none, 0, [(.iinc 3 1, []), (.goto (-71), [5])]),
  (109, none, 0, [(.iload_n 1, []), (.ireturn, [])])])
def pm_X12_notes : sm_M := (yX12_notes, prog_14_method_49_code, 4, none, 3, 0, 0, [1843, 14, 1], [
  (0, some [0, 1, 2, 3], 0, [(.aload_n 0, []), (.getfield 159, [12, 76, 1380]), (.aload_n 0, []), (.getfield 388, [12, 63, 1367]), (.iconst 1, []), (.isub, []), (.iload_n 1, []), (.i2b, []), (.bastore, []), (.aload_n 0, []), (.getfield 162, [12, 77, 1381]), (.aload_n 0, []), (.getfield 388, [12, 63, 1367]), (.iconst 1, []), (.isub, []), (.iload_n 2, []), (.i2b, []), (.bastore, []), (.aload_n 0, []), (.getfield 165, [12, 78, 1382]), (.aload_n 0, []), (.getfield 388, [12, 63, 1367]), (.iconst 1, []), (.isub, []), (.iload_n 3, []), (.bastore, []), (.return_, [])])])
def pm_X12_number : sm_M := (yX12_number, prog_14_method_26_code, 5, (some .int), 1, 0, 0, [1696, 14, 1], [
  (0, some [0, 1], 0, [(.iload_n 1, []), (.ifCond .eq 16, [3, 1])]),
  (4, none, 0, [(.aload_n 0, []), (.bipush 9, []), (.invokevirtual 254, [136, 1, 12, 1649, 1651, 3081, 0]), (.ifCond .eq 7, [3, 2])]),
  (13, none, 0, [(.iconst (-1), []), (.goto 4, [4])]),
  (17, none, 4, [(.iconst 1, [])]),
  (18, none, 0, [(.istore_n 2, []), (.iload_n 1, []), (.ifCond .eq 16, [7, 5])]),
  (23, none, 0, [(.aload_n 0, []), (.bipush 9, []), (.invokevirtual 254, [136, 1, 12, 1649, 1651, 3081, 0]), (.ifCond .eq 7, [7, 6])]),
  (32, none, 7, [(.aload_n 0, []), (.invokevirtual 257, [129, 1, 12, 1665, 1667, 3085, 0])]),
  (36, some [0, 2], 0, [(.aload_n 0, []), (.getfield 239, [12, 11, 1316]), (.istore_n 3, []), (.aload_n 0, []), (.iconst 2, []), (.invokevirtual 254, [136, 1, 12, 1649, 1651, 3081, 0]), (.ifCond .eq 15, [9, 8])]),
  (49, none, 0, [(.aload_n 0, []), (.getfield 27, [12, 7, 1312]), (.aload_n 0, []), (.getfield 239, [12, 11, 1316]), (.iaload, []), (.goto 4, [10])]),
  (61, none, 10, [(.iconst 0, [])]),
  (62, some [0, 2, 3], 0, [(.istore 4, []), (.aload_n 0, []), (.iconst 2, []), (.invokevirtual 312, [158, 1, 12, 1673, 1675, 3087, 0]), (.aload_n 0, []), (.getfield 236, [12, 13, 1317]), (.ifCond .ne 17, [13, 11])]),
  (76, none, 0, [(.iload 4, []), (.sipush 1440, []), (.if_icmp .le 9, [13, 12])]),
  (84, none, 13, [(.aload_n 0, []), (.iconst 5, []), (.iload_n 3, []), (.invokevirtual 315, [206, 1, 12, 1677, 1679, 3328, 0])]),
  (90, some [2, 4], 0, [(.iload_n 2, []), (.iload 4, []), (.imul, []), (.ireturn, [])])])
def pm_X12_oneMore : sm_M := (yX12_oneMore, prog_14_method_96_code, 5, none, 2, 0, 0, [1995, 14, 1], [
  (0, some [0, 1, 2], 1, [(.aload_n 0, []), (.iconst 0, []), (.putfield 349, [12, 53, 1357]), (.aload_n 0, []), (.iconst 0, []), (.putfield 376, [12, 68, 1372]), (.aload_n 0, []), (.iconst 0, []), (.putfield 385, [12, 67, 1371]), (.iconst 0, []), (.istore_n 3, [])]),
  (17, some [0, 1, 2, 3], 0, [(.iload_n 3, []), (.aload_n 0, []), (.getfield 61, [12, 28, 1332]), (.aload_n 0, []), (.getfield 263, [12, 18, 1322]), (.iaload, []), (.if_icmp .ge 91, [7, 2])]),
  (30, none, 0, [(.bipush 10, []), (.aload_n 0, []), (.getfield 263, [12, 18, 1322]), (.imul, []), (.iload_n 3, []), (.iadd, []), (.istore 4, []), (.aload_n 0, []), (.getfield 64, [12, 29, 1333]), (.iload 4, []), (.iaload, []), (.iload_n 1, []), (.if_icmp .ne 63, [6, 3])]),
  (52, none, 0, [(.aload_n 0, []), (.getfield 67, [12, 30, 1334]), (.iload 4, []), (.iaload, []), (.iload_n 2, []), (.if_icmp .ne 6, [5, 4])]),
  (63, none, 0, [(.goto 49, [6])]),
  (66, none, 6, [(.aload_n 0, []), (.getfield 149, [12, 65, 1369]), (.aload_n 0, []), (.getfield 385, [12, 67, 1371]), (.iload_n 3, []), (.iastore, []), (.aload_n 0, []), (.getfield 152, [12, 66, 1370]), (.aload_n 0, []), (.getfield 385, [12, 67, 1371]), (.aload_n 0, []), (.getfield 113, [12, 45, 1349]), (.bipush 6, []), (.aload_n 0, []), (.getfield 67, [12, 30, 1334]), (.iload 4, []), (.iaload, []), (.imul, []), (.iload_n 2, []), (.iadd, []), (.iaload, []), (.iastore, []), (.aload_n 0, []), (.dup, []), (.getfield 385, [12, 67, 1371]), (.iconst 1, []), (.iadd, []), (.putfield 385, [12, 67, 1371])]),
  (112, none, 0, [(.iinc 3 1, []), (.goto (-98), [1])]),
  (118, none, 0, [(.aload_n 0, []), (.aload_n 0, []), (.invokevirtual 407, [201, 1, 12, 1792, 1794, 3585, 0]), (.invokevirtual 410, [153, 1, 12, 1796, 1798, 3586, 0]), (.aload_n 0, []), (.iconst 0, []), (.putfield 388, [12, 63, 1367]), (.aload_n 0, []), (.iconst 0, []), (.putfield 391, [12, 64, 1368]), (.return_, [])])])
def pm_X12_openAt : sm_M := (yX12_openAt, prog_14_method_39_code, 2, (some .int), 1, 0, 0, [1823, 14, 1], [
  (0, some [0, 1], 0, [(.iload_n 1, []), (.ifCond .eq 16, [2, 1])]),
  (4, none, 0, [(.iload_n 1, []), (.aload_n 0, []), (.getfield 61, [12, 28, 1332]), (.aload_n 0, []), (.getfield 263, [12, 18, 1322]), (.iaload, []), (.if_icmp .le 7, [3, 2])]),
  (17, none, 0, [(.iconst (-1), []), (.goto 19, [4])]),
  (21, none, 4, [(.aload_n 0, []), (.getfield 101, [12, 41, 1345]), (.bipush 10, []), (.aload_n 0, []), (.getfield 263, [12, 18, 1322]), (.imul, []), (.iload_n 1, []), (.iadd, []), (.iconst 1, []), (.isub, []), (.iaload, [])]),
  (37, none, 0, [(.ireturn, [])])])
def pm_X12_pick : sm_M := (yX12_pick, prog_14_method_89_code, 4, (some .boolean), 2, 0, 0, [1955, 14, 1], [
  (0, some [0, 1, 2], 0, [(.aload_n 0, []), (.iload_n 1, []), (.invokevirtual 485, [144, 1, 12, 1956, 1958, 3848, 0]), (.istore_n 3, []), (.iload_n 3, []), (.iconst (-1), []), (.if_icmp .eq 23, [3, 1])]),
  (11, none, 0, [(.iload_n 2, []), (.iconst (-1), []), (.if_icmp .eq 20, [4, 2])]),
  (16, none, 0, [(.iload_n 2, []), (.iconst 0, []), (.aload_n 0, []), (.iload_n 3, []), (.invokevirtual 394, [107, 1, 12, 1828, 1830, 3594, 0]), (.iconst 1, []), (.isub, []), (.invokestatic 373, [134, 0, 0, 1745, 1746, 0, 0]), (.ifCond .ne 5, [4, 3])]),
  (31, none, 0, [(.iconst 0, []), (.ireturn, [])]),
  (33, none, 0, [(.aload_n 0, []), (.getfield 177, [12, 86, 1390]), (.iload_n 3, []), (.iload_n 2, []), (.iastore, []), (.iconst 1, []), (.ireturn, [])])])
def pm_X12_pickedStands : sm_M := (yX12_pickedStands, prog_14_method_90_code, 2, (some .boolean), 0, 0, 0, [1967, 14, 1], [
  (0, some [0], 0, [(.aload_n 0, []), (.iconst 0, []), (.putfield 349, [12, 53, 1357]), (.aload_n 0, []), (.iconst 0, []), (.putfield 376, [12, 68, 1372]), (.aload_n 0, []), (.aload_n 0, []), (.getfield 61, [12, 28, 1332]), (.aload_n 0, []), (.getfield 263, [12, 18, 1322]), (.iaload, []), (.iconst 1, []), (.iadd, []), (.invokevirtual 419, [96, 1, 12, 1800, 1802, 3587, 0]), (.ifCond .ne 5, [2, 1])]),
  (28, none, 0, [(.iconst 0, []), (.ireturn, [])]),
  (30, none, 3, [(.iconst 0, []), (.istore_n 1, [])]),
  (32, some [0, 1], 0, [(.iload_n 1, []), (.bipush 10, []), (.aload_n 0, []), (.getfield 340, [12, 46, 1350]), (.iadd, []), (.if_icmp .ge 44, [9, 4])]),
  (43, none, 0, [(.aload_n 0, []), (.getfield 177, [12, 86, 1390]), (.iload_n 1, []), (.iaload, []), (.iconst (-1), []), (.if_icmp .eq 28, [8, 5])]),
  (53, none, 0, [(.aload_n 0, []), (.getfield 183, [12, 89, 1393]), (.iload_n 1, []), (.baload, []), (.ifCond .ne 19, [8, 6])]),
  (62, none, 0, [(.aload_n 0, []), (.iload_n 1, []), (.aload_n 0, []), (.getfield 177, [12, 86, 1390]), (.iload_n 1, []), (.iaload, []), (.invokevirtual 400, [108, 1, 12, 1836, 1838, 3596, 0]), (.ifCond .ne 5, [8, 7])]),
  (76, none, 0, [(.iconst 0, []), (.ireturn, [])]),
  (78, none, 0, [(.iinc 1 1, []), (.goto (-49), [3])]),
  (84, none, 0, [(.iconst 1, []), (.ireturn, [])])])
def pm_X12_place : sm_M := (yX12_place, prog_14_method_21_code, 1, (some .int), 0, 0, 0, [1736, 14, 1], [
  (0, some [0], 0, [(.aload_n 0, []), (.getfield 37, [12, 17, 1321]), (.ireturn, [])])])
def pm_X12_plan : sm_M := (yX12_plan, prog_14_method_109_code, 2, (some .int), 1, 0, 0, [2051, 14, 1], [
  (0, some [0, 1], 0, [(.aload_n 0, []), (.iload_n 1, []), (.iconst 0, []), (.invokevirtual 540, [169, 1, 12, 2052, 2054, 4098, 0]), (.ireturn, [])])])
def pm_X12_planOf : sm_M := (yX12_planOf, prog_14_method_108_code, 4, (some .int), 2, 0, 0, [2055, 14, 1], [
  (0, some [0, 1, 2], 0, [(.iload_n 1, []), (.iconst 0, []), (.sipush 1000, []), (.invokestatic 373, [134, 0, 0, 1745, 1746, 0, 0]), (.ifCond .ne 5, [2, 1])]),
  (11, none, 0, [(.iconst (-1), []), (.ireturn, [])]),
  (13, none, 0, [(.aload_n 0, []), (.invokevirtual 434, [128, 1, 12, 1772, 1774, 3584, 0]), (.aload_n 0, []), (.getfield 425, [12, 71, 1375]), (.ifCond .ne 12, [4, 3])]),
  (24, none, 0, [(.aload_n 0, []), (.getfield 416, [12, 73, 1377]), (.bipush 64, []), (.if_icmp .le 6, [5, 4])]),
  (33, none, 0, [(.bipush (-3), []), (.ireturn, [])]),
  (36, none, 0, [(.aload_n 0, []), (.iload_n 1, []), (.invokevirtual 537, [170, 1, 12, 2056, 2058, 4099, 0]), (.istore_n 3, []), (.iload_n 3, []), (.bipush 100, []), (.if_icmp .lt 6, [7, 6])]),
  (48, none, 0, [(.bipush (-2), []), (.ireturn, [])]),
  (51, none, 0, [(.iload_n 2, []), (.ifCond .ne 7, [9, 8])]),
  (55, none, 0, [(.iload_n 3, []), (.goto 16, [12])]),
  (59, none, 0, [(.iload_n 3, []), (.ifCond .ne 8, [11, 10])]),
  (63, none, 0, [(.bipush (-2), []), (.goto 7, [12])]),
  (68, none, 12, [(.aload_n 0, []), (.getfield 534, [12, 96, 1400])]),
  (72, none, 0, [(.ireturn, [])])])
def pb_X12_plans_0 : sm_B := (0, some [0, 1], 1, [(.aload_n 0, []), (.getfield 104, [12, 42, 1346]), (.aload_n 0, []), (.getfield 263, [12, 18, 1322]), (.iaload, []), (.istore_n 2, []), (.aload_n 0, []), (.getfield 192, [12, 95, 1399]), (.iload_n 2, []), (.iaload, []), (.istore_n 3, []), (.iconst 0, []), (.istore 4, [])])
def pb_X12_plans_1 : sm_B := (20, some [0, 1, 2, 3, 4], 0, [(.iload 4, []), (.iload_n 3, []), (.if_icmp .ge 17, [3, 2])])
def pb_X12_plans_2 : sm_B := (26, none, 0, [(.aload_n 0, []), (.getfield 186, [12, 93, 1397]), (.iload 4, []), (.iconst 0, []), (.iastore, []), (.iinc 4 1, []), (.goto (-17), [1])])
def pb_X12_plans_3 : sm_B := (40, none, 4, [(.iconst 0, []), (.istore 4, [])])
def pb_X12_plans_4 : sm_B := (43, some [0, 1, 2, 3, 4], 0, [(.iload 4, []), (.aload_n 0, []), (.getfield 416, [12, 73, 1377]), (.if_icmp .ge 124, [20, 5])])
def pb_X12_plans_5 : sm_B := (52, none, 0, [(.aload_n 0, []), (.iload 4, []), (.iconst 0, []), (.invokevirtual 444, [149, 1, 12, 1864, 1866, 3840, 0]), (.ifCond .ne 6, [7, 6])])
def pb_X12_plans_6 : sm_B := (62, none, 0, [(.goto 105, [19])])
def pb_X12_plans_7 : sm_B := (65, none, 8, [(.iconst 0, []), (.istore 5, [])])
def pb_X12_plans_8 : sm_B := (68, some [0, 1, 2, 3, 4, 5], 0, [(.iload 5, []), (.iload_n 3, []), (.if_icmp .ge 96, [19, 9])])
def pb_X12_plans_9 : sm_B := (74, none, 10, [(.iconst 0, []), (.istore 6, []), (.iconst 0, []), (.istore 7, []), (.iconst 0, []), (.istore 8, [])])
def pb_X12_plans_10 : sm_B := (83, some [0, 1, 2, 3, 4, 5, 6, 7, 8], 0, [(.iload 8, []), (.iload_n 2, []), (.if_icmp .ge 53, [16, 11])])
def pb_X12_plans_11 : sm_B := (89, none, 0, [(.iload 5, []), (.aload_n 0, []), (.getfield 192, [12, 95, 1399]), (.iload 8, []), (.iaload, []), (.idiv, []), (.iconst 3, []), (.irem, []), (.istore 9, []), (.iload 9, []), (.iconst 1, []), (.if_icmp .ne 12, [13, 12])])
def pb_X12_plans_12 : sm_B := (109, none, 13, [(.iload 6, []), (.iconst 1, []), (.iload 8, []), (.ishl, []), (.ior, []), (.istore 6, [])])
def pb_X12_plans_13 : sm_B := (118, none, 0, [(.iload 9, []), (.iconst 2, []), (.if_icmp .ne 12, [15, 14])])
def pb_X12_plans_14 : sm_B := (124, none, 15, [(.iload 7, []), (.iconst 1, []), (.iload 8, []), (.ishl, []), (.ior, []), (.istore 7, [])])
def pb_X12_plans_15 : sm_B := (133, none, 0, [(.iinc 8 1, []), (.goto (-53), [10])])
def pb_X12_plans_16 : sm_B := (139, none, 0, [(.aload_n 0, []), (.iload 6, []), (.iload 7, []), (.invokevirtual 528, [138, 1, 12, 2016, 2018, 4096, 0]), (.ifCond .eq 14, [18, 17])])
def pb_X12_plans_17 : sm_B := (150, none, 18, [(.aload_n 0, []), (.getfield 186, [12, 93, 1397]), (.iload 5, []), (.dup2, []), (.iaload, []), (.iconst 1, []), (.iadd, []), (.iastore, [])])
def pb_X12_plans_18 : sm_B := (161, none, 0, [(.iinc 5 1, []), (.goto (-96), [8])])
def pb_X12_plans_19 : sm_B := (167, none, 0, [(.iinc 4 1, []), (.goto (-127), [4])])
def pb_X12_plans_20 : sm_B := (173, none, 21, [(.aload_n 0, []), (.iconst (-1), []), (.putfield 534, [12, 96, 1400]), (.iload_n 3, []), (.iconst 1, []), (.isub, []), (.istore 4, [])])
def pb_X12_plans_21 : sm_B := (183, some [0, 1, 2, 4], 0, [(.iload 4, []), (.ifCond .lt 166, [39, 22])])
def pb_X12_plans_22 : sm_B := (188, none, 0, [(.aload_n 0, []), (.getfield 189, [12, 94, 1398]), (.iload 4, []), (.aload_n 0, []), (.getfield 186, [12, 93, 1397]), (.iload 4, []), (.iaload, []), (.iload_n 1, []), (.if_icmp .gt 7, [24, 23])])
def pb_X12_plans_23 : sm_B := (205, none, 0, [(.iconst 0, []), (.goto 5, [25])])
def pb_X12_plans_24 : sm_B := (209, none, 25, [(.bipush 100, [])])
def pb_X12_plans_25 : sm_B := (211, none, 26, [(.iastore, []), (.iconst 0, []), (.istore 5, [])])
def pb_X12_plans_26 : sm_B := (215, some [0, 1, 2, 4, 5], 0, [(.iload 5, []), (.iload_n 2, []), (.if_icmp .ge 127, [38, 27])])
def pb_X12_plans_27 : sm_B := (221, none, 0, [(.aload_n 0, []), (.getfield 186, [12, 93, 1397]), (.iload 4, []), (.iaload, []), (.iload_n 1, []), (.if_icmp .le 116, [38, 28])])
def pb_X12_plans_28 : sm_B := (232, none, 0, [(.iload 4, []), (.aload_n 0, []), (.getfield 192, [12, 95, 1399]), (.iload 5, []), (.iaload, []), (.idiv, []), (.iconst 3, []), (.irem, []), (.ifCond .eq 6, [30, 29])])
def pb_X12_plans_29 : sm_B := (247, none, 0, [(.goto 92, [37])])
def pb_X12_plans_30 : sm_B := (250, none, 0, [(.aload_n 0, []), (.getfield 189, [12, 94, 1398]), (.iload 4, []), (.aload_n 0, []), (.getfield 192, [12, 95, 1399]), (.iload 5, []), (.iaload, []), (.iadd, []), (.iaload, []), (.istore 6, []), (.aload_n 0, []), (.getfield 189, [12, 94, 1398]), (.iload 4, []), (.iconst 2, []), (.aload_n 0, []), (.getfield 192, [12, 95, 1399]), (.iload 5, []), (.iaload, []), (.imul, []), (.iadd, []), (.iaload, []), (.istore 7, []), (.iload 6, []), (.iload 7, []), (.if_icmp .le 8, [32, 31])])
def pb_X12_plans_31 : sm_B := (293, none, 0, [(.iload 6, []), (.goto 5, [33])])
def pb_X12_plans_32 : sm_B := (298, none, 33, [(.iload 7, [])])
def pb_X12_plans_33 : sm_B := (300, none, 0, [(.iconst 1, []), (.iadd, []), (.istore 8, []), (.iload 8, []), (.aload_n 0, []), (.getfield 189, [12, 94, 1398]), (.iload 4, []), (.iaload, []), (.if_icmp .lt 6, [35, 34])])
def pb_X12_plans_34 : sm_B := (316, none, 0, [(.goto 23, [37])])
def pb_X12_plans_35 : sm_B := (319, none, 0, [(.aload_n 0, []), (.getfield 189, [12, 94, 1398]), (.iload 4, []), (.iload 8, []), (.iastore, []), (.iload 4, []), (.ifCond .ne 9, [37, 36])])
def pb_X12_plans_36 : sm_B := (333, none, 37, [(.aload_n 0, []), (.iload 5, []), (.putfield 534, [12, 96, 1400])])
def pb_X12_plans_37 : sm_B := (339, none, 0, [(.iinc 5 1, []), (.goto (-127), [26])])
def pb_X12_plans_38 : sm_B := (345, none, 0, [(.iinc 4 (-1), []), (.goto (-165), [21])])
def pb_X12_plans_39 : sm_B := (351, none, 0, [(.aload_n 0, []), (.getfield 189, [12, 94, 1398]), (.iconst 0, []), (.iaload, []), (.ireturn, [])])
def pm_X12_plans : sm_M := (yX12_plans, prog_14_method_107_code, 10, (some .int), 1, 0, 0, [2059, 14, 1], [
  pb_X12_plans_0,
  pb_X12_plans_1,
  pb_X12_plans_2,
  pb_X12_plans_3,
  pb_X12_plans_4,
  pb_X12_plans_5,
  pb_X12_plans_6,
  pb_X12_plans_7,
  pb_X12_plans_8,
  pb_X12_plans_9,
  pb_X12_plans_10,
  pb_X12_plans_11,
  pb_X12_plans_12,
  pb_X12_plans_13,
  pb_X12_plans_14,
  pb_X12_plans_15,
  pb_X12_plans_16,
  pb_X12_plans_17,
  pb_X12_plans_18,
  pb_X12_plans_19,
  pb_X12_plans_20,
  pb_X12_plans_21,
  pb_X12_plans_22,
  pb_X12_plans_23,
  pb_X12_plans_24,
  pb_X12_plans_25,
  pb_X12_plans_26,
  pb_X12_plans_27,
  pb_X12_plans_28,
  pb_X12_plans_29,
  pb_X12_plans_30,
  pb_X12_plans_31,
  pb_X12_plans_32,
  pb_X12_plans_33,
  pb_X12_plans_34,
  pb_X12_plans_35,
  pb_X12_plans_36,
  pb_X12_plans_37,
  pb_X12_plans_38,
  pb_X12_plans_39])
def pm_X12_price : sm_M := (yX12_price, prog_14_method_86_code, 2, (some .int), 0, 0, 0, [1950, 14, 1], [
  (0, some [0], 0, [(.aload_n 0, []), (.invokevirtual 482, [104, 1, 12, 1951, 1940, 1941, 0]), (.istore_n 1, []), (.iload_n 1, []), (.ifCond .ge 7, [2, 1])]),
  (9, none, 0, [(.iload_n 1, []), (.goto 8, [3])]),
  (13, none, 3, [(.aload_n 0, []), (.iload_n 1, []), (.invokevirtual 479, [200, 1, 12, 1943, 1945, 3847, 0])]),
  (18, none, 0, [(.ireturn, [])])])
def pm_X12_put : sm_M := (yX12_put, prog_14_method_4_code, 3, none, 1, 0, 0, [1619, 14, 1], [
  (0, some [0, 1], 1, [(.bipush 24, []), (.istore_n 2, [])]),
  (3, some [0, 1, 2], 0, [(.iload_n 2, []), (.ifCond .lt 32, [3, 2])]),
  (7, none, 0, [(.aload_n 0, []), (.getfield 13, [12, 1, 1306]), (.aload_n 0, []), (.getfield 199, [12, 2, 1307]), (.iload_n 1, []), (.iload_n 2, []), (.ishr, []), (.i2b, []), (.bastore, []), (.aload_n 0, []), (.dup, []), (.getfield 199, [12, 2, 1307]), (.iconst 1, []), (.iadd, []), (.putfield 199, [12, 2, 1307]), (.iinc 2 (-8), []), (.goto (-30), [1])]),
  (36, none, 0, [(.return_, [])])])
def pm_X12_quarrel : sm_M := (yX12_quarrel, prog_14_method_81_code, 2, (some .int), 1, 0, 0, [1930, 14, 1], [
  (0, some [0, 1], 0, [(.iload_n 1, []), (.ifCond .ge 5, [2, 1])]),
  (4, none, 0, [(.iconst (-1), []), (.ireturn, [])]),
  (6, none, 0, [(.aload_n 0, []), (.invokevirtual 476, [183, 1, 12, 1912, 1914, 3844, 0]), (.aload_n 0, []), (.getfield 458, [12, 80, 1384]), (.ifCond .eq 8, [4, 3])]),
  (17, none, 0, [(.bipush (-3), []), (.goto 21, [7])]),
  (22, none, 0, [(.iload_n 1, []), (.aload_n 0, []), (.getfield 461, [12, 82, 1386]), (.if_icmp .ge 12, [6, 5])]),
  (30, none, 0, [(.aload_n 0, []), (.getfield 171, [12, 83, 1387]), (.iload_n 1, []), (.iaload, []), (.goto 4, [7])]),
  (39, none, 7, [(.iconst (-1), [])]),
  (40, none, 0, [(.ireturn, [])])])
def pm_X12_quarrels : sm_M := (yX12_quarrels, prog_14_method_80_code, 1, (some .int), 0, 0, 0, [1911, 14, 1], [
  (0, some [0], 0, [(.aload_n 0, []), (.invokevirtual 476, [183, 1, 12, 1912, 1914, 3844, 0]), (.aload_n 0, []), (.getfield 458, [12, 80, 1384]), (.ifCond .eq 8, [2, 1])]),
  (11, none, 0, [(.bipush (-3), []), (.goto 7, [3])]),
  (16, none, 3, [(.aload_n 0, []), (.getfield 461, [12, 82, 1386])]),
  (20, none, 0, [(.ireturn, [])])])
def pb_X12_read_0 : sm_B := (0, some [0], 1, [(.aload_n 0, []), (.aload_n 0, []), (.getfield 199, [12, 2, 1307]), (.putfield 206, [12, 4, 1309]), (.iconst 0, []), (.istore_n 1, [])])
def pb_X12_read_1 : sm_B := (10, some [0, 1], 0, [(.iload_n 1, []), (.aload_n 0, []), (.getfield 206, [12, 4, 1309]), (.if_icmp .ge 21, [3, 2])])
def pb_X12_read_2 : sm_B := (18, none, 0, [(.aload_n 0, []), (.getfield 17, [12, 3, 1308]), (.iload_n 1, []), (.aload_n 0, []), (.getfield 13, [12, 1, 1306]), (.iload_n 1, []), (.baload, []), (.bastore, []), (.iinc 1 1, []), (.goto (-23), [1])])
def pb_X12_read_3 : sm_B := (36, none, 4, [(.aload_n 0, []), (.iconst 0, []), (.putfield 199, [12, 2, 1307]), (.aload_n 0, []), (.invokevirtual 260, [112, 1, 12, 1628, 1630, 3078, 0]), (.aload_n 0, []), (.iconst 0, []), (.putfield 239, [12, 11, 1316]), (.aload_n 0, []), (.iconst 0, []), (.putfield 236, [12, 13, 1317]), (.aload_n 0, []), (.iconst 0, []), (.putfield 245, [12, 15, 1319]), (.aload_n 0, []), (.iconst 1, []), (.aload_n 0, []), (.getfield 263, [12, 18, 1322]), (.isub, []), (.putfield 266, [12, 19, 1323]), (.aload_n 0, []), (.iconst 0, []), (.putfield 269, [12, 20, 1324]), (.aload_n 0, []), (.getfield 49, [12, 24, 1328]), (.aload_n 0, []), (.getfield 266, [12, 19, 1323]), (.iconst 0, []), (.iastore, []), (.aload_n 0, []), (.getfield 52, [12, 25, 1329]), (.aload_n 0, []), (.getfield 266, [12, 19, 1323]), (.iconst 0, []), (.iastore, []), (.aload_n 0, []), (.getfield 55, [12, 26, 1330]), (.aload_n 0, []), (.getfield 266, [12, 19, 1323]), (.iconst 0, [])])
def pb_X12_read_4 : sm_B := (104, none, 5, [(.iastore, []), (.aload_n 0, []), (.getfield 61, [12, 28, 1332]), (.aload_n 0, []), (.getfield 266, [12, 19, 1323]), (.iconst 0, []), (.iastore, []), (.aload_n 0, []), (.getfield 70, [12, 31, 1335]), (.aload_n 0, []), (.getfield 266, [12, 19, 1323]), (.iconst 0, []), (.iastore, []), (.aload_n 0, []), (.getfield 98, [12, 40, 1344]), (.aload_n 0, []), (.getfield 266, [12, 19, 1323]), (.iconst 0, []), (.iastore, []), (.aload_n 0, []), (.getfield 104, [12, 42, 1346]), (.aload_n 0, []), (.getfield 266, [12, 19, 1323]), (.iconst 0, []), (.iastore, []), (.iconst 0, []), (.istore_n 1, [])])
def pb_X12_read_5 : sm_B := (147, some [0, 1], 0, [(.iload_n 1, []), (.bipush 36, []), (.if_icmp .ge 35, [10, 6])])
def pb_X12_read_6 : sm_B := (153, none, 0, [(.aload_n 0, []), (.getfield 58, [12, 27, 1331]), (.bipush 36, []), (.aload_n 0, []), (.getfield 266, [12, 19, 1323]), (.imul, []), (.iload_n 1, []), (.iadd, []), (.iload_n 1, []), (.bipush 7, []), (.irem, []), (.ifCond .ne 7, [8, 7])])
def pb_X12_read_7 : sm_B := (173, none, 0, [(.iconst 0, []), (.goto 4, [9])])
def pb_X12_read_8 : sm_B := (177, none, 9, [(.iconst (-1), [])])
def pb_X12_read_9 : sm_B := (178, none, 0, [(.iastore, []), (.iinc 1 1, []), (.goto (-35), [5])])
def pb_X12_read_10 : sm_B := (185, none, 11, [(.iconst 0, []), (.istore_n 1, [])])
def pb_X12_read_11 : sm_B := (187, some [0, 1], 0, [(.iload_n 1, []), (.bipush 10, []), (.if_icmp .ge 24, [13, 12])])
def pb_X12_read_12 : sm_B := (193, none, 0, [(.aload_n 0, []), (.getfield 101, [12, 41, 1345]), (.bipush 10, []), (.aload_n 0, []), (.getfield 266, [12, 19, 1323]), (.imul, []), (.iload_n 1, []), (.iadd, []), (.iconst (-1), []), (.iastore, []), (.iinc 1 1, []), (.goto (-24), [11])])
def pb_X12_read_13 : sm_B := (214, some [0], 0, [(.aload_n 0, []), (.getfield 236, [12, 13, 1317]), (.ifCond .ne 18, [16, 14])])
def pb_X12_read_14 : sm_B := (221, none, 0, [(.aload_n 0, []), (.iconst 0, []), (.invokevirtual 254, [136, 1, 12, 1649, 1651, 3081, 0]), (.ifCond .ne 10, [16, 15])])
def pb_X12_read_15 : sm_B := (229, none, 0, [(.aload_n 0, []), (.invokevirtual 272, [188, 1, 12, 1653, 1655, 3082, 0]), (.goto (-19), [13])])
def pb_X12_read_16 : sm_B := (236, none, 0, [(.aload_n 0, []), (.aload_n 0, []), (.getfield 236, [12, 13, 1317]), (.ifCond .le 10, [18, 17])])
def pb_X12_read_17 : sm_B := (244, none, 0, [(.aload_n 0, []), (.getfield 242, [12, 14, 1318]), (.goto 18, [21])])
def pb_X12_read_18 : sm_B := (251, none, 0, [(.aload_n 0, []), (.getfield 245, [12, 15, 1319]), (.ifCond .le 10, [20, 19])])
def pb_X12_read_19 : sm_B := (258, none, 0, [(.aload_n 0, []), (.getfield 248, [12, 16, 1320]), (.goto 4, [21])])
def pb_X12_read_20 : sm_B := (265, none, 21, [(.iconst (-1), [])])
def pb_X12_read_21 : sm_B := (266, some [0], 0, [(.putfield 37, [12, 17, 1321]), (.aload_n 0, []), (.getfield 236, [12, 13, 1317]), (.ifCond .le 8, [23, 22])])
def pb_X12_read_22 : sm_B := (276, none, 0, [(.aload_n 0, []), (.getfield 236, [12, 13, 1317]), (.ireturn, [])])
def pb_X12_read_23 : sm_B := (281, none, 0, [(.aload_n 0, []), (.getfield 245, [12, 15, 1319]), (.ifCond .le 8, [25, 24])])
def pb_X12_read_24 : sm_B := (288, none, 0, [(.aload_n 0, []), (.getfield 245, [12, 15, 1319]), (.ireturn, [])])
def pb_X12_read_25 : sm_B := (293, none, 26, [(.aload_n 0, []), (.aload_n 0, []), (.getfield 266, [12, 19, 1323]), (.putfield 263, [12, 18, 1322]), (.iconst 0, []), (.istore_n 1, [])])
def pb_X12_read_26 : sm_B := (303, some [0, 1], 0, [(.iload_n 1, []), (.bipush 10, []), (.if_icmp .ge 23, [28, 27])])
def pb_X12_read_27 : sm_B := (309, none, 0, [(.aload_n 0, []), (.getfield 107, [12, 43, 1347]), (.iload_n 1, []), (.iconst 0, []), (.bastore, []), (.aload_n 0, []), (.getfield 110, [12, 44, 1348]), (.iload_n 1, []), (.iconst (-1), []), (.iastore, []), (.iinc 1 1, []), (.goto (-23), [26])])
def pb_X12_read_28 : sm_B := (329, none, 29, [(.iconst 0, []), (.istore_n 1, [])])
def pb_X12_read_29 : sm_B := (331, some [0, 1], 0, [(.iload_n 1, []), (.bipush 60, []), (.if_icmp .ge 16, [31, 30])])
def pb_X12_read_30 : sm_B := (337, none, 0, [(.aload_n 0, []), (.getfield 177, [12, 86, 1390]), (.iload_n 1, []), (.iconst (-1), []), (.iastore, []), (.iinc 1 1, []), (.goto (-16), [29])])
def pb_X12_read_31 : sm_B := (350, none, 0, [(.aload_n 0, []), (.iconst 0, []), (.putfield 275, [12, 54, 1358]), (.aload_n 0, []), (.invokevirtual 278, [203, 1, 12, 1721, 1723, 3339, 0]), (.aload_n 0, []), (.invokevirtual 281, [154, 1, 12, 1725, 1727, 3340, 0]), (.aload_n 0, []), (.invokevirtual 284, [103, 1, 12, 1729, 1731, 3341, 0]), (.iconst 0, []), (.ireturn, [])])
def pm_X12_read : sm_M := (yX12_read, prog_14_method_19_code, 2, (some .int), 0, 0, 0, [1627, 14, 1], [
  pb_X12_read_0,
  pb_X12_read_1,
  pb_X12_read_2,
  pb_X12_read_3,
  pb_X12_read_4,
  pb_X12_read_5,
  pb_X12_read_6,
  pb_X12_read_7,
  pb_X12_read_8,
  pb_X12_read_9,
  pb_X12_read_10,
  pb_X12_read_11,
  pb_X12_read_12,
  pb_X12_read_13,
  pb_X12_read_14,
  pb_X12_read_15,
  pb_X12_read_16,
  pb_X12_read_17,
  pb_X12_read_18,
  pb_X12_read_19,
  pb_X12_read_20,
  pb_X12_read_21,
  pb_X12_read_22,
  pb_X12_read_23,
  pb_X12_read_24,
  pb_X12_read_25,
  pb_X12_read_26,
  pb_X12_read_27,
  pb_X12_read_28,
  pb_X12_read_29,
  pb_X12_read_30,
  pb_X12_read_31])
def pm_X12_ring : sm_M := (yX12_ring, prog_14_method_93_code, 1, (some .int), 0, 0, 0, [1971, 14, 1], [
  (0, some [0], 0, [(.aload_n 0, []), (.invokevirtual 501, [178, 1, 12, 1972, 1974, 3850, 0]), (.ifCond .eq 10, [2, 1])]),
  (7, none, 0, [(.aload_n 0, []), (.getfield 492, [12, 87, 1391]), (.goto 5, [3])]),
  (14, none, 3, [(.bipush (-2), [])]),
  (16, none, 0, [(.ireturn, [])])])
def pm_X12_ringAt : sm_M := (yX12_ringAt, prog_14_method_94_code, 2, (some .int), 1, 0, 0, [1983, 14, 1], [
  (0, some [0, 1], 0, [(.aload_n 0, []), (.invokevirtual 501, [178, 1, 12, 1972, 1974, 3850, 0]), (.ifCond .eq 26, [3, 1])]),
  (7, none, 0, [(.iload_n 1, []), (.iconst 0, []), (.aload_n 0, []), (.getfield 492, [12, 87, 1391]), (.iconst 1, []), (.isub, []), (.invokestatic 373, [134, 0, 0, 1745, 1746, 0, 0]), (.ifCond .eq 12, [3, 2])]),
  (21, none, 0, [(.aload_n 0, []), (.getfield 180, [12, 88, 1392]), (.iload_n 1, []), (.iaload, []), (.goto 4, [4])]),
  (30, none, 4, [(.iconst (-1), [])]),
  (31, none, 0, [(.ireturn, [])])])
def pm_X12_rings : sm_M := (yX12_rings, prog_14_method_92_code, 2, (some .boolean), 0, 0, 0, [1975, 14, 1], [
  (0, some [0], 0, [(.aload_n 0, []), (.iconst 0, []), (.putfield 492, [12, 87, 1391]), (.aload_n 0, []), (.invokevirtual 495, [186, 1, 12, 1976, 1961, 1962, 0]), (.iconst 1, []), (.if_icmp .ne 5, [2, 1])]),
  (13, none, 0, [(.iconst 0, []), (.ireturn, [])]),
  (15, none, 3, [(.iconst 0, []), (.istore_n 1, [])]),
  (17, some [0, 1], 0, [(.iload_n 1, []), (.bipush 10, []), (.aload_n 0, []), (.getfield 340, [12, 46, 1350]), (.iadd, []), (.if_icmp .ge 69, [10, 4])]),
  (28, none, 0, [(.aload_n 0, []), (.getfield 177, [12, 86, 1390]), (.iload_n 1, []), (.iaload, []), (.iconst (-1), []), (.if_icmp .ne 6, [6, 5])]),
  (38, none, 0, [(.goto 50, [9])]),
  (41, none, 0, [(.aload_n 0, []), (.getfield 183, [12, 89, 1393]), (.iload_n 1, []), (.iconst 1, []), (.bastore, []), (.aload_n 0, []), (.invokevirtual 488, [166, 1, 12, 1964, 1966, 3849, 0]), (.ifCond .ne 6, [8, 7])]),
  (55, none, 0, [(.goto 33, [9])]),
  (58, none, 9, [(.aload_n 0, []), (.getfield 183, [12, 89, 1393]), (.iload_n 1, []), (.iconst 0, []), (.bastore, []), (.aload_n 0, []), (.getfield 180, [12, 88, 1392]), (.aload_n 0, []), (.getfield 492, [12, 87, 1391]), (.iload_n 1, []), (.invokestatic 498, [198, 0, 0, 1977, 1978, 0, 0]), (.iastore, []), (.aload_n 0, []), (.dup, []), (.getfield 492, [12, 87, 1391]), (.iconst 1, []), (.iadd, []), (.putfield 492, [12, 87, 1391])]),
  (88, none, 0, [(.iinc 1 1, []), (.goto (-74), [3])]),
  (94, none, 0, [(.iconst 1, []), (.ireturn, [])])])
def pm_X12_searches : sm_M := (yX12_searches, prog_14_method_50_code, 7, (some .int), 1, 0, 0, [1827, 14, 1], [
  (0, some [0, 1], 0, [(.aload_n 0, []), (.iconst 0, []), (.putfield 388, [12, 63, 1367]), (.aload_n 0, []), (.iconst 0, []), (.putfield 391, [12, 64, 1368]), (.iconst 0, []), (.istore_n 2, []), (.aload_n 0, []), (.getfield 382, [12, 59, 1363]), (.ifCond .ne 5, [2, 1])]),
  (19, none, 0, [(.iconst 1, []), (.ireturn, [])]),
  (21, none, 3, [(.iconst 0, []), (.istore_n 3, []), (.aload_n 0, []), (.getfield 146, [12, 62, 1366]), (.iconst 0, []), (.iconst 0, []), (.iastore, [])]),
  (30, some [0, 1, 2, 3], 0, [(.iload_n 3, []), (.ifCond .lt 209, [20, 4])]),
  (34, none, 0, [(.aload_n 0, []), (.getfield 146, [12, 62, 1366]), (.iload_n 3, []), (.iaload, []), (.aload_n 0, []), (.aload_n 0, []), (.getfield 140, [12, 60, 1364]), (.iload_n 3, []), (.iaload, []), (.invokevirtual 394, [107, 1, 12, 1828, 1830, 3594, 0]), (.if_icmp .ne 9, [6, 5])]),
  (53, none, 0, [(.iinc 3 (-1), []), (.goto (-26), [3])]),
  (59, none, 0, [(.aload_n 0, []), (.getfield 146, [12, 62, 1366]), (.iload_n 3, []), (.iaload, []), (.istore 4, []), (.aload_n 0, []), (.getfield 146, [12, 62, 1366]), (.iload_n 3, []), (.dup2, []), (.iaload, []), (.iconst 1, []), (.iadd, []), (.iastore, []), (.aload_n 0, []), (.dup, []), (.getfield 388, [12, 63, 1367]), (.iconst 1, []), (.iadd, []), (.putfield 388, [12, 63, 1367]), (.aload_n 0, []), (.getfield 388, [12, 63, 1367]), (.sipush 1000, []), (.if_icmp .le 10, [8, 7])]),
  (97, none, 0, [(.aload_n 0, []), (.iconst 1, []), (.putfield 391, [12, 64, 1368]), (.iload_n 2, []), (.ireturn, [])]),
  (104, none, 0, [(.aload_n 0, []), (.iload_n 3, []), (.iload_n 3, []), (.iconst 1, []), (.iadd, []), (.invokevirtual 397, [109, 1, 12, 1832, 1834, 3595, 0]), (.aload_n 0, []), (.iload_n 3, []), (.iconst 1, []), (.iadd, []), (.putfield 343, [12, 52, 1356]), (.aload_n 0, []), (.aload_n 0, []), (.getfield 140, [12, 60, 1364]), (.iload_n 3, []), (.iaload, []), (.iload 4, []), (.invokevirtual 400, [108, 1, 12, 1836, 1838, 3596, 0]), (.istore 5, []), (.iload_n 1, []), (.ifCond .eq 17, [10, 9])]),
  (137, none, 10, [(.aload_n 0, []), (.aload_n 0, []), (.getfield 140, [12, 60, 1364]), (.iload_n 3, []), (.iaload, []), (.iload 4, []), (.iload 5, []), (.invokevirtual 403, [161, 1, 12, 1840, 1842, 3597, 0])]),
  (151, none, 0, [(.iload 5, []), (.ifCond .ne 6, [12, 11])]),
  (156, none, 0, [(.goto (-126), [3])]),
  (159, none, 0, [(.aload_n 0, []), (.getfield 143, [12, 61, 1365]), (.iload_n 3, []), (.iload 4, []), (.iastore, []), (.iload_n 3, []), (.iconst 1, []), (.iadd, []), (.aload_n 0, []), (.getfield 382, [12, 59, 1363]), (.if_icmp .ge 16, [14, 13])]),
  (177, none, 0, [(.iinc 3 1, []), (.aload_n 0, []), (.getfield 146, [12, 62, 1366]), (.iload_n 3, []), (.iconst 0, []), (.iastore, []), (.goto (-157), [3])]),
  (190, none, 0, [(.iload_n 1, []), (.ifCond .ne 5, [16, 15])]),
  (194, none, 0, [(.iconst 1, []), (.ireturn, [])]),
  (196, none, 17, [(.iconst 0, []), (.istore 6, [])]),
  (199, some [0, 1, 2, 3, 6], 0, [(.iload 6, []), (.aload_n 0, []), (.getfield 382, [12, 59, 1363]), (.if_icmp .ge 29, [19, 18])]),
  (208, none, 0, [(.aload_n 0, []), (.getfield 156, [12, 75, 1379]), (.bipush 55, []), (.iload_n 2, []), (.imul, []), (.iload 6, []), (.iadd, []), (.aload_n 0, []), (.getfield 143, [12, 61, 1365]), (.iload 6, []), (.iaload, []), (.i2b, []), (.bastore, []), (.iinc 6 1, []), (.goto (-32), [17])]),
  (234, none, 0, [(.iinc 2 1, []), (.goto (-207), [3])]),
  (240, none, 0, [(.iload_n 2, []), (.ireturn, [])])])
def pm_X12_sees : sm_M := (yX12_sees, prog_14_method_100_code, 5, none, 1, 0, 0, [2007, 14, 1], [
  (0, some [0, 1], 0, [(.aload_n 0, []), (.getfield 61, [12, 28, 1332]), (.aload_n 0, []), (.getfield 263, [12, 18, 1322]), (.iaload, []), (.iconst 1, []), (.iadd, []), (.istore_n 2, []), (.aload_n 0, []), (.getfield 125, [12, 50, 1354]), (.sipush 169, []), (.iload_n 1, []), (.imul, []), (.bipush 13, []), (.iload_n 2, []), (.imul, []), (.iadd, []), (.iaload, []), (.ineg, []), (.istore_n 3, []), (.aload_n 0, []), (.getfield 125, [12, 50, 1354]), (.sipush 169, []), (.iload_n 1, []), (.imul, []), (.iload_n 2, []), (.iadd, []), (.iaload, []), (.istore 4, []), (.aload_n 0, []), (.getfield 510, [12, 90, 1394]), (.ifCond .eq 11, [2, 1])]),
  (50, none, 0, [(.iload_n 3, []), (.aload_n 0, []), (.getfield 519, [12, 91, 1395]), (.if_icmp .ge 8, [3, 2])]),
  (58, none, 3, [(.aload_n 0, []), (.iload_n 3, []), (.putfield 519, [12, 91, 1395])]),
  (63, none, 0, [(.aload_n 0, []), (.getfield 510, [12, 90, 1394]), (.ifCond .eq 12, [5, 4])]),
  (70, none, 0, [(.iload 4, []), (.aload_n 0, []), (.getfield 516, [12, 92, 1396]), (.if_icmp .le 9, [6, 5])]),
  (79, none, 6, [(.aload_n 0, []), (.iload 4, []), (.putfield 516, [12, 92, 1396])]),
  (85, none, 0, [(.aload_n 0, []), (.iconst 1, []), (.putfield 510, [12, 90, 1394]), (.return_, [])])])
def pm_X12_set : sm_M := (yX12_set, prog_14_method_73_code, 3, (some .boolean), 2, 0, 0, [1895, 14, 1], [
  (0, some [0, 1, 2], 0, [(.aload_n 0, []), (.iload_n 1, []), (.invokevirtual 370, [143, 1, 12, 1741, 1743, 3342, 0]), (.ifCond .eq 16, [3, 1])]),
  (8, none, 0, [(.iload_n 2, []), (.iconst (-1), []), (.if_icmp .eq 13, [4, 2])]),
  (13, none, 0, [(.aload_n 0, []), (.iload_n 2, []), (.invokevirtual 452, [140, 1, 12, 1884, 1886, 3842, 0]), (.ifCond .ne 5, [4, 3])]),
  (21, none, 0, [(.iconst 0, []), (.ireturn, [])]),
  (23, none, 0, [(.aload_n 0, []), (.getfield 110, [12, 44, 1348]), (.iload_n 1, []), (.iload_n 2, []), (.iastore, []), (.iconst 1, []), (.ireturn, [])])])
def pm_X12_setWays : sm_M := (yX12_setWays, prog_14_method_113_code, 3, (some .int), 0, 0, 0, [2071, 14, 1], [
  (0, some [0], 0, [(.aload_n 0, []), (.invokevirtual 434, [128, 1, 12, 1772, 1774, 3584, 0]), (.aload_n 0, []), (.getfield 425, [12, 71, 1375]), (.ifCond .eq 6, [2, 1])]),
  (11, none, 0, [(.bipush (-3), []), (.ireturn, [])]),
  (14, none, 3, [(.iconst 0, []), (.istore_n 1, []), (.iconst 0, []), (.istore_n 2, [])]),
  (18, some [0, 1, 2], 0, [(.iload_n 2, []), (.aload_n 0, []), (.getfield 416, [12, 73, 1377]), (.if_icmp .ge 20, [7, 4])]),
  (26, none, 0, [(.aload_n 0, []), (.iload_n 2, []), (.invokevirtual 544, [150, 1, 12, 2072, 2074, 4100, 0]), (.ifCond .eq 6, [6, 5])]),
  (34, none, 6, [(.iinc 1 1, [])]),
  (37, none, 0, [(.iinc 2 1, []), (.goto (-22), [3])]),
  (43, none, 0, [(.iload_n 1, []), (.ireturn, [])])])
def pb_X12_sets_0 : sm_B := (0, some [0], 0, [(.aload_n 0, []), (.getfield 291, [12, 79, 1383]), (.ifCond .eq 4, [2, 1])])
def pb_X12_sets_1 : sm_B := (7, none, 0, [(.return_, [])])
def pb_X12_sets_2 : sm_B := (8, none, 3, [(.aload_n 0, []), (.iconst 1, []), (.putfield 291, [12, 79, 1383]), (.aload_n 0, []), (.iconst 0, []), (.putfield 458, [12, 80, 1384]), (.aload_n 0, []), (.iconst 0, []), (.putfield 461, [12, 82, 1386]), (.aload_n 0, []), (.iconst 0, []), (.putfield 464, [12, 84, 1388]), (.aload_n 0, []), (.iconst 0, []), (.putfield 376, [12, 68, 1372]), (.aload_n 0, []), (.iconst 0, []), (.putfield 385, [12, 67, 1371]), (.aload_n 0, []), (.invokevirtual 467, [187, 1, 12, 1916, 1918, 3845, 0]), (.istore_n 1, []), (.aload_n 0, []), (.invokevirtual 407, [201, 1, 12, 1792, 1794, 3585, 0]), (.iload_n 1, []), (.iconst (-1), []), (.ixor, []), (.iand, []), (.istore_n 2, []), (.iconst 0, []), (.istore_n 3, [])])
def pb_X12_sets_3 : sm_B := (54, some [0, 1, 2, 3], 0, [(.iload_n 3, []), (.sipush 1024, []), (.if_icmp .ge 48, [9, 4])])
def pb_X12_sets_4 : sm_B := (61, none, 0, [(.aload_n 0, []), (.getfield 458, [12, 80, 1384]), (.ifCond .ne 41, [9, 5])])
def pb_X12_sets_5 : sm_B := (68, none, 0, [(.iload_n 3, []), (.iload_n 2, []), (.iconst (-1), []), (.ixor, []), (.iand, []), (.ifCond .eq 6, [7, 6])])
def pb_X12_sets_6 : sm_B := (76, none, 0, [(.goto 24, [8])])
def pb_X12_sets_7 : sm_B := (79, none, 8, [(.aload_n 0, []), (.getfield 168, [12, 81, 1385]), (.iload_n 3, []), (.aload_n 0, []), (.iload_n 1, []), (.iload_n 3, []), (.ior, []), (.invokevirtual 470, [131, 1, 12, 1920, 1922, 3846, 0]), (.bastore, []), (.aload_n 0, []), (.aload_n 0, []), (.getfield 391, [12, 64, 1368]), (.putfield 458, [12, 80, 1384])])
def pb_X12_sets_8 : sm_B := (100, none, 0, [(.iinc 3 1, []), (.goto (-49), [3])])
def pb_X12_sets_9 : sm_B := (106, none, 0, [(.aload_n 0, []), (.getfield 458, [12, 80, 1384]), (.ifCond .eq 4, [11, 10])])
def pb_X12_sets_10 : sm_B := (113, none, 0, [(.return_, [])])
def pb_X12_sets_11 : sm_B := (114, none, 12, [(.iconst 0, []), (.istore_n 3, [])])
def pb_X12_sets_12 : sm_B := (116, some [0, 2, 3], 0, [(.iload_n 3, []), (.iload_n 2, []), (.invokestatic 473, [98, 0, 0, 1924, 1925, 0, 0]), (.if_icmp .gt 218, [41, 13])])
def pb_X12_sets_13 : sm_B := (124, none, 14, [(.iconst 0, []), (.istore 4, [])])
def pb_X12_sets_14 : sm_B := (127, some [0, 2, 3, 4], 0, [(.iload 4, []), (.sipush 1024, []), (.if_icmp .ge 201, [40, 15])])
def pb_X12_sets_15 : sm_B := (135, none, 0, [(.iload 4, []), (.iload_n 2, []), (.iconst (-1), []), (.ixor, []), (.iand, []), (.ifCond .ne 186, [39, 16])])
def pb_X12_sets_16 : sm_B := (144, none, 0, [(.iload 4, []), (.invokestatic 473, [98, 0, 0, 1924, 1925, 0, 0]), (.iload_n 3, []), (.if_icmp .eq 6, [18, 17])])
def pb_X12_sets_17 : sm_B := (153, none, 0, [(.goto 174, [39])])
def pb_X12_sets_18 : sm_B := (156, none, 0, [(.aload_n 0, []), (.getfield 168, [12, 81, 1385]), (.iload 4, []), (.baload, []), (.ifCond .ne 7, [20, 19])])
def pb_X12_sets_19 : sm_B := (166, none, 0, [(.iconst 1, []), (.goto 4, [21])])
def pb_X12_sets_20 : sm_B := (170, none, 21, [(.iconst 0, [])])
def pb_X12_sets_21 : sm_B := (171, none, 22, [(.istore 5, []), (.aload_n 0, []), (.getfield 168, [12, 81, 1385]), (.iload_n 2, []), (.iload 4, []), (.iconst (-1), []), (.ixor, []), (.iand, []), (.baload, []), (.istore 6, []), (.iconst 0, []), (.istore 7, [])])
def pb_X12_sets_22 : sm_B := (189, some [0, 2, 3, 4, 5, 6, 7], 0, [(.iload 7, []), (.bipush 10, []), (.if_icmp .ge 82, [35, 23])])
def pb_X12_sets_23 : sm_B := (196, none, 0, [(.iload 4, []), (.iload 7, []), (.ishr, []), (.iconst 1, []), (.iand, []), (.ifCond .ne 6, [25, 24])])
def pb_X12_sets_24 : sm_B := (206, none, 0, [(.goto 63, [34])])
def pb_X12_sets_25 : sm_B := (209, none, 0, [(.iload 5, []), (.ifCond .eq 24, [28, 26])])
def pb_X12_sets_26 : sm_B := (214, none, 0, [(.aload_n 0, []), (.getfield 168, [12, 81, 1385]), (.iload 4, []), (.iconst 1, []), (.iload 7, []), (.ishl, []), (.iconst (-1), []), (.ixor, []), (.iand, []), (.baload, []), (.ifCond .eq 7, [28, 27])])
def pb_X12_sets_27 : sm_B := (231, none, 0, [(.iconst 1, []), (.goto 4, [29])])
def pb_X12_sets_28 : sm_B := (235, none, 29, [(.iconst 0, [])])
def pb_X12_sets_29 : sm_B := (236, some [0, 2, 3, 4, 6, 7], 0, [(.istore 5, []), (.iload 6, []), (.ifCond .eq 26, [32, 30])])
def pb_X12_sets_30 : sm_B := (243, none, 0, [(.aload_n 0, []), (.getfield 168, [12, 81, 1385]), (.iload_n 2, []), (.iload 4, []), (.iconst (-1), []), (.ixor, []), (.iand, []), (.iconst 1, []), (.iload 7, []), (.ishl, []), (.ior, []), (.baload, []), (.ifCond .ne 7, [32, 31])])
def pb_X12_sets_31 : sm_B := (262, none, 0, [(.iconst 1, []), (.goto 4, [33])])
def pb_X12_sets_32 : sm_B := (266, none, 33, [(.iconst 0, [])])
def pb_X12_sets_33 : sm_B := (267, some [0, 2, 3, 4, 5, 7], 34, [(.istore 6, [])])
def pb_X12_sets_34 : sm_B := (269, some [0, 2, 3, 4, 5, 6, 7], 0, [(.iinc 7 1, []), (.goto (-83), [22])])
def pb_X12_sets_35 : sm_B := (275, none, 0, [(.iload 5, []), (.ifCond .eq 24, [37, 36])])
def pb_X12_sets_36 : sm_B := (280, none, 37, [(.aload_n 0, []), (.getfield 171, [12, 83, 1387]), (.aload_n 0, []), (.getfield 461, [12, 82, 1386]), (.iload 4, []), (.iastore, []), (.aload_n 0, []), (.dup, []), (.getfield 461, [12, 82, 1386]), (.iconst 1, []), (.iadd, []), (.putfield 461, [12, 82, 1386])])
def pb_X12_sets_37 : sm_B := (301, none, 0, [(.iload 6, []), (.ifCond .eq 24, [39, 38])])
def pb_X12_sets_38 : sm_B := (306, none, 39, [(.aload_n 0, []), (.getfield 174, [12, 85, 1389]), (.aload_n 0, []), (.getfield 464, [12, 84, 1388]), (.iload 4, []), (.iastore, []), (.aload_n 0, []), (.dup, []), (.getfield 464, [12, 84, 1388]), (.iconst 1, []), (.iadd, []), (.putfield 464, [12, 84, 1388])])
def pb_X12_sets_39 : sm_B := (327, none, 0, [(.iinc 4 1, []), (.goto (-203), [14])])
def pb_X12_sets_40 : sm_B := (333, none, 0, [(.iinc 3 1, []), (.goto (-220), [12])])
def pb_X12_sets_41 : sm_B := (339, none, 0, [(.return_, [])])
def pm_X12_sets : sm_M := (yX12_sets, prog_14_method_79_code, 8, none, 0, 0, 0, [1915, 14, 1], [
  pb_X12_sets_0,
  pb_X12_sets_1,
  pb_X12_sets_2,
  pb_X12_sets_3,
  pb_X12_sets_4,
  pb_X12_sets_5,
  pb_X12_sets_6,
  pb_X12_sets_7,
  pb_X12_sets_8,
  pb_X12_sets_9,
  pb_X12_sets_10,
  pb_X12_sets_11,
  pb_X12_sets_12,
  pb_X12_sets_13,
  pb_X12_sets_14,
  pb_X12_sets_15,
  pb_X12_sets_16,
  pb_X12_sets_17,
  pb_X12_sets_18,
  pb_X12_sets_19,
  pb_X12_sets_20,
  pb_X12_sets_21,
  pb_X12_sets_22,
  pb_X12_sets_23,
  pb_X12_sets_24,
  pb_X12_sets_25,
  pb_X12_sets_26,
  pb_X12_sets_27,
  pb_X12_sets_28,
  pb_X12_sets_29,
  pb_X12_sets_30,
  pb_X12_sets_31,
  pb_X12_sets_32,
  pb_X12_sets_33,
  pb_X12_sets_34,
  pb_X12_sets_35,
  pb_X12_sets_36,
  pb_X12_sets_37,
  pb_X12_sets_38,
  pb_X12_sets_39,
  pb_X12_sets_40,
  pb_X12_sets_41])
def pm_X12_sign : sm_M := (yX12_sign, prog_14_method_13_code, 1, (some .int), 1, 0, 0, [1648, 14, 1], [
  (0, some [0], 0, [(.iload_n 0, []), (.bipush 59, []), (.if_icmp .ne 7, [2, 1])]),
  (6, none, 0, [(.iconst 4, []), (.goto 25, [7])]),
  (10, none, 0, [(.iload_n 0, []), (.bipush 58, []), (.if_icmp .ne 7, [4, 3])]),
  (16, none, 0, [(.iconst 5, []), (.goto 15, [7])]),
  (20, none, 0, [(.iload_n 0, []), (.bipush 45, []), (.if_icmp .ne 8, [6, 5])]),
  (26, none, 0, [(.bipush 9, []), (.goto 4, [7])]),
  (31, none, 7, [(.iconst 3, [])]),
  (32, none, 0, [(.ireturn, [])])])
def pm_X12_slack : sm_M := (yX12_slack, prog_14_method_114_code, 5, (some .int), 3, 0, 0, [2079, 14, 1], [
  (0, some [0, 1, 2, 3], 0, [(.aload_n 0, []), (.iload_n 2, []), (.invokevirtual 370, [143, 1, 12, 1741, 1743, 3342, 0]), (.ifCond .ne 5, [2, 1])]),
  (8, none, 0, [(.iconst (-1), []), (.ireturn, [])]),
  (10, none, 0, [(.aload_n 0, []), (.iload_n 1, []), (.invokevirtual 437, [90, 1, 12, 1848, 1850, 3598, 0]), (.istore 4, []), (.iload 4, []), (.ifCond .eq 6, [4, 3])]),
  (22, none, 0, [(.iload 4, []), (.ireturn, [])]),
  (25, none, 0, [(.aload_n 0, []), (.iload_n 1, []), (.invokevirtual 544, [150, 1, 12, 2072, 2074, 4100, 0]), (.ifCond .eq 15, [6, 5])]),
  (33, none, 0, [(.aload_n 0, []), (.iload_n 2, []), (.iconst 1, []), (.iadd, []), (.iconst 0, []), (.iload_n 3, []), (.invokevirtual 448, [122, 1, 12, 1868, 1870, 3841, 0]), (.goto 5, [7])]),
  (45, none, 7, [(.bipush (-2), [])]),
  (47, none, 0, [(.ireturn, [])])])
def pm_X12_stands : sm_M := (yX12_stands, prog_14_method_91_code, 2, (some .int), 0, 0, 0, [1963, 14, 1], [
  (0, some [0], 1, [(.iconst 0, []), (.istore_n 1, [])]),
  (2, some [0, 1], 0, [(.iload_n 1, []), (.bipush 60, []), (.if_icmp .ge 16, [3, 2])]),
  (8, none, 0, [(.aload_n 0, []), (.getfield 183, [12, 89, 1393]), (.iload_n 1, []), (.iconst 0, []), (.bastore, []), (.iinc 1 1, []), (.goto (-16), [1])]),
  (21, none, 0, [(.aload_n 0, []), (.invokevirtual 488, [166, 1, 12, 1964, 1966, 3849, 0]), (.ifCond .eq 7, [5, 4])]),
  (28, none, 0, [(.iconst 1, []), (.goto 4, [6])]),
  (32, none, 6, [(.iconst 0, [])]),
  (33, none, 0, [(.ireturn, [])])])
def pm_X12_sureOnes : sm_M := (yX12_sureOnes, prog_14_method_78_code, 3, (some .int), 0, 0, 0, [1919, 14, 1], [
  (0, some [0], 1, [(.iconst 0, []), (.istore_n 1, []), (.iconst 0, []), (.istore_n 2, [])]),
  (4, some [0, 1, 2], 0, [(.iload_n 2, []), (.aload_n 0, []), (.getfield 70, [12, 31, 1335]), (.aload_n 0, []), (.getfield 263, [12, 18, 1322]), (.iaload, []), (.if_icmp .ge 32, [5, 2])]),
  (17, none, 0, [(.aload_n 0, []), (.getfield 73, [12, 32, 1336]), (.bipush 10, []), (.aload_n 0, []), (.getfield 263, [12, 18, 1322]), (.imul, []), (.iload_n 2, []), (.iadd, []), (.baload, []), (.ifCond .eq 9, [4, 3])]),
  (34, none, 4, [(.iload_n 1, []), (.iconst 1, []), (.iload_n 2, []), (.ishl, []), (.ior, []), (.istore_n 1, [])]),
  (40, none, 0, [(.iinc 2 1, []), (.goto (-39), [1])]),
  (46, none, 0, [(.iload_n 1, []), (.ireturn, [])])])
def pm_X12_tell : sm_M := (yX12_tell, prog_14_method_22_code, 1, none, 0, 0, 0, [1656, 14, 1], [
  (0, some [0], 0, [(.aload_n 0, []), (.getfield 20, [12, 5, 1310]), (.aload_n 0, []), (.getfield 239, [12, 11, 1316]), (.iaload, []), (.tableswitch 301 20 33 #[71, 104, 138, 171, 301, 301, 204, 204, 301, 301, 301, 301, 237, 269], [29, 1, 5, 9, 13, 29, 29, 17, 17, 29, 29, 29, 29, 21, 25])]),
  (80, none, 0, [(.aload_n 0, []), (.getfield 49, [12, 24, 1328]), (.aload_n 0, []), (.getfield 266, [12, 19, 1323]), (.iaload, []), (.iconst 4, []), (.if_icmp .ne 8, [3, 2])]),
  (93, none, 3, [(.aload_n 0, []), (.iconst 2, []), (.invokevirtual 251, [116, 1, 12, 1657, 1659, 3083, 0])]),
  (98, some [0], 0, [(.aload_n 0, []), (.getfield 236, [12, 13, 1317]), (.ifCond .ne 213, [30, 4])]),
  (105, none, 0, [(.aload_n 0, []), (.iconst 0, []), (.invokevirtual 294, [190, 1, 12, 1661, 1663, 3084, 0]), (.goto 205, [30])]),
  (113, none, 0, [(.aload_n 0, []), (.getfield 52, [12, 25, 1329]), (.aload_n 0, []), (.getfield 266, [12, 19, 1323]), (.iaload, []), (.bipush 6, []), (.if_icmp .ne 8, [7, 6])]),
  (127, none, 7, [(.aload_n 0, []), (.iconst 2, []), (.invokevirtual 251, [116, 1, 12, 1657, 1659, 3083, 0])]),
  (132, some [0], 0, [(.aload_n 0, []), (.getfield 236, [12, 13, 1317]), (.ifCond .ne 179, [30, 8])]),
  (139, none, 0, [(.aload_n 0, []), (.iconst 1, []), (.invokevirtual 294, [190, 1, 12, 1661, 1663, 3084, 0]), (.goto 171, [30])]),
  (147, none, 0, [(.aload_n 0, []), (.getfield 55, [12, 26, 1330]), (.aload_n 0, []), (.getfield 266, [12, 19, 1323]), (.iaload, []), (.bipush 12, []), (.if_icmp .ne 8, [11, 10])]),
  (161, none, 11, [(.aload_n 0, []), (.iconst 2, []), (.invokevirtual 251, [116, 1, 12, 1657, 1659, 3083, 0])]),
  (166, some [0], 0, [(.aload_n 0, []), (.getfield 236, [12, 13, 1317]), (.ifCond .ne 145, [30, 12])]),
  (173, none, 0, [(.aload_n 0, []), (.invokevirtual 297, [196, 1, 12, 1685, 1687, 3330, 0]), (.goto 138, [30])]),
  (180, none, 0, [(.aload_n 0, []), (.getfield 61, [12, 28, 1332]), (.aload_n 0, []), (.getfield 266, [12, 19, 1323]), (.iaload, []), (.bipush 10, []), (.if_icmp .ne 8, [15, 14])]),
  (194, none, 15, [(.aload_n 0, []), (.iconst 2, []), (.invokevirtual 251, [116, 1, 12, 1657, 1659, 3083, 0])]),
  (199, some [0], 0, [(.aload_n 0, []), (.getfield 236, [12, 13, 1317]), (.ifCond .ne 112, [30, 16])]),
  (206, none, 0, [(.aload_n 0, []), (.invokevirtual 300, [195, 1, 12, 1697, 1699, 3333, 0]), (.goto 105, [30])]),
  (213, none, 0, [(.aload_n 0, []), (.getfield 70, [12, 31, 1335]), (.aload_n 0, []), (.getfield 266, [12, 19, 1323]), (.iaload, []), (.bipush 10, []), (.if_icmp .ne 8, [19, 18])]),
  (227, none, 19, [(.aload_n 0, []), (.iconst 2, []), (.invokevirtual 251, [116, 1, 12, 1657, 1659, 3083, 0])]),
  (232, some [0], 0, [(.aload_n 0, []), (.getfield 236, [12, 13, 1317]), (.ifCond .ne 79, [30, 20])]),
  (239, none, 0, [(.aload_n 0, []), (.invokevirtual 303, [193, 1, 12, 1701, 1703, 3334, 0]), (.goto 72, [30])]),
  (246, none, 0, [(.aload_n 0, []), (.getfield 98, [12, 40, 1344]), (.aload_n 0, []), (.getfield 266, [12, 19, 1323]), (.iaload, []), (.iconst 4, []), (.if_icmp .ne 8, [23, 22])]),
  (259, none, 23, [(.aload_n 0, []), (.iconst 2, []), (.invokevirtual 251, [116, 1, 12, 1657, 1659, 3083, 0])]),
  (264, some [0], 0, [(.aload_n 0, []), (.getfield 236, [12, 13, 1317]), (.ifCond .ne 47, [30, 24])]),
  (271, none, 0, [(.aload_n 0, []), (.invokevirtual 306, [191, 1, 12, 1713, 1715, 3337, 0]), (.goto 40, [30])]),
  (278, none, 0, [(.aload_n 0, []), (.getfield 104, [12, 42, 1346]), (.aload_n 0, []), (.getfield 266, [12, 19, 1323]), (.iaload, []), (.iconst 5, []), (.if_icmp .ne 8, [27, 26])]),
  (291, none, 27, [(.aload_n 0, []), (.iconst 2, []), (.invokevirtual 251, [116, 1, 12, 1657, 1659, 3083, 0])]),
  (296, some [0], 0, [(.aload_n 0, []), (.getfield 236, [12, 13, 1317]), (.ifCond .ne 15, [30, 28])]),
  (303, none, 0, [(.aload_n 0, []), (.invokevirtual 309, [192, 1, 12, 1717, 1719, 3338, 0]), (.goto 8, [30])]),
  (310, none, 30, [(.aload_n 0, []), (.iconst 1, []), (.invokevirtual 251, [116, 1, 12, 1657, 1659, 3083, 0])]),
  (315, some [], 0, [(.return_, [])])])
def pm_X12_tellAll : sm_M := (yX12_tellAll, prog_14_method_32_code, 3, none, 1, 0, 0, [1708, 14, 1], [
  (0, some [0, 1], 1, [(.aload_n 0, []), (.getfield 83, [12, 35, 1339]), (.iload_n 1, []), (.iconst 0, []), (.iastore, []), (.iconst 1, []), (.istore_n 2, [])]),
  (9, some [0, 1, 2], 0, [(.iload_n 2, []), (.ifCond .eq 79, [10, 2])]),
  (13, none, 0, [(.aload_n 0, []), (.getfield 236, [12, 13, 1317]), (.ifCond .ne 72, [10, 3])]),
  (20, none, 0, [(.aload_n 0, []), (.iconst 3, []), (.iload_n 1, []), (.imul, []), (.aload_n 0, []), (.getfield 83, [12, 35, 1339]), (.iload_n 1, []), (.iaload, []), (.iadd, []), (.invokevirtual 337, [194, 1, 12, 1709, 1711, 3336, 0]), (.aload_n 0, []), (.getfield 236, [12, 13, 1317]), (.ifCond .le 4, [5, 4])]),
  (41, none, 0, [(.return_, [])]),
  (42, none, 0, [(.aload_n 0, []), (.getfield 83, [12, 35, 1339]), (.iload_n 1, []), (.dup2, []), (.iaload, []), (.iconst 1, []), (.iadd, []), (.iastore, []), (.aload_n 0, []), (.bipush 29, []), (.invokevirtual 254, [136, 1, 12, 1649, 1651, 3081, 0]), (.istore_n 2, []), (.iload_n 2, []), (.ifCond .eq 18, [8, 6])]),
  (63, none, 0, [(.aload_n 0, []), (.getfield 83, [12, 35, 1339]), (.iload_n 1, []), (.iaload, []), (.iconst 3, []), (.if_icmp .ne 8, [8, 7])]),
  (73, none, 8, [(.aload_n 0, []), (.iconst 2, []), (.invokevirtual 251, [116, 1, 12, 1657, 1659, 3083, 0])]),
  (78, none, 0, [(.iload_n 2, []), (.ifCond .eq (-70), [1, 9])]),
  (82, none, 0, [(.aload_n 0, []), (.invokevirtual 257, [129, 1, 12, 1665, 1667, 3085, 0]), (.goto (-77), [1])]),
  (89, none, 0, [(.return_, [])])])
def pm_X12_tellName : sm_M := (yX12_tellName, prog_14_method_27_code, 3, none, 1, 0, 0, [1664, 14, 1], [
  (0, some [0, 1], 0, [(.aload_n 0, []), (.invokevirtual 257, [129, 1, 12, 1665, 1667, 3085, 0]), (.aload_n 0, []), (.invokevirtual 319, [159, 1, 12, 1669, 1671, 3086, 0]), (.istore_n 2, []), (.aload_n 0, []), (.iconst 4, []), (.invokevirtual 312, [158, 1, 12, 1673, 1675, 3087, 0]), (.aload_n 0, []), (.getfield 236, [12, 13, 1317]), (.ifCond .le 4, [2, 1])]),
  (21, none, 0, [(.return_, [])]),
  (22, none, 0, [(.aload_n 0, []), (.iload_n 2, []), (.iload_n 1, []), (.iload_n 1, []), (.ifCond .ne 15, [4, 3])]),
  (29, none, 0, [(.aload_n 0, []), (.getfield 49, [12, 24, 1328]), (.aload_n 0, []), (.getfield 266, [12, 19, 1323]), (.iaload, []), (.goto 12, [5])]),
  (41, none, 5, [(.aload_n 0, []), (.getfield 52, [12, 25, 1329]), (.aload_n 0, []), (.getfield 266, [12, 19, 1323]), (.iaload, [])]),
  (50, none, 0, [(.invokevirtual 323, [148, 1, 12, 1681, 1683, 3329, 0]), (.iload_n 1, []), (.ifCond .ne 19, [7, 6])]),
  (57, none, 0, [(.aload_n 0, []), (.getfield 49, [12, 24, 1328]), (.aload_n 0, []), (.getfield 266, [12, 19, 1323]), (.dup2, []), (.iaload, []), (.iconst 1, []), (.iadd, []), (.iastore, []), (.goto 16, [8])]),
  (73, none, 8, [(.aload_n 0, []), (.getfield 52, [12, 25, 1329]), (.aload_n 0, []), (.getfield 266, [12, 19, 1323]), (.dup2, []), (.iaload, []), (.iconst 1, []), (.iadd, []), (.iastore, [])]),
  (86, none, 0, [(.return_, [])])])
def pb_X12_tellOpen_0 : sm_B := (0, some [0], 0, [(.aload_n 0, []), (.invokevirtual 257, [129, 1, 12, 1665, 1667, 3085, 0]), (.aload_n 0, []), (.getfield 239, [12, 11, 1316]), (.istore_n 1, []), (.aload_n 0, []), (.iconst 2, []), (.invokevirtual 327, [147, 1, 12, 1689, 1691, 3331, 0]), (.istore_n 2, []), (.aload_n 0, []), (.bipush 31, []), (.invokevirtual 312, [158, 1, 12, 1673, 1675, 3087, 0]), (.aload_n 0, []), (.getfield 239, [12, 11, 1316]), (.istore_n 3, []), (.aload_n 0, []), (.getfield 236, [12, 13, 1317]), (.ifCond .le 7, [2, 1])])
def pb_X12_tellOpen_1 : sm_B := (33, none, 0, [(.iconst 0, []), (.goto 8, [3])])
def pb_X12_tellOpen_2 : sm_B := (37, none, 3, [(.aload_n 0, []), (.iconst 2, []), (.invokevirtual 327, [147, 1, 12, 1689, 1691, 3331, 0])])
def pb_X12_tellOpen_3 : sm_B := (42, none, 0, [(.istore 4, []), (.sipush 240, []), (.iconst 4, []), (.aload_n 0, []), (.getfield 266, [12, 19, 1323]), (.imul, []), (.iadd, []), (.aload_n 0, []), (.getfield 98, [12, 40, 1344]), (.aload_n 0, []), (.getfield 266, [12, 19, 1323]), (.iaload, []), (.iadd, []), (.istore 5, []), (.aload_n 0, []), (.getfield 236, [12, 13, 1317]), (.ifCond .ne 32, [7, 4])])
def pb_X12_tellOpen_4 : sm_B := (73, none, 0, [(.iload_n 2, []), (.iconst (-1), []), (.if_icmp .eq 27, [7, 5])])
def pb_X12_tellOpen_5 : sm_B := (78, none, 0, [(.aload_n 0, []), (.getfield 101, [12, 41, 1345]), (.bipush 10, []), (.aload_n 0, []), (.getfield 266, [12, 19, 1323]), (.imul, []), (.iload_n 2, []), (.iadd, []), (.iaload, []), (.iconst (-1), []), (.if_icmp .eq 9, [7, 6])])
def pb_X12_tellOpen_6 : sm_B := (96, none, 7, [(.aload_n 0, []), (.iconst 5, []), (.iload_n 1, []), (.invokevirtual 315, [206, 1, 12, 1677, 1679, 3328, 0])])
def pb_X12_tellOpen_7 : sm_B := (102, some [0, 2, 3, 4, 5], 0, [(.aload_n 0, []), (.getfield 236, [12, 13, 1317]), (.ifCond .ne 40, [12, 8])])
def pb_X12_tellOpen_8 : sm_B := (109, none, 0, [(.iload 4, []), (.iconst (-1), []), (.if_icmp .eq 34, [12, 9])])
def pb_X12_tellOpen_9 : sm_B := (115, none, 0, [(.iload 4, []), (.iload_n 2, []), (.if_icmp .eq 22, [11, 10])])
def pb_X12_tellOpen_10 : sm_B := (121, none, 0, [(.aload_n 0, []), (.getfield 101, [12, 41, 1345]), (.bipush 10, []), (.aload_n 0, []), (.getfield 266, [12, 19, 1323]), (.imul, []), (.iload 4, []), (.iadd, []), (.iaload, []), (.iconst (-1), []), (.if_icmp .eq 9, [12, 11])])
def pb_X12_tellOpen_11 : sm_B := (140, none, 12, [(.aload_n 0, []), (.iconst 5, []), (.iload_n 3, []), (.invokevirtual 315, [206, 1, 12, 1677, 1679, 3328, 0])])
def pb_X12_tellOpen_12 : sm_B := (146, some [0, 2, 3, 4, 5], 13, [(.sipush 240, []), (.iconst 4, []), (.aload_n 0, []), (.getfield 266, [12, 19, 1323]), (.imul, []), (.iadd, []), (.istore 6, [])])
def pb_X12_tellOpen_13 : sm_B := (158, some [0, 2, 3, 4, 5, 6], 0, [(.iload 6, []), (.iload 5, []), (.if_icmp .ge 38, [19, 14])])
def pb_X12_tellOpen_14 : sm_B := (165, none, 0, [(.aload_n 0, []), (.getfield 236, [12, 13, 1317]), (.ifCond .ne 31, [19, 15])])
def pb_X12_tellOpen_15 : sm_B := (172, none, 0, [(.iload_n 2, []), (.iconst (-1), []), (.if_icmp .eq 26, [19, 16])])
def pb_X12_tellOpen_16 : sm_B := (177, none, 0, [(.aload_n 0, []), (.getfield 89, [12, 37, 1341]), (.iload 6, []), (.iaload, []), (.iload_n 2, []), (.if_icmp .ne 9, [18, 17])])
def pb_X12_tellOpen_17 : sm_B := (188, none, 18, [(.aload_n 0, []), (.iconst 5, []), (.iload_n 3, []), (.invokevirtual 315, [206, 1, 12, 1677, 1679, 3328, 0])])
def pb_X12_tellOpen_18 : sm_B := (194, none, 0, [(.iinc 6 1, []), (.goto (-39), [13])])
def pb_X12_tellOpen_19 : sm_B := (200, none, 0, [(.aload_n 0, []), (.getfield 86, [12, 36, 1340]), (.iload 5, []), (.iload_n 2, []), (.iastore, []), (.aload_n 0, []), (.getfield 89, [12, 37, 1341]), (.iload 5, []), (.iload 4, []), (.iastore, []), (.aload_n 0, []), (.getfield 92, [12, 38, 1342]), (.iload 5, []), (.aload_n 0, []), (.iconst 0, []), (.invokevirtual 330, [162, 1, 12, 1693, 1695, 3332, 0]), (.iastore, []), (.aload_n 0, []), (.getfield 95, [12, 39, 1343]), (.iload 5, []), (.aload_n 0, []), (.iconst 0, []), (.invokevirtual 330, [162, 1, 12, 1693, 1695, 3332, 0]), (.iastore, []), (.aload_n 0, []), (.iconst 4, []), (.invokevirtual 312, [158, 1, 12, 1673, 1675, 3087, 0]), (.aload_n 0, []), (.getfield 236, [12, 13, 1317]), (.ifCond .le 4, [21, 20])])
def pb_X12_tellOpen_20 : sm_B := (253, none, 0, [(.return_, [])])
def pb_X12_tellOpen_21 : sm_B := (254, none, 0, [(.iload_n 2, []), (.iconst (-1), []), (.if_icmp .eq 19, [23, 22])])
def pb_X12_tellOpen_22 : sm_B := (259, none, 23, [(.aload_n 0, []), (.getfield 101, [12, 41, 1345]), (.bipush 10, []), (.aload_n 0, []), (.getfield 266, [12, 19, 1323]), (.imul, []), (.iload_n 2, []), (.iadd, []), (.iload 5, []), (.iastore, [])])
def pb_X12_tellOpen_23 : sm_B := (275, none, 0, [(.aload_n 0, []), (.getfield 98, [12, 40, 1344]), (.aload_n 0, []), (.getfield 266, [12, 19, 1323]), (.dup2, []), (.iaload, []), (.iconst 1, []), (.iadd, []), (.iastore, []), (.return_, [])])
def pm_X12_tellOpen : sm_M := (yX12_tellOpen, prog_14_method_33_code, 7, none, 0, 0, 0, [1716, 14, 1], [
  pb_X12_tellOpen_0,
  pb_X12_tellOpen_1,
  pb_X12_tellOpen_2,
  pb_X12_tellOpen_3,
  pb_X12_tellOpen_4,
  pb_X12_tellOpen_5,
  pb_X12_tellOpen_6,
  pb_X12_tellOpen_7,
  pb_X12_tellOpen_8,
  pb_X12_tellOpen_9,
  pb_X12_tellOpen_10,
  pb_X12_tellOpen_11,
  pb_X12_tellOpen_12,
  pb_X12_tellOpen_13,
  pb_X12_tellOpen_14,
  pb_X12_tellOpen_15,
  pb_X12_tellOpen_16,
  pb_X12_tellOpen_17,
  pb_X12_tellOpen_18,
  pb_X12_tellOpen_19,
  pb_X12_tellOpen_20,
  pb_X12_tellOpen_21,
  pb_X12_tellOpen_22,
  pb_X12_tellOpen_23])
def pm_X12_tellQuestion : sm_M := (yX12_tellQuestion, prog_14_method_34_code, 2, none, 0, 0, 0, [1720, 14, 1], [
  (0, some [0], 0, [(.aload_n 0, []), (.invokevirtual 257, [129, 1, 12, 1665, 1667, 3085, 0]), (.aload_n 0, []), (.invokevirtual 319, [159, 1, 12, 1669, 1671, 3086, 0]), (.istore_n 1, []), (.aload_n 0, []), (.iconst 5, []), (.invokevirtual 312, [158, 1, 12, 1673, 1675, 3087, 0]), (.aload_n 0, []), (.getfield 236, [12, 13, 1317]), (.ifCond .ne 28, [2, 1])]),
  (21, none, 2, [(.aload_n 0, []), (.sipush 248, []), (.bipush 6, []), (.aload_n 0, []), (.getfield 266, [12, 19, 1323]), (.imul, []), (.iadd, []), (.aload_n 0, []), (.getfield 104, [12, 42, 1346]), (.aload_n 0, []), (.getfield 266, [12, 19, 1323]), (.iaload, []), (.iadd, []), (.invokevirtual 337, [194, 1, 12, 1709, 1711, 3336, 0])]),
  (46, none, 0, [(.aload_n 0, []), (.iconst 4, []), (.invokevirtual 312, [158, 1, 12, 1673, 1675, 3087, 0]), (.aload_n 0, []), (.getfield 236, [12, 13, 1317]), (.ifCond .le 4, [4, 3])]),
  (58, none, 0, [(.return_, [])]),
  (59, none, 0, [(.aload_n 0, []), (.iload_n 1, []), (.iconst 4, []), (.aload_n 0, []), (.getfield 104, [12, 42, 1346]), (.aload_n 0, []), (.getfield 266, [12, 19, 1323]), (.iaload, []), (.invokevirtual 323, [148, 1, 12, 1681, 1683, 3329, 0]), (.aload_n 0, []), (.getfield 104, [12, 42, 1346]), (.aload_n 0, []), (.getfield 266, [12, 19, 1323]), (.dup2, []), (.iaload, []), (.iconst 1, []), (.iadd, []), (.iastore, []), (.return_, [])])])
def pb_X12_tellSaying_0 : sm_B := (0, some [0], 0, [(.bipush 10, []), (.aload_n 0, []), (.getfield 266, [12, 19, 1323]), (.imul, []), (.aload_n 0, []), (.getfield 70, [12, 31, 1335]), (.aload_n 0, []), (.getfield 266, [12, 19, 1323]), (.iaload, []), (.iadd, []), (.istore_n 1, []), (.aload_n 0, []), (.getfield 73, [12, 32, 1336]), (.iload_n 1, []), (.aload_n 0, []), (.bipush 27, []), (.invokevirtual 254, [136, 1, 12, 1649, 1651, 3081, 0]), (.bastore, []), (.aload_n 0, []), (.invokevirtual 257, [129, 1, 12, 1665, 1667, 3085, 0]), (.aload_n 0, []), (.invokevirtual 319, [159, 1, 12, 1669, 1671, 3086, 0]), (.istore_n 2, []), (.aload_n 0, []), (.getfield 77, [12, 33, 1337]), (.iload_n 1, []), (.iconst 1, []), (.iastore, []), (.aload_n 0, []), (.bipush 34, []), (.invokevirtual 254, [136, 1, 12, 1649, 1651, 3081, 0]), (.ifCond .eq 87, [9, 1])])
def pb_X12_tellSaying_1 : sm_B := (55, none, 0, [(.aload_n 0, []), (.getfield 73, [12, 32, 1336]), (.iload_n 1, []), (.baload, []), (.ifCond .ne 78, [9, 2])])
def pb_X12_tellSaying_2 : sm_B := (64, none, 0, [(.aload_n 0, []), (.invokevirtual 257, [129, 1, 12, 1665, 1667, 3085, 0]), (.aload_n 0, []), (.getfield 239, [12, 11, 1316]), (.istore_n 3, []), (.aload_n 0, []), (.getfield 77, [12, 33, 1337]), (.iload_n 1, []), (.aload_n 0, []), (.iconst 2, []), (.invokevirtual 254, [136, 1, 12, 1649, 1651, 3081, 0]), (.ifCond .eq 15, [4, 3])])
def pb_X12_tellSaying_3 : sm_B := (86, none, 0, [(.aload_n 0, []), (.getfield 27, [12, 7, 1312]), (.aload_n 0, []), (.getfield 239, [12, 11, 1316]), (.iaload, []), (.goto 4, [5])])
def pb_X12_tellSaying_4 : sm_B := (98, none, 5, [(.iconst 0, [])])
def pb_X12_tellSaying_5 : sm_B := (99, none, 0, [(.iastore, []), (.aload_n 0, []), (.iconst 2, []), (.invokevirtual 312, [158, 1, 12, 1673, 1675, 3087, 0]), (.aload_n 0, []), (.getfield 236, [12, 13, 1317]), (.ifCond .ne 30, [9, 6])])
def pb_X12_tellSaying_6 : sm_B := (112, none, 0, [(.aload_n 0, []), (.getfield 77, [12, 33, 1337]), (.iload_n 1, []), (.iaload, []), (.iconst 1, []), (.if_icmp .lt 14, [8, 7])])
def pb_X12_tellSaying_7 : sm_B := (122, none, 0, [(.aload_n 0, []), (.getfield 77, [12, 33, 1337]), (.iload_n 1, []), (.iaload, []), (.bipush 100, []), (.if_icmp .le 9, [9, 8])])
def pb_X12_tellSaying_8 : sm_B := (133, none, 9, [(.aload_n 0, []), (.iconst 5, []), (.iload_n 3, []), (.invokevirtual 315, [206, 1, 12, 1677, 1679, 3328, 0])])
def pb_X12_tellSaying_9 : sm_B := (139, none, 10, [(.aload_n 0, []), (.iconst 5, []), (.invokevirtual 312, [158, 1, 12, 1673, 1675, 3087, 0]), (.aload_n 0, []), (.getfield 80, [12, 34, 1338]), (.iload_n 1, []), (.iconst 0, []), (.iastore, []), (.iconst 1, []), (.istore_n 3, [])])
def pb_X12_tellSaying_10 : sm_B := (153, some [0, 1, 2, 3], 0, [(.iload_n 3, []), (.ifCond .eq 79, [19, 11])])
def pb_X12_tellSaying_11 : sm_B := (157, none, 0, [(.aload_n 0, []), (.getfield 236, [12, 13, 1317]), (.ifCond .ne 72, [19, 12])])
def pb_X12_tellSaying_12 : sm_B := (164, none, 0, [(.aload_n 0, []), (.iconst 4, []), (.iload_n 1, []), (.imul, []), (.aload_n 0, []), (.getfield 80, [12, 34, 1338]), (.iload_n 1, []), (.iaload, []), (.iadd, []), (.invokevirtual 334, [189, 1, 12, 1705, 1707, 3335, 0]), (.aload_n 0, []), (.getfield 236, [12, 13, 1317]), (.ifCond .le 4, [14, 13])])
def pb_X12_tellSaying_13 : sm_B := (185, none, 0, [(.return_, [])])
def pb_X12_tellSaying_14 : sm_B := (186, none, 0, [(.aload_n 0, []), (.getfield 80, [12, 34, 1338]), (.iload_n 1, []), (.dup2, []), (.iaload, []), (.iconst 1, []), (.iadd, []), (.iastore, []), (.aload_n 0, []), (.bipush 28, []), (.invokevirtual 254, [136, 1, 12, 1649, 1651, 3081, 0]), (.istore_n 3, []), (.iload_n 3, []), (.ifCond .eq 18, [17, 15])])
def pb_X12_tellSaying_15 : sm_B := (207, none, 0, [(.aload_n 0, []), (.getfield 80, [12, 34, 1338]), (.iload_n 1, []), (.iaload, []), (.iconst 4, []), (.if_icmp .ne 8, [17, 16])])
def pb_X12_tellSaying_16 : sm_B := (217, none, 17, [(.aload_n 0, []), (.iconst 2, []), (.invokevirtual 251, [116, 1, 12, 1657, 1659, 3083, 0])])
def pb_X12_tellSaying_17 : sm_B := (222, none, 0, [(.iload_n 3, []), (.ifCond .eq (-70), [10, 18])])
def pb_X12_tellSaying_18 : sm_B := (226, none, 0, [(.aload_n 0, []), (.invokevirtual 257, [129, 1, 12, 1665, 1667, 3085, 0]), (.goto (-77), [10])])
def pb_X12_tellSaying_19 : sm_B := (233, none, 0, [(.aload_n 0, []), (.iconst 4, []), (.invokevirtual 312, [158, 1, 12, 1673, 1675, 3087, 0]), (.aload_n 0, []), (.getfield 236, [12, 13, 1317]), (.ifCond .le 4, [21, 20])])
def pb_X12_tellSaying_20 : sm_B := (245, none, 0, [(.return_, [])])
def pb_X12_tellSaying_21 : sm_B := (246, none, 0, [(.aload_n 0, []), (.iload_n 2, []), (.iconst 3, []), (.aload_n 0, []), (.getfield 70, [12, 31, 1335]), (.aload_n 0, []), (.getfield 266, [12, 19, 1323]), (.iaload, []), (.invokevirtual 323, [148, 1, 12, 1681, 1683, 3329, 0]), (.aload_n 0, []), (.getfield 70, [12, 31, 1335]), (.aload_n 0, []), (.getfield 266, [12, 19, 1323]), (.dup2, []), (.iaload, []), (.iconst 1, []), (.iadd, []), (.iastore, []), (.return_, [])])
def pm_X12_tellSaying : sm_M := (yX12_tellSaying, prog_14_method_31_code, 4, none, 0, 0, 0, [1704, 14, 1], [
  pb_X12_tellSaying_0,
  pb_X12_tellSaying_1,
  pb_X12_tellSaying_2,
  pb_X12_tellSaying_3,
  pb_X12_tellSaying_4,
  pb_X12_tellSaying_5,
  pb_X12_tellSaying_6,
  pb_X12_tellSaying_7,
  pb_X12_tellSaying_8,
  pb_X12_tellSaying_9,
  pb_X12_tellSaying_10,
  pb_X12_tellSaying_11,
  pb_X12_tellSaying_12,
  pb_X12_tellSaying_13,
  pb_X12_tellSaying_14,
  pb_X12_tellSaying_15,
  pb_X12_tellSaying_16,
  pb_X12_tellSaying_17,
  pb_X12_tellSaying_18,
  pb_X12_tellSaying_19,
  pb_X12_tellSaying_20,
  pb_X12_tellSaying_21])
def pm_X12_tellSpan : sm_M := (yX12_tellSpan, prog_14_method_30_code, 4, none, 1, 0, 0, [1712, 14, 1], [
  (0, some [0, 1], 0, [(.aload_n 0, []), (.iconst 2, []), (.invokevirtual 327, [147, 1, 12, 1689, 1691, 3331, 0]), (.istore_n 2, []), (.aload_n 0, []), (.bipush 30, []), (.invokevirtual 254, [136, 1, 12, 1649, 1651, 3081, 0]), (.istore_n 3, []), (.iload_n 3, []), (.ifCond .eq 17, [2, 1])]),
  (17, none, 0, [(.aload_n 0, []), (.invokevirtual 257, [129, 1, 12, 1665, 1667, 3085, 0]), (.aload_n 0, []), (.getfield 89, [12, 37, 1341]), (.iload_n 1, []), (.iconst (-1), []), (.iastore, []), (.goto 31, [6])]),
  (31, none, 0, [(.aload_n 0, []), (.bipush 31, []), (.invokevirtual 312, [158, 1, 12, 1673, 1675, 3087, 0]), (.aload_n 0, []), (.getfield 89, [12, 37, 1341]), (.iload_n 1, []), (.aload_n 0, []), (.getfield 236, [12, 13, 1317]), (.ifCond .le 7, [4, 3])]),
  (49, none, 0, [(.iconst 0, []), (.goto 8, [5])]),
  (53, none, 5, [(.aload_n 0, []), (.iconst 2, []), (.invokevirtual 327, [147, 1, 12, 1689, 1691, 3331, 0])]),
  (58, none, 6, [(.iastore, [])]),
  (59, none, 0, [(.aload_n 0, []), (.getfield 86, [12, 36, 1340]), (.iload_n 1, []), (.iload_n 2, []), (.iastore, []), (.aload_n 0, []), (.getfield 92, [12, 38, 1342]), (.iload_n 1, []), (.aload_n 0, []), (.iload_n 3, []), (.ifCond .ne 7, [8, 7])]),
  (76, none, 0, [(.iconst 1, []), (.goto 4, [9])]),
  (80, none, 9, [(.iconst 0, [])]),
  (81, none, 0, [(.invokevirtual 330, [162, 1, 12, 1693, 1695, 3332, 0]), (.iastore, []), (.aload_n 0, []), (.getfield 95, [12, 39, 1343]), (.iload_n 1, []), (.aload_n 0, []), (.iload_n 3, []), (.ifCond .ne 7, [11, 10])]),
  (95, none, 0, [(.iconst 1, []), (.goto 4, [12])]),
  (99, none, 12, [(.iconst 0, [])]),
  (100, none, 0, [(.invokevirtual 330, [162, 1, 12, 1693, 1695, 3332, 0]), (.iastore, []), (.return_, [])])])
def pm_X12_tellTime : sm_M := (yX12_tellTime, prog_14_method_29_code, 5, none, 0, 0, 0, [1700, 14, 1], [
  (0, some [0], 0, [(.aload_n 0, []), (.invokevirtual 257, [129, 1, 12, 1665, 1667, 3085, 0]), (.aload_n 0, []), (.invokevirtual 319, [159, 1, 12, 1669, 1671, 3086, 0]), (.istore_n 1, []), (.bipush 10, []), (.aload_n 0, []), (.getfield 266, [12, 19, 1323]), (.imul, []), (.aload_n 0, []), (.getfield 61, [12, 28, 1332]), (.aload_n 0, []), (.getfield 266, [12, 19, 1323]), (.iaload, []), (.iadd, []), (.istore_n 2, []), (.iconst (-1), []), (.istore_n 3, []), (.iconst (-1), []), (.istore 4, []), (.aload_n 0, []), (.bipush 24, []), (.invokevirtual 254, [136, 1, 12, 1649, 1651, 3081, 0]), (.ifCond .eq 26, [2, 1])]),
  (41, none, 2, [(.aload_n 0, []), (.invokevirtual 257, [129, 1, 12, 1665, 1667, 3085, 0]), (.aload_n 0, []), (.iconst 0, []), (.invokevirtual 327, [147, 1, 12, 1689, 1691, 3331, 0]), (.istore_n 3, []), (.aload_n 0, []), (.bipush 25, []), (.invokevirtual 312, [158, 1, 12, 1673, 1675, 3087, 0]), (.aload_n 0, []), (.iconst 1, []), (.invokevirtual 327, [147, 1, 12, 1689, 1691, 3331, 0]), (.istore 4, [])]),
  (64, none, 0, [(.aload_n 0, []), (.iconst 4, []), (.invokevirtual 312, [158, 1, 12, 1673, 1675, 3087, 0]), (.aload_n 0, []), (.getfield 236, [12, 13, 1317]), (.ifCond .le 4, [4, 3])]),
  (76, none, 0, [(.return_, [])]),
  (77, none, 0, [(.aload_n 0, []), (.getfield 64, [12, 29, 1333]), (.iload_n 2, []), (.iload_n 3, []), (.iastore, []), (.aload_n 0, []), (.getfield 67, [12, 30, 1334]), (.iload_n 2, []), (.iload 4, []), (.iastore, []), (.aload_n 0, []), (.iload_n 1, []), (.iconst 2, []), (.aload_n 0, []), (.getfield 61, [12, 28, 1332]), (.aload_n 0, []), (.getfield 266, [12, 19, 1323]), (.iaload, []), (.invokevirtual 323, [148, 1, 12, 1681, 1683, 3329, 0]), (.aload_n 0, []), (.getfield 61, [12, 28, 1332]), (.aload_n 0, []), (.getfield 266, [12, 19, 1323]), (.dup2, []), (.iaload, []), (.iconst 1, []), (.iadd, []), (.iastore, []), (.return_, [])])])
def pm_X12_tellWay : sm_M := (yX12_tellWay, prog_14_method_28_code, 6, none, 0, 0, 0, [1688, 14, 1], [
  (0, some [0], 0, [(.aload_n 0, []), (.invokevirtual 257, [129, 1, 12, 1665, 1667, 3085, 0]), (.aload_n 0, []), (.iconst 1, []), (.invokevirtual 327, [147, 1, 12, 1689, 1691, 3331, 0]), (.istore_n 1, []), (.aload_n 0, []), (.getfield 239, [12, 11, 1316]), (.istore_n 2, []), (.aload_n 0, []), (.iconst 1, []), (.invokevirtual 327, [147, 1, 12, 1689, 1691, 3331, 0]), (.istore_n 3, []), (.aload_n 0, []), (.getfield 236, [12, 13, 1317]), (.ifCond .ne 19, [4, 1])]),
  (28, none, 0, [(.iload_n 1, []), (.iload_n 3, []), (.if_icmp .ne 14, [4, 2])]),
  (33, none, 0, [(.iload_n 1, []), (.iconst (-1), []), (.if_icmp .eq 9, [4, 3])]),
  (38, none, 4, [(.aload_n 0, []), (.iconst 5, []), (.iload_n 2, []), (.invokevirtual 315, [206, 1, 12, 1677, 1679, 3328, 0])]),
  (44, some [0, 1, 3], 0, [(.aload_n 0, []), (.iconst 0, []), (.invokevirtual 330, [162, 1, 12, 1693, 1695, 3332, 0]), (.istore 4, []), (.aload_n 0, []), (.iconst 4, []), (.invokevirtual 312, [158, 1, 12, 1673, 1675, 3087, 0]), (.aload_n 0, []), (.getfield 236, [12, 13, 1317]), (.ifCond .le 4, [6, 5])]),
  (63, none, 0, [(.return_, [])]),
  (64, none, 0, [(.aload_n 0, []), (.getfield 55, [12, 26, 1330]), (.aload_n 0, []), (.getfield 266, [12, 19, 1323]), (.dup2, []), (.iaload, []), (.iconst 1, []), (.iadd, []), (.iastore, []), (.iload_n 1, []), (.iconst (-1), []), (.if_icmp .eq 13, [9, 7])]),
  (82, none, 0, [(.iload_n 3, []), (.iconst (-1), []), (.if_icmp .eq 8, [9, 8])]),
  (87, none, 0, [(.iload_n 1, []), (.iload_n 3, []), (.if_icmp .ne 4, [10, 9])]),
  (92, none, 0, [(.return_, [])]),
  (93, none, 0, [(.bipush 36, []), (.aload_n 0, []), (.getfield 266, [12, 19, 1323]), (.imul, []), (.bipush 6, []), (.iload_n 1, []), (.imul, []), (.iadd, []), (.iload_n 3, []), (.iadd, []), (.istore 5, []), (.aload_n 0, []), (.getfield 58, [12, 27, 1331]), (.iload 5, []), (.iaload, []), (.iconst (-1), []), (.if_icmp .eq 16, [13, 11])]),
  (120, none, 0, [(.aload_n 0, []), (.getfield 58, [12, 27, 1331]), (.iload 5, []), (.iaload, []), (.iload 4, []), (.if_icmp .gt 4, [13, 12])]),
  (132, none, 0, [(.return_, [])]),
  (133, none, 0, [(.aload_n 0, []), (.getfield 58, [12, 27, 1331]), (.iload 5, []), (.iload 4, []), (.iastore, []), (.aload_n 0, []), (.getfield 58, [12, 27, 1331]), (.bipush 36, []), (.aload_n 0, []), (.getfield 266, [12, 19, 1323]), (.imul, []), (.bipush 6, []), (.iload_n 3, []), (.imul, []), (.iadd, []), (.iload_n 1, []), (.iadd, []), (.iload 4, []), (.iastore, []), (.return_, [])])])
def pm_X12_token : sm_M := (yX12_token, prog_14_method_11_code, 6, none, 4, 0, 0, [1639, 14, 1], [
  (0, some [0, 1, 2, 3, 4], 0, [(.aload_n 0, []), (.getfield 20, [12, 5, 1310]), (.aload_n 0, []), (.getfield 215, [12, 10, 1315]), (.iload_n 1, []), (.iastore, []), (.aload_n 0, []), (.getfield 24, [12, 6, 1311]), (.aload_n 0, []), (.getfield 215, [12, 10, 1315]), (.iload_n 2, []), (.iastore, []), (.aload_n 0, []), (.getfield 27, [12, 7, 1312]), (.aload_n 0, []), (.getfield 215, [12, 10, 1315]), (.iload_n 3, []), (.iastore, []), (.aload_n 0, []), (.getfield 30, [12, 8, 1313]), (.aload_n 0, []), (.getfield 215, [12, 10, 1315]), (.lload 4, []), (.lastore, []), (.aload_n 0, []), (.dup, []), (.getfield 215, [12, 10, 1315]), (.iconst 1, []), (.iadd, []), (.putfield 215, [12, 10, 1315]), (.return_, [])])])
def pm_X12_toldItem : sm_M := (yX12_toldItem, prog_14_method_88_code, 1, (some .int), 1, 0, 0, [1979, 14, 1], [
  (0, some [0], 0, [(.iload_n 0, []), (.bipush 10, []), (.if_icmp .ge 7, [2, 1])]),
  (6, none, 0, [(.iload_n 0, []), (.goto 7, [3])]),
  (10, none, 3, [(.iload_n 0, []), (.bipush 90, []), (.iadd, [])]),
  (14, none, 0, [(.ireturn, [])])])
def pm_X12_tried : sm_M := (yX12_tried, prog_14_method_111_code, 3, (some .int), 2, 0, 0, [2067, 14, 1], [
  (0, some [0, 1, 2], 0, [(.iload_n 1, []), (.ifCond .lt 12, [2, 1])]),
  (4, none, 0, [(.iload_n 2, []), (.iconst 0, []), (.iconst 2, []), (.invokestatic 373, [134, 0, 0, 1745, 1746, 0, 0]), (.ifCond .ne 5, [3, 2])]),
  (13, none, 0, [(.iconst (-1), []), (.ireturn, [])]),
  (15, none, 0, [(.aload_n 0, []), (.invokevirtual 434, [128, 1, 12, 1772, 1774, 3584, 0]), (.iload_n 1, []), (.aload_n 0, []), (.getfield 428, [12, 72, 1376]), (.if_icmp .ge 10, [5, 4])]),
  (27, none, 0, [(.iload_n 1, []), (.sipush 1000, []), (.if_icmp .lt 5, [6, 5])]),
  (34, none, 0, [(.iconst (-1), []), (.ireturn, [])]),
  (36, none, 0, [(.iload_n 2, []), (.ifCond .ne 15, [8, 7])]),
  (40, none, 0, [(.aload_n 0, []), (.getfield 159, [12, 76, 1380]), (.iload_n 1, []), (.baload, []), (.invokestatic 498, [198, 0, 0, 1977, 1978, 0, 0]), (.goto 31, [13])]),
  (52, none, 0, [(.iload_n 2, []), (.iconst 1, []), (.if_icmp .ne 12, [10, 9])]),
  (57, none, 0, [(.aload_n 0, []), (.getfield 162, [12, 77, 1381]), (.iload_n 1, []), (.baload, []), (.goto 17, [13])]),
  (66, none, 0, [(.aload_n 0, []), (.getfield 165, [12, 78, 1382]), (.iload_n 1, []), (.baload, []), (.ifCond .eq 7, [12, 11])]),
  (75, none, 0, [(.iconst 1, []), (.goto 4, [13])]),
  (79, none, 13, [(.iconst 0, [])]),
  (80, none, 0, [(.ireturn, [])])])
def pm_X12_trustIn : sm_M := (yX12_trustIn, prog_14_method_84_code, 4, (some .int), 1, 0, 0, [1946, 14, 1], [
  (0, some [0, 1], 1, [(.iconst 0, []), (.istore_n 2, []), (.iconst 0, []), (.istore_n 3, [])]),
  (4, some [0, 1, 2, 3], 0, [(.iload_n 3, []), (.bipush 10, []), (.if_icmp .ge 35, [5, 2])]),
  (10, none, 0, [(.iload_n 1, []), (.iload_n 3, []), (.ishr, []), (.iconst 1, []), (.iand, []), (.iconst 1, []), (.if_icmp .ne 20, [4, 3])]),
  (19, none, 4, [(.iload_n 2, []), (.aload_n 0, []), (.getfield 77, [12, 33, 1337]), (.bipush 10, []), (.aload_n 0, []), (.getfield 263, [12, 18, 1322]), (.imul, []), (.iload_n 3, []), (.iadd, []), (.iaload, []), (.iadd, []), (.istore_n 2, [])]),
  (36, none, 0, [(.iinc 3 1, []), (.goto (-35), [1])]),
  (42, none, 0, [(.iload_n 2, []), (.ireturn, [])])])
def pm_X12_undoubted : sm_M := (yX12_undoubted, prog_14_method_51_code, 3, (some .int), 0, 0, 0, [1795, 14, 1], [
  (0, some [0], 1, [(.iconst 0, []), (.istore_n 1, []), (.iconst 0, []), (.istore_n 2, [])]),
  (4, some [0, 1, 2], 0, [(.iload_n 2, []), (.aload_n 0, []), (.getfield 70, [12, 31, 1335]), (.aload_n 0, []), (.getfield 263, [12, 18, 1322]), (.iaload, []), (.if_icmp .ge 24, [5, 2])]),
  (17, none, 0, [(.aload_n 0, []), (.getfield 107, [12, 43, 1347]), (.iload_n 2, []), (.baload, []), (.ifCond .ne 9, [4, 3])]),
  (26, none, 4, [(.iload_n 1, []), (.iconst 1, []), (.iload_n 2, []), (.ishl, []), (.ior, []), (.istore_n 1, [])]),
  (32, none, 0, [(.iinc 2 1, []), (.goto (-31), [1])]),
  (38, none, 0, [(.iload_n 1, []), (.ireturn, [])])])
def pm_X12_walk : sm_M := (yX12_walk, prog_14_method_60_code, 4, (some .int), 2, 0, 0, [1763, 14, 1], [
  (0, some [0, 1, 2], 0, [(.iload_n 1, []), (.iconst 0, []), (.aload_n 0, []), (.getfield 52, [12, 25, 1329]), (.aload_n 0, []), (.getfield 263, [12, 18, 1322]), (.iaload, []), (.iconst 1, []), (.isub, []), (.invokestatic 373, [134, 0, 0, 1745, 1746, 0, 0]), (.ifCond .eq 22, [2, 1])]),
  (19, none, 0, [(.iload_n 2, []), (.iconst 0, []), (.aload_n 0, []), (.getfield 52, [12, 25, 1329]), (.aload_n 0, []), (.getfield 263, [12, 18, 1322]), (.iaload, []), (.iconst 1, []), (.isub, []), (.invokestatic 373, [134, 0, 0, 1745, 1746, 0, 0]), (.ifCond .ne 5, [3, 2])]),
  (38, none, 0, [(.iconst (-1), []), (.ireturn, [])]),
  (40, none, 0, [(.aload_n 0, []), (.getfield 113, [12, 45, 1349]), (.bipush 6, []), (.iload_n 1, []), (.imul, []), (.iload_n 2, []), (.iadd, []), (.iaload, []), (.istore_n 3, []), (.iload_n 3, []), (.iconst (-1), []), (.if_icmp .ne 8, [5, 4])]),
  (57, none, 0, [(.bipush (-2), []), (.goto 4, [6])]),
  (62, none, 6, [(.iload_n 3, [])]),
  (63, none, 0, [(.ireturn, [])])])
def pm_X12_walks : sm_M := (yX12_walks, prog_14_method_35_code, 5, none, 0, 0, 0, [1724, 14, 1], [
  (0, some [0], 1, [(.iconst 0, []), (.istore_n 1, [])]),
  (2, some [0, 1], 0, [(.iload_n 1, []), (.bipush 36, []), (.if_icmp .ge 29, [3, 2])]),
  (8, none, 0, [(.aload_n 0, []), (.getfield 113, [12, 45, 1349]), (.iload_n 1, []), (.aload_n 0, []), (.getfield 58, [12, 27, 1331]), (.bipush 36, []), (.aload_n 0, []), (.getfield 263, [12, 18, 1322]), (.imul, []), (.iload_n 1, []), (.iadd, []), (.iaload, []), (.iastore, []), (.iinc 1 1, []), (.goto (-29), [1])]),
  (34, none, 4, [(.iconst 0, []), (.istore_n 1, [])]),
  (36, some [0, 1], 0, [(.iload_n 1, []), (.bipush 6, []), (.if_icmp .ge 98, [14, 5])]),
  (42, none, 6, [(.iconst 0, []), (.istore_n 2, [])]),
  (44, some [0, 1, 2], 0, [(.iload_n 2, []), (.bipush 36, []), (.if_icmp .ge 84, [13, 7])]),
  (50, none, 0, [(.aload_n 0, []), (.getfield 113, [12, 45, 1349]), (.bipush 6, []), (.iload_n 2, []), (.bipush 6, []), (.idiv, []), (.imul, []), (.iload_n 1, []), (.iadd, []), (.iaload, []), (.istore_n 3, []), (.aload_n 0, []), (.getfield 113, [12, 45, 1349]), (.bipush 6, []), (.iload_n 1, []), (.imul, []), (.iload_n 2, []), (.bipush 6, []), (.irem, []), (.iadd, []), (.iaload, []), (.istore 4, []), (.iload_n 3, []), (.iconst (-1), []), (.if_icmp .eq 42, [12, 8])]),
  (86, none, 0, [(.iload 4, []), (.iconst (-1), []), (.if_icmp .eq 36, [12, 9])]),
  (92, none, 0, [(.aload_n 0, []), (.getfield 113, [12, 45, 1349]), (.iload_n 2, []), (.iaload, []), (.iconst (-1), []), (.if_icmp .eq 16, [11, 10])]),
  (102, none, 0, [(.iload_n 3, []), (.iload 4, []), (.iadd, []), (.aload_n 0, []), (.getfield 113, [12, 45, 1349]), (.iload_n 2, []), (.iaload, []), (.if_icmp .ge 13, [12, 11])]),
  (115, none, 12, [(.aload_n 0, []), (.getfield 113, [12, 45, 1349]), (.iload_n 2, []), (.iload_n 3, []), (.iload 4, []), (.iadd, []), (.iastore, [])]),
  (125, none, 0, [(.iinc 2 1, []), (.goto (-84), [6])]),
  (131, none, 0, [(.iinc 1 1, []), (.goto (-98), [4])]),
  (137, none, 0, [(.return_, [])])])
def pm_X12_ways : sm_M := (yX12_ways, prog_14_method_62_code, 1, (some .int), 0, 0, 0, [1771, 14, 1], [
  (0, some [0], 0, [(.aload_n 0, []), (.invokevirtual 434, [128, 1, 12, 1772, 1774, 3584, 0]), (.aload_n 0, []), (.getfield 425, [12, 71, 1375]), (.ifCond .eq 8, [2, 1])]),
  (11, none, 0, [(.bipush (-3), []), (.goto 7, [3])]),
  (16, none, 3, [(.aload_n 0, []), (.getfield 416, [12, 73, 1377])]),
  (20, none, 0, [(.ireturn, [])])])
def pm_X12_word : sm_M := (yX12_word, prog_14_method_10_code, 7, (some .long), 7, 0, 0, [1301, 14, 1], [
  (0, some [0, 1, 2, 3, 4, 5, 6], 0, [(.lconst 0, []), (.iload_n 0, []), (.invokestatic 211, [88, 0, 0, 1302, 1303, 0, 0]), (.iload_n 1, []), (.invokestatic 211, [88, 0, 0, 1302, 1303, 0, 0]), (.iload_n 2, []), (.invokestatic 211, [88, 0, 0, 1302, 1303, 0, 0]), (.iload_n 3, []), (.invokestatic 211, [88, 0, 0, 1302, 1303, 0, 0]), (.iload 4, []), (.invokestatic 211, [88, 0, 0, 1302, 1303, 0, 0]), (.iload 5, []), (.invokestatic 211, [88, 0, 0, 1302, 1303, 0, 0]), (.iload 6, []), (.invokestatic 211, [88, 0, 0, 1302, 1303, 0, 0]), (.lreturn, [])])])
def pm_X12_wrong : sm_M := (yX12_wrong, prog_14_method_16_code, 4, none, 2, 0, 0, [1680, 14, 1], [
  (0, some [0, 1, 2], 0, [(.aload_n 0, []), (.getfield 24, [12, 6, 1311]), (.iload_n 2, []), (.iaload, []), (.istore_n 3, []), (.aload_n 0, []), (.getfield 236, [12, 13, 1317]), (.ifCond .gt 34, [5, 1])]),
  (14, none, 0, [(.aload_n 0, []), (.getfield 245, [12, 15, 1319]), (.ifCond .eq 28, [6, 2])]),
  (21, none, 0, [(.iload_n 3, []), (.aload_n 0, []), (.getfield 248, [12, 16, 1320]), (.if_icmp .gt 19, [5, 3])]),
  (29, none, 0, [(.iload_n 3, []), (.aload_n 0, []), (.getfield 248, [12, 16, 1320]), (.if_icmp .ne 12, [6, 4])]),
  (37, none, 0, [(.iload_n 1, []), (.aload_n 0, []), (.getfield 245, [12, 15, 1319]), (.if_icmp .lt 4, [6, 5])]),
  (45, none, 0, [(.return_, [])]),
  (46, none, 0, [(.aload_n 0, []), (.iload_n 1, []), (.putfield 245, [12, 15, 1319]), (.aload_n 0, []), (.iload_n 3, []), (.putfield 248, [12, 16, 1320]), (.return_, [])])])
def pm_X1_addTry : sm_M := (yX1_addTry, prog_3_method_2_code, 5, none, 4, 0, 0, [901, 9, 1], [
  (0, some [0, 1, 2, 3, 4], 0, [(.iload_n 1, []), (.ifCond .lt 34, [6, 1])]),
  (4, none, 0, [(.iload_n 1, []), (.sipush 1000, []), (.if_icmp .ge 27, [6, 2])]),
  (11, none, 0, [(.aload_n 0, []), (.getfield 9, [1, 0, 322]), (.iload_n 1, []), (.iload_n 2, []), (.iconst 4, []), (.ishl, []), (.iload_n 3, []), (.iconst 1, []), (.ishl, []), (.ior, []), (.iload 4, []), (.ifCond .eq 7, [4, 3])]),
  (28, none, 0, [(.iconst 1, []), (.goto 4, [5])]),
  (32, none, 5, [(.iconst 0, [])]),
  (33, none, 6, [(.ior, []), (.iastore, [])]),
  (35, none, 0, [(.return_, [])])])
def pm_X1_addWay : sm_M := (yX1_addWay, prog_3_method_3_code, 6, none, 4, 0, 0, [857, 9, 1], [
  (0, some [0, 1, 2, 3, 4], 0, [(.iload_n 1, []), (.ifCond .lt 10, [2, 1])]),
  (4, none, 0, [(.iload_n 1, []), (.sipush 1000, []), (.if_icmp .lt 4, [3, 2])]),
  (11, none, 0, [(.return_, [])]),
  (12, none, 4, [(.aload_n 0, []), (.getfield 15, [1, 1, 323]), (.iload_n 1, []), (.iconst 0, []), (.iastore, []), (.aload_n 0, []), (.getfield 18, [1, 2, 324]), (.iload_n 1, []), (.lconst 0, []), (.lastore, []), (.iconst 0, []), (.istore 5, [])]),
  (29, some [0, 1, 2, 3, 4, 5], 0, [(.iload 5, []), (.iload 4, []), (.if_icmp .ge 63, [9, 5])]),
  (36, none, 0, [(.aload_n 2, []), (.iload 5, []), (.iaload, []), (.bipush 100, []), (.if_icmp .ge 26, [7, 6])]),
  (45, none, 0, [(.aload_n 0, []), (.getfield 15, [1, 1, 323]), (.iload_n 1, []), (.dup2, []), (.iaload, []), (.aload_n 3, []), (.iload 5, []), (.iaload, []), (.iconst 2, []), (.aload_n 2, []), (.iload 5, []), (.iaload, []), (.imul, []), (.ishl, []), (.ior, []), (.iastore, []), (.goto 25, [8])]),
  (68, none, 8, [(.aload_n 0, []), (.getfield 18, [1, 2, 324]), (.iload_n 1, []), (.dup2, []), (.laload, []), (.aload_n 3, []), (.iload 5, []), (.iaload, []), (.i2l, []), (.aload_n 2, []), (.iload 5, []), (.iaload, []), (.bipush 100, []), (.isub, []), (.lshl, []), (.lor, []), (.lastore, [])]),
  (90, none, 0, [(.iinc 5 1, []), (.goto (-64), [4])]),
  (96, none, 0, [(.return_, [])])])
def pm_X1_choiceOf : sm_M := (yX1_choiceOf, prog_3_method_4_code, 3, (some .int), 2, 0, 0, [917, 9, 1], [
  (0, some [0, 1, 2], 0, [(.iload_n 1, []), (.ifCond .lt 10, [2, 1])]),
  (4, none, 0, [(.iload_n 1, []), (.sipush 1000, []), (.if_icmp .lt 5, [3, 2])]),
  (11, none, 0, [(.iconst 0, []), (.ireturn, [])]),
  (13, none, 0, [(.iload_n 2, []), (.bipush 100, []), (.if_icmp .ge 16, [5, 4])]),
  (19, none, 0, [(.aload_n 0, []), (.getfield 15, [1, 1, 323]), (.iload_n 1, []), (.iaload, []), (.iconst 2, []), (.iload_n 2, []), (.imul, []), (.ishr, []), (.iconst 3, []), (.iand, []), (.ireturn, [])]),
  (32, none, 0, [(.aload_n 0, []), (.getfield 18, [1, 2, 324]), (.iload_n 1, []), (.laload, []), (.iload_n 2, []), (.bipush 100, []), (.isub, []), (.lshr, []), (.lconst 1, []), (.land, []), (.l2i, []), (.ireturn, [])])])
def pm_X1_init : sm_M := (yX1_init, prog_3_method_1_code, 1, none, 0, 3, 3000, [320, 9, 1], [
  (0, some [0], 0, [(.aload_n 0, []), (.invokespecial 3, [321, 24, 25]), (.aload_n 0, []), (.sipush 1000, []), (.newarray .int, [0, 56]), (.putfield 9, [1, 0, 322]), (.aload_n 0, []), (.sipush 1000, []), (.newarray .int, [0, 56]), (.putfield 15, [1, 1, 323]), (.aload_n 0, []), (.sipush 1000, []), (.newarray .long, [3, 57]), (.putfield 18, [1, 2, 324]), (.return_, [])])])
def pm_X1_tryOf : sm_M := (yX1_tryOf, prog_3_method_5_code, 3, (some .int), 2, 0, 0, [1213, 9, 1], [
  (0, some [0, 1, 2], 0, [(.iload_n 2, []), (.tableswitch 57 0 2 #[27, 36, 48], [4, 1, 2, 3])]),
  (28, none, 0, [(.aload_n 0, []), (.getfield 9, [1, 0, 322]), (.iload_n 1, []), (.iaload, []), (.iconst 4, []), (.ishr, []), (.ireturn, [])]),
  (37, none, 0, [(.aload_n 0, []), (.getfield 9, [1, 0, 322]), (.iload_n 1, []), (.iaload, []), (.iconst 1, []), (.ishr, []), (.bipush 7, []), (.iand, []), (.ireturn, [])]),
  (49, none, 0, [(.aload_n 0, []), (.getfield 9, [1, 0, 322]), (.iload_n 1, []), (.iaload, []), (.iconst 1, []), (.iand, []), (.ireturn, [])]),
  (58, none, 0, [(.iconst (-1), []), (.ireturn, [])])])
def pm_X2_addItem : sm_M := (yX2_addItem, prog_4_method_3_code, 2, none, 1, 0, 0, [845, 10, 1], [
  (0, some [0, 1], 0, [(.aload_n 0, []), (.getfield 28, [2, 11, 377]), (.aload_n 0, []), (.getfield 61, [2, 2, 368]), (.arraylength, []), (.if_icmp .ge 23, [2, 1])]),
  (12, none, 2, [(.aload_n 0, []), (.getfield 61, [2, 2, 368]), (.aload_n 0, []), (.getfield 28, [2, 11, 377]), (.iload_n 1, []), (.iastore, []), (.aload_n 0, []), (.dup, []), (.getfield 28, [2, 11, 377]), (.iconst 1, []), (.iadd, []), (.putfield 28, [2, 11, 377])]),
  (32, none, 0, [(.return_, [])])])
def pm_X2_begin : sm_M := (yX2_begin, prog_4_method_2_code, 6, none, 4, 0, 0, [813, 10, 1], [
  (0, some [0, 1, 2, 3, 4], 0, [(.aload_n 0, []), (.aload_n 1, []), (.putfield 68, [2, 4, 370]), (.aload_n 0, []), (.aload_n 2, []), (.putfield 72, [2, 5, 371]), (.aload_n 0, []), (.iconst 0, []), (.putfield 15, [2, 7, 373]), (.aload_n 0, []), (.iconst 0, []), (.putfield 18, [2, 8, 374]), (.aload_n 0, []), (.iload 4, []), (.ifCond .le 7, [2, 1])]),
  (26, none, 0, [(.iconst 1, []), (.goto 4, [3])]),
  (30, none, 3, [(.iconst 0, [])]),
  (31, none, 4, [(.putfield 24, [2, 10, 376]), (.aload_n 0, []), (.iload 4, []), (.invokevirtual 76, [223, 1, 2, 814, 816, 2568, 0]), (.aload_n 0, []), (.iconst 0, []), (.putfield 28, [2, 11, 377]), (.iconst 0, []), (.istore 5, [])]),
  (48, some [0, 3, 5], 0, [(.iload 5, []), (.aload_n 0, []), (.getfield 68, [2, 4, 370]), (.getfield 80, [10, 3, 131]), (.if_icmp .ge 24, [8, 5])]),
  (60, none, 0, [(.iload_n 3, []), (.iload 5, []), (.ishr, []), (.iconst 1, []), (.iand, []), (.ifCond .eq 9, [7, 6])]),
  (69, none, 7, [(.aload_n 0, []), (.iload 5, []), (.invokevirtual 85, [212, 1, 2, 842, 844, 2571, 0])]),
  (75, none, 0, [(.iinc 5 1, []), (.goto (-30), [4])]),
  (81, none, 9, [(.iconst 0, []), (.istore 5, [])]),
  (84, some [0, 5], 0, [(.iload 5, []), (.aload_n 0, []), (.getfield 68, [2, 4, 370]), (.getfield 88, [10, 5, 139]), (.if_icmp .ge 18, [11, 10])]),
  (96, none, 0, [(.aload_n 0, []), (.bipush 100, []), (.iload 5, []), (.iadd, []), (.invokevirtual 85, [212, 1, 2, 842, 844, 2571, 0]), (.iinc 5 1, []), (.goto (-24), [9])]),
  (111, none, 0, [(.return_, [])])])
def pm_X2_bind : sm_M := (yX2_bind, prog_4_method_7_code, 6, (some .boolean), 5, 0, 0, [833, 10, 1], [
  (0, some [0, 1, 2, 3, 4, 5], 0, [(.aload_n 0, []), (.getfield 54, [2, 0, 365]), (.iload_n 1, []), (.iload_n 2, []), (.iconst 1, []), (.iadd, []), (.iload_n 3, []), (.iconst 1, []), (.iadd, []), (.iload 5, []), (.invokevirtual 137, [248, 1, 5, 834, 835, 836, 0]), (.ifCond .eq 27, [3, 1])]),
  (19, none, 0, [(.aload_n 0, []), (.getfield 54, [2, 0, 365]), (.iload_n 1, []), (.iload_n 3, []), (.iconst 1, []), (.iadd, []), (.iload_n 2, []), (.iconst 1, []), (.iadd, []), (.iload 4, []), (.ineg, []), (.invokevirtual 137, [248, 1, 5, 834, 835, 836, 0]), (.ifCond .eq 7, [3, 2])]),
  (39, none, 0, [(.iconst 1, []), (.goto 4, [4])]),
  (43, none, 4, [(.iconst 0, [])]),
  (44, none, 0, [(.ireturn, [])])])
def pm_X2_bring : sm_M := (yX2_bring, prog_4_method_14_code, 5, (some .boolean), 2, 0, 0, [913, 10, 1], [
  (0, some [0, 1, 2], 1, [(.iconst 0, []), (.istore_n 3, [])]),
  (2, some [0, 1, 2, 3], 0, [(.iload_n 3, []), (.aload_n 0, []), (.getfield 28, [2, 11, 377]), (.if_icmp .ge 82, [9, 2])]),
  (10, none, 0, [(.aload_n 1, []), (.iload_n 2, []), (.aload_n 0, []), (.getfield 61, [2, 2, 368]), (.iload_n 3, []), (.iaload, []), (.invokevirtual 209, [209, 1, 1, 914, 915, 916, 0]), (.istore 4, []), (.iload_n 3, []), (.aload_n 0, []), (.getfield 9, [2, 6, 372]), (.if_icmp .ge 17, [5, 3])]),
  (31, none, 0, [(.aload_n 0, []), (.getfield 65, [2, 3, 369]), (.iload_n 3, []), (.iaload, []), (.iload 4, []), (.if_icmp .ne 6, [5, 4])]),
  (42, none, 0, [(.goto 41, [8])]),
  (45, none, 0, [(.aload_n 0, []), (.iload_n 3, []), (.putfield 9, [2, 6, 372]), (.aload_n 0, []), (.getfield 65, [2, 3, 369]), (.iload_n 3, []), (.iload 4, []), (.iastore, []), (.aload_n 0, []), (.iload_n 3, []), (.aload_n 0, []), (.getfield 61, [2, 2, 368]), (.iload_n 3, []), (.iaload, []), (.iload 4, []), (.invokevirtual 184, [227, 1, 2, 881, 882, 883, 0]), (.ifCond .ne 5, [7, 6])]),
  (74, none, 0, [(.iconst 0, []), (.ireturn, [])]),
  (76, none, 8, [(.aload_n 0, []), (.iload_n 3, []), (.iconst 1, []), (.iadd, []), (.putfield 9, [2, 6, 372])]),
  (83, none, 0, [(.iinc 3 1, []), (.goto (-84), [1])]),
  (89, none, 0, [(.iconst 1, []), (.ireturn, [])])])
def pm_X2_choicesOf : sm_M := (yX2_choicesOf, prog_4_method_8_code, 2, (some .int), 1, 0, 0, [875, 10, 1], [
  (0, some [0, 1], 0, [(.iload_n 1, []), (.bipush 100, []), (.if_icmp .ge 13, [2, 1])]),
  (6, none, 0, [(.aload_n 0, []), (.getfield 68, [2, 4, 370]), (.getfield 141, [10, 12, 161]), (.iload_n 1, []), (.iaload, []), (.ireturn, [])]),
  (16, none, 0, [(.aload_n 0, []), (.iload_n 1, []), (.invokevirtual 144, [230, 1, 2, 876, 878, 2575, 0]), (.ifCond .ge 7, [4, 3])]),
  (24, none, 0, [(.iconst 0, []), (.goto 4, [5])]),
  (28, none, 5, [(.iconst 2, [])]),
  (29, none, 0, [(.ireturn, [])])])
def pm_X2_distance : sm_M := (yX2_distance, prog_4_method_16_code, 5, (some .int), 4, 0, 0, [942, 10, 1], [
  (0, some [0, 1, 2, 3, 4], 0, [(.iload 4, []), (.ifCond .eq 20, [2, 1])]),
  (5, none, 0, [(.aload_n 0, []), (.getfield 54, [2, 0, 365]), (.iload_n 1, []), (.iload_n 2, []), (.iconst 1, []), (.iadd, []), (.iload_n 3, []), (.iconst 1, []), (.iadd, []), (.invokevirtual 197, [247, 1, 5, 858, 859, 860, 0]), (.goto 18, [3])]),
  (22, none, 3, [(.aload_n 0, []), (.getfield 54, [2, 0, 365]), (.iload_n 1, []), (.iload_n 3, []), (.iconst 1, []), (.iadd, []), (.iload_n 2, []), (.iconst 1, []), (.iadd, []), (.invokevirtual 197, [247, 1, 5, 858, 859, 860, 0]), (.ineg, [])]),
  (37, none, 0, [(.ireturn, [])])])
def pm_X2_goThrough : sm_M := (yX2_goThrough, prog_4_method_12_code, 6, none, 2, 0, 0, [849, 10, 1], [
  (0, some [0, 1, 2], 0, [(.aload_n 0, []), (.iconst 0, []), (.putfield 34, [2, 13, 383]), (.aload_n 0, []), (.iconst 0, []), (.putfield 37, [2, 14, 385]), (.aload_n 0, []), (.iconst 0, []), (.putfield 40, [2, 15, 389]), (.aload_n 0, []), (.iconst 0, []), (.putfield 9, [2, 6, 372]), (.aload_n 0, []), (.getfield 31, [2, 12, 380]), (.ifCond .ne 4, [2, 1])]),
  (27, none, 0, [(.return_, [])]),
  (28, none, 0, [(.aload_n 0, []), (.getfield 28, [2, 11, 377]), (.ifCond .ne 9, [4, 3])]),
  (35, none, 0, [(.aload_n 0, []), (.aload_n 1, []), (.invokevirtual 177, [226, 1, 2, 850, 852, 2572, 0]), (.return_, [])]),
  (41, none, 5, [(.iconst 0, []), (.istore_n 3, []), (.aload_n 0, []), (.getfield 65, [2, 3, 369]), (.iconst 0, []), (.iconst (-1), []), (.iastore, []), (.iconst 0, []), (.istore 4, [])]),
  (53, some [0, 1, 2, 3, 4], 0, [(.iload 4, []), (.sipush 2010, []), (.if_icmp .ge 164, [20, 6])]),
  (61, none, 0, [(.iload_n 3, []), (.ifCond .lt 160, [20, 7])]),
  (65, none, 0, [(.aload_n 0, []), (.getfield 65, [2, 3, 369]), (.iload_n 3, []), (.dup2, []), (.iaload, []), (.iconst 1, []), (.iadd, []), (.iastore, []), (.aload_n 0, []), (.getfield 65, [2, 3, 369]), (.iload_n 3, []), (.iaload, []), (.aload_n 0, []), (.aload_n 0, []), (.getfield 61, [2, 2, 368]), (.iload_n 3, []), (.iaload, []), (.invokevirtual 181, [216, 1, 2, 872, 874, 2574, 0]), (.if_icmp .lt 9, [9, 8])]),
  (94, none, 0, [(.iinc 3 (-1), []), (.goto 119, [19])]),
  (100, none, 0, [(.aload_n 0, []), (.dup, []), (.getfield 34, [2, 13, 383]), (.iconst 1, []), (.iadd, []), (.putfield 34, [2, 13, 383]), (.aload_n 0, []), (.getfield 34, [2, 13, 383]), (.sipush 1000, []), (.if_icmp .le 9, [11, 10])]),
  (120, none, 0, [(.aload_n 0, []), (.iconst 1, []), (.putfield 40, [2, 15, 389]), (.return_, [])]),
  (126, none, 0, [(.aload_n 0, []), (.iload_n 3, []), (.aload_n 0, []), (.getfield 61, [2, 2, 368]), (.iload_n 3, []), (.iaload, []), (.aload_n 0, []), (.getfield 65, [2, 3, 369]), (.iload_n 3, []), (.iaload, []), (.invokevirtual 184, [227, 1, 2, 881, 882, 883, 0]), (.istore 5, []), (.aload_n 1, []), (.ifnull 27, [13, 12])]),
  (149, none, 13, [(.aload_n 1, []), (.aload_n 0, []), (.getfield 34, [2, 13, 383]), (.iconst 1, []), (.isub, []), (.aload_n 0, []), (.getfield 61, [2, 2, 368]), (.iload_n 3, []), (.iaload, []), (.aload_n 0, []), (.getfield 65, [2, 3, 369]), (.iload_n 3, []), (.iaload, []), (.iload 5, []), (.invokevirtual 187, [207, 1, 1, 898, 899, 900, 0])]),
  (173, none, 0, [(.iload 5, []), (.ifCond .eq 26, [16, 14])]),
  (178, none, 0, [(.iload_n 3, []), (.aload_n 0, []), (.getfield 28, [2, 11, 377]), (.iconst 1, []), (.isub, []), (.if_icmp .ge 16, [16, 15])]),
  (188, none, 0, [(.iinc 3 1, []), (.aload_n 0, []), (.getfield 65, [2, 3, 369]), (.iload_n 3, []), (.iconst (-1), []), (.iastore, []), (.goto 18, [19])]),
  (201, some [0, 1, 2, 3, 4, 5], 0, [(.iload 5, []), (.ifCond .eq 13, [19, 17])]),
  (206, none, 0, [(.aload_n 0, []), (.aload_n 1, []), (.invokevirtual 177, [226, 1, 2, 850, 852, 2572, 0]), (.iload_n 2, []), (.ifCond .eq 4, [19, 18])]),
  (215, none, 0, [(.return_, [])]),
  (216, some [0, 1, 2, 3, 4], 0, [(.iinc 4 1, []), (.goto (-166), [5])]),
  (222, none, 0, [(.return_, [])])])
def pm_X2_host : sm_M := (yX2_host, prog_4_method_5_code, 6, none, 4, 0, 0, [1113, 10, 1], [
  (0, some [0, 1, 2, 3, 4], 0, [(.aload_n 0, []), (.iload_n 2, []), (.putfield 21, [2, 9, 375]), (.aload_n 0, []), (.sipush 1440, []), (.putfield 43, [2, 16, 392]), (.aload_n 0, []), (.iconst 0, []), (.putfield 46, [2, 17, 394]), (.aload_n 0, []), (.aload_n 0, []), (.getfield 31, [2, 12, 380]), (.ifCond .eq 26, [3, 1])]),
  (25, none, 0, [(.aload_n 0, []), (.iconst 0, []), (.aload_n 0, []), (.getfield 68, [2, 4, 370]), (.getfield 91, [10, 2, 127]), (.iconst (-1), []), (.iload_n 3, []), (.iload 4, []), (.invokevirtual 116, [214, 1, 2, 830, 831, 832, 0]), (.ifCond .eq 7, [3, 2])]),
  (44, none, 0, [(.iconst 1, []), (.goto 4, [4])]),
  (48, none, 4, [(.iconst 0, [])]),
  (49, none, 5, [(.putfield 31, [2, 12, 380]), (.iconst 0, []), (.istore 5, [])]),
  (55, some [0, 1, 2, 5], 0, [(.iload 5, []), (.aload_n 0, []), (.getfield 68, [2, 4, 370]), (.getfield 91, [10, 2, 127]), (.if_icmp .ge 47, [10, 6])]),
  (67, none, 0, [(.aload_n 0, []), (.getfield 68, [2, 4, 370]), (.getfield 131, [10, 8, 147]), (.iload 5, []), (.iaload, []), (.iload_n 1, []), (.if_icmp .ne 27, [9, 7])]),
  (81, none, 0, [(.aload_n 0, []), (.getfield 68, [2, 4, 370]), (.getfield 134, [10, 9, 151]), (.iload 5, []), (.iaload, []), (.iload_n 2, []), (.if_icmp .eq 13, [9, 8])]),
  (95, none, 9, [(.aload_n 0, []), (.sipush 200, []), (.iload 5, []), (.iadd, []), (.invokevirtual 85, [212, 1, 2, 842, 844, 2571, 0])]),
  (105, none, 0, [(.iinc 5 1, []), (.goto (-53), [5])]),
  (111, none, 0, [(.return_, [])])])
def pm_X2_init_6925 : sm_M := (yX2_init, prog_4_method_1_code, 6, none, 5, 7, 6925, [338, 10, 1], [
  (0, some [0, 1, 2, 3, 4, 5], 1, [(.aload_n 0, []), (.invokespecial 3, [339, 24, 25]), (.aload_n 0, []), (.iconst 0, []), (.putfield 9, [2, 6, 372]), (.aload_n 0, []), (.iconst 0, []), (.putfield 15, [2, 7, 373]), (.aload_n 0, []), (.iconst 0, []), (.putfield 18, [2, 8, 374]), (.aload_n 0, []), (.iconst (-1), []), (.putfield 21, [2, 9, 375]), (.aload_n 0, []), (.iconst 0, []), (.putfield 24, [2, 10, 376]), (.aload_n 0, []), (.iconst 0, []), (.putfield 28, [2, 11, 377]), (.aload_n 0, []), (.iconst 0, []), (.putfield 31, [2, 12, 380]), (.aload_n 0, []), (.iconst 0, []), (.putfield 34, [2, 13, 383]), (.aload_n 0, []), (.iconst 0, []), (.putfield 37, [2, 14, 385]), (.aload_n 0, []), (.iconst 0, []), (.putfield 40, [2, 15, 389]), (.aload_n 0, []), (.iconst 0, []), (.putfield 43, [2, 16, 392]), (.aload_n 0, []), (.iconst 0, []), (.putfield 46, [2, 17, 394]), (.aload_n 0, []), (.new 49, [5, 340, 341, 11])]),
  (68, none, 0, [(.dup, []), (.iload_n 1, []), (.iconst 1, []), (.iadd, []), (.iload_n 2, []), (.iconst 1, []), (.iadd, []), (.invokespecial 51, [243, 1, 5, 342, 343, 0, 0]), (.putfield 54, [2, 0, 365]), (.aload_n 0, []), (.iload_n 3, []), (.putfield 58, [2, 1, 367]), (.aload_n 0, []), (.iload_n 1, []), (.newarray .int, [0, 56]), (.putfield 61, [2, 2, 368]), (.aload_n 0, []), (.iload_n 1, []), (.newarray .int, [0, 56]), (.putfield 65, [2, 3, 369]), (.aload_n 0, []), (.aload 4, []), (.putfield 68, [2, 4, 370]), (.aload_n 0, []), (.aload 5, []), (.putfield 72, [2, 5, 371]), (.return_, [])])])
def pm_X2_init_7540 : sm_M := (yX2_init, prog_4_method_1_code, 6, none, 5, 7, 7540, [338, 10, 1], [
  (0, some [0, 1, 2, 3, 4, 5], 1, [(.aload_n 0, []), (.invokespecial 3, [339, 24, 25]), (.aload_n 0, []), (.iconst 0, []), (.putfield 9, [2, 6, 372]), (.aload_n 0, []), (.iconst 0, []), (.putfield 15, [2, 7, 373]), (.aload_n 0, []), (.iconst 0, []), (.putfield 18, [2, 8, 374]), (.aload_n 0, []), (.iconst (-1), []), (.putfield 21, [2, 9, 375]), (.aload_n 0, []), (.iconst 0, []), (.putfield 24, [2, 10, 376]), (.aload_n 0, []), (.iconst 0, []), (.putfield 28, [2, 11, 377]), (.aload_n 0, []), (.iconst 0, []), (.putfield 31, [2, 12, 380]), (.aload_n 0, []), (.iconst 0, []), (.putfield 34, [2, 13, 383]), (.aload_n 0, []), (.iconst 0, []), (.putfield 37, [2, 14, 385]), (.aload_n 0, []), (.iconst 0, []), (.putfield 40, [2, 15, 389]), (.aload_n 0, []), (.iconst 0, []), (.putfield 43, [2, 16, 392]), (.aload_n 0, []), (.iconst 0, []), (.putfield 46, [2, 17, 394]), (.aload_n 0, []), (.new 49, [5, 340, 341, 11])]),
  (68, none, 0, [(.dup, []), (.iload_n 1, []), (.iconst 1, []), (.iadd, []), (.iload_n 2, []), (.iconst 1, []), (.iadd, []), (.invokespecial 51, [244, 1, 5, 342, 343, 0, 0]), (.putfield 54, [2, 0, 365]), (.aload_n 0, []), (.iload_n 3, []), (.putfield 58, [2, 1, 367]), (.aload_n 0, []), (.iload_n 1, []), (.newarray .int, [0, 56]), (.putfield 61, [2, 2, 368]), (.aload_n 0, []), (.iload_n 1, []), (.newarray .int, [0, 56]), (.putfield 65, [2, 3, 369]), (.aload_n 0, []), (.aload 4, []), (.putfield 68, [2, 4, 370]), (.aload_n 0, []), (.aload 5, []), (.putfield 72, [2, 5, 371]), (.return_, [])])])
def pm_X2_init_9676 : sm_M := (yX2_init, prog_4_method_1_code, 6, none, 5, 7, 9676, [338, 10, 1], [
  (0, some [0, 1, 2, 3, 4, 5], 1, [(.aload_n 0, []), (.invokespecial 3, [339, 24, 25]), (.aload_n 0, []), (.iconst 0, []), (.putfield 9, [2, 6, 372]), (.aload_n 0, []), (.iconst 0, []), (.putfield 15, [2, 7, 373]), (.aload_n 0, []), (.iconst 0, []), (.putfield 18, [2, 8, 374]), (.aload_n 0, []), (.iconst (-1), []), (.putfield 21, [2, 9, 375]), (.aload_n 0, []), (.iconst 0, []), (.putfield 24, [2, 10, 376]), (.aload_n 0, []), (.iconst 0, []), (.putfield 28, [2, 11, 377]), (.aload_n 0, []), (.iconst 0, []), (.putfield 31, [2, 12, 380]), (.aload_n 0, []), (.iconst 0, []), (.putfield 34, [2, 13, 383]), (.aload_n 0, []), (.iconst 0, []), (.putfield 37, [2, 14, 385]), (.aload_n 0, []), (.iconst 0, []), (.putfield 40, [2, 15, 389]), (.aload_n 0, []), (.iconst 0, []), (.putfield 43, [2, 16, 392]), (.aload_n 0, []), (.iconst 0, []), (.putfield 46, [2, 17, 394]), (.aload_n 0, []), (.new 49, [5, 340, 341, 11])]),
  (68, none, 0, [(.dup, []), (.iload_n 1, []), (.iconst 1, []), (.iadd, []), (.iload_n 2, []), (.iconst 1, []), (.iadd, []), (.invokespecial 51, [245, 1, 5, 342, 343, 0, 0]), (.putfield 54, [2, 0, 365]), (.aload_n 0, []), (.iload_n 3, []), (.putfield 58, [2, 1, 367]), (.aload_n 0, []), (.iload_n 1, []), (.newarray .int, [0, 56]), (.putfield 61, [2, 2, 368]), (.aload_n 0, []), (.iload_n 1, []), (.newarray .int, [0, 56]), (.putfield 65, [2, 3, 369]), (.aload_n 0, []), (.aload 4, []), (.putfield 68, [2, 4, 370]), (.aload_n 0, []), (.aload 5, []), (.putfield 72, [2, 5, 371]), (.return_, [])])])
def pm_X2_layBase : sm_M := (yX2_layBase, prog_4_method_4_code, 5, none, 1, 0, 0, [817, 10, 1], [
  (0, some [0, 1], 1, [(.aload_n 0, []), (.iconst 0, []), (.putfield 9, [2, 6, 372]), (.aload_n 0, []), (.getfield 54, [2, 0, 365]), (.aload_n 0, []), (.getfield 68, [2, 4, 370]), (.getfield 91, [10, 2, 127]), (.iconst 1, []), (.iadd, []), (.iload_n 1, []), (.iadd, []), (.invokevirtual 94, [239, 1, 5, 818, 819, 820, 0]), (.aload_n 0, []), (.iconst 1, []), (.putfield 31, [2, 12, 380]), (.aload_n 0, []), (.getfield 68, [2, 4, 370]), (.getfield 97, [10, 10, 155]), (.astore_n 2, []), (.iconst 0, []), (.istore_n 3, [])]),
  (38, some [0, 2, 3], 0, [(.iload_n 3, []), (.aload_n 0, []), (.getfield 68, [2, 4, 370]), (.getfield 91, [10, 2, 127]), (.if_icmp .ge 135, [16, 2])]),
  (49, none, 0, [(.aload_n 2, []), (.getfield 101, [8, 1, 95]), (.iload_n 3, []), (.iaload, []), (.iconst (-1), []), (.if_icmp .ne 6, [4, 3])]),
  (59, none, 0, [(.goto 116, [15])]),
  (62, none, 0, [(.aload_n 0, []), (.getfield 58, [2, 1, 367]), (.ifCond .eq 66, [10, 5])]),
  (69, none, 0, [(.aload_n 0, []), (.getfield 54, [2, 0, 365]), (.iload_n 3, []), (.iconst 1, []), (.iadd, []), (.aload_n 2, []), (.getfield 101, [8, 1, 95]), (.iload_n 3, []), (.iaload, []), (.iconst 1, []), (.iadd, []), (.aload_n 2, []), (.getfield 106, [8, 2, 100]), (.iload_n 3, []), (.iaload, []), (.aload_n 2, []), (.getfield 109, [8, 3, 103]), (.iload_n 3, []), (.iaload, []), (.invokevirtual 112, [246, 1, 5, 822, 823, 824, 0]), (.aload_n 0, []), (.aload_n 0, []), (.getfield 31, [2, 12, 380]), (.ifCond .eq 21, [8, 6])]),
  (107, none, 0, [(.aload_n 0, []), (.iconst 0, []), (.iload_n 3, []), (.iconst (-1), []), (.iconst 0, []), (.sipush 1440, []), (.invokevirtual 116, [214, 1, 2, 830, 831, 832, 0]), (.ifCond .eq 7, [8, 7])]),
  (121, none, 0, [(.iconst 1, []), (.goto 4, [9])]),
  (125, none, 9, [(.iconst 0, [])]),
  (126, none, 0, [(.putfield 31, [2, 12, 380]), (.goto 46, [15])]),
  (132, none, 0, [(.aload_n 0, []), (.aload_n 0, []), (.getfield 31, [2, 12, 380]), (.ifCond .eq 34, [13, 11])]),
  (140, none, 0, [(.aload_n 0, []), (.iconst 0, []), (.iload_n 3, []), (.aload_n 2, []), (.getfield 101, [8, 1, 95]), (.iload_n 3, []), (.iaload, []), (.aload_n 2, []), (.getfield 106, [8, 2, 100]), (.iload_n 3, []), (.iaload, []), (.aload_n 2, []), (.getfield 109, [8, 3, 103]), (.iload_n 3, []), (.iaload, []), (.invokevirtual 116, [214, 1, 2, 830, 831, 832, 0]), (.ifCond .eq 7, [13, 12])]),
  (167, none, 0, [(.iconst 1, []), (.goto 4, [14])]),
  (171, none, 14, [(.iconst 0, [])]),
  (172, none, 15, [(.putfield 31, [2, 12, 380])]),
  (175, none, 0, [(.iinc 3 1, []), (.goto (-140), [1])]),
  (181, none, 17, [(.aload_n 0, []), (.getfield 72, [2, 5, 371]), (.getfield 120, [4, 4, 303]), (.astore_n 3, []), (.iconst 0, []), (.istore 4, [])]),
  (192, some [0, 3, 4], 0, [(.iload 4, []), (.aload_n 0, []), (.getfield 72, [2, 5, 371]), (.getfield 125, [4, 1, 295]), (.if_icmp .ge 61, [23, 18])]),
  (204, none, 0, [(.aload_n 0, []), (.aload_n 0, []), (.getfield 31, [2, 12, 380]), (.ifCond .eq 43, [21, 19])]),
  (212, none, 0, [(.aload_n 0, []), (.iconst 0, []), (.aload_n 3, []), (.getfield 128, [8, 0, 91]), (.iload 4, []), (.iaload, []), (.aload_n 3, []), (.getfield 101, [8, 1, 95]), (.iload 4, []), (.iaload, []), (.aload_n 3, []), (.getfield 106, [8, 2, 100]), (.iload 4, []), (.iaload, []), (.aload_n 3, []), (.getfield 109, [8, 3, 103]), (.iload 4, []), (.iaload, []), (.invokevirtual 116, [214, 1, 2, 830, 831, 832, 0]), (.ifCond .eq 7, [21, 20])]),
  (248, none, 0, [(.iconst 1, []), (.goto 4, [22])]),
  (252, none, 22, [(.iconst 0, [])]),
  (253, none, 0, [(.putfield 31, [2, 12, 380]), (.iinc 4 1, []), (.goto (-67), [17])]),
  (262, none, 0, [(.return_, [])])])
def pm_X2_minute : sm_M := (yX2_minute, prog_4_method_15_code, 4, (some .int), 3, 0, 0, [938, 10, 1], [
  (0, some [0, 1, 2, 3], 0, [(.aload_n 0, []), (.iload_n 1, []), (.iload_n 2, []), (.iconst (-1), []), (.iload_n 3, []), (.invokevirtual 212, [217, 1, 2, 939, 940, 941, 0]), (.ireturn, [])])])
def pm_X2_minuteWith : sm_M := (yX2_minuteWith, prog_4_method_18_code, 8, (some .int), 4, 0, 0, [1225, 10, 1], [
  (0, some [0, 1, 2, 3, 4], 1, [(.aload_n 0, []), (.iload_n 1, []), (.iload_n 2, []), (.iload 4, []), (.invokevirtual 220, [224, 1, 2, 1226, 936, 937, 0]), (.istore 5, []), (.iconst 0, []), (.istore 6, [])]),
  (13, some [0, 1, 2, 3, 4, 5, 6], 0, [(.iload 6, []), (.aload_n 0, []), (.getfield 68, [2, 4, 370]), (.getfield 91, [10, 2, 127]), (.if_icmp .ge 58, [8, 2])]),
  (25, none, 0, [(.aload_n 3, []), (.iload 6, []), (.iaload, []), (.iconst (-1), []), (.if_icmp .eq 44, [7, 3])]),
  (33, none, 0, [(.aload_n 3, []), (.iload 6, []), (.iaload, []), (.aload_n 0, []), (.iload_n 1, []), (.iload_n 2, []), (.iload 6, []), (.iload 4, []), (.invokevirtual 212, [217, 1, 2, 939, 940, 941, 0]), (.iadd, []), (.istore 7, []), (.iload 4, []), (.ifCond .eq 13, [5, 4])]),
  (55, none, 0, [(.iload 5, []), (.iload 7, []), (.invokestatic 201, [2, 866, 867]), (.goto 10, [6])]),
  (65, none, 6, [(.iload 5, []), (.iload 7, []), (.invokestatic 206, [1, 869, 870])]),
  (72, none, 7, [(.istore 5, [])]),
  (74, none, 0, [(.iinc 6 1, []), (.goto (-64), [1])]),
  (80, none, 0, [(.iload 5, []), (.ireturn, [])])])
def pm_X2_noteWay : sm_M := (yX2_noteWay, prog_4_method_13_code, 2, none, 1, 0, 0, [853, 10, 1], [
  (0, some [0, 1], 0, [(.aload_n 1, []), (.ifnull 23, [2, 1])]),
  (4, none, 2, [(.aload_n 1, []), (.aload_n 0, []), (.getfield 37, [2, 14, 385]), (.aload_n 0, []), (.getfield 61, [2, 2, 368]), (.aload_n 0, []), (.getfield 65, [2, 3, 369]), (.aload_n 0, []), (.getfield 28, [2, 11, 377]), (.invokevirtual 193, [208, 1, 1, 854, 855, 856, 0])]),
  (24, none, 0, [(.aload_n 0, []), (.getfield 24, [2, 10, 376]), (.ifCond .eq 68, [4, 3])]),
  (31, none, 4, [(.aload_n 0, []), (.aload_n 0, []), (.getfield 43, [2, 16, 392]), (.aload_n 0, []), (.getfield 54, [2, 0, 365]), (.aload_n 0, []), (.getfield 28, [2, 11, 377]), (.iconst 0, []), (.aload_n 0, []), (.getfield 68, [2, 4, 370]), (.getfield 91, [10, 2, 127]), (.iconst 1, []), (.iadd, []), (.invokevirtual 197, [247, 1, 5, 858, 859, 860, 0]), (.ineg, []), (.invokestatic 201, [2, 866, 867]), (.putfield 43, [2, 16, 392]), (.aload_n 0, []), (.aload_n 0, []), (.getfield 46, [2, 17, 394]), (.aload_n 0, []), (.getfield 54, [2, 0, 365]), (.aload_n 0, []), (.getfield 28, [2, 11, 377]), (.aload_n 0, []), (.getfield 68, [2, 4, 370]), (.getfield 91, [10, 2, 127]), (.iconst 1, []), (.iadd, []), (.iconst 0, []), (.invokevirtual 197, [247, 1, 5, 858, 859, 860, 0]), (.invokestatic 206, [1, 869, 870]), (.putfield 46, [2, 17, 394])]),
  (96, none, 0, [(.aload_n 0, []), (.dup, []), (.getfield 37, [2, 14, 385]), (.iconst 1, []), (.iadd, []), (.putfield 37, [2, 14, 385]), (.return_, [])])])
def pm_X2_push : sm_M := (yX2_push, prog_4_method_10_code, 9, (some .boolean), 3, 0, 0, [884, 10, 1], [
  (0, some [0, 1, 2, 3], 0, [(.aload_n 0, []), (.getfield 54, [2, 0, 365]), (.iload_n 1, []), (.invokevirtual 155, [240, 1, 5, 885, 886, 887, 0]), (.iload_n 2, []), (.bipush 100, []), (.if_icmp .lt 13, [2, 1])]),
  (14, none, 0, [(.aload_n 0, []), (.iload_n 1, []), (.iconst 1, []), (.iadd, []), (.iload_n 2, []), (.iload_n 3, []), (.invokevirtual 158, [228, 1, 2, 892, 894, 2816, 0]), (.ireturn, [])]),
  (24, none, 3, [(.aload_n 0, []), (.getfield 68, [2, 4, 370]), (.getfield 162, [10, 14, 167]), (.astore 4, []), (.aload_n 0, []), (.getfield 15, [2, 7, 373]), (.iload_n 2, []), (.ishr, []), (.iconst 1, []), (.iand, []), (.aload_n 0, []), (.getfield 18, [2, 8, 374]), (.imul, []), (.istore 5, []), (.aload_n 0, []), (.getfield 68, [2, 4, 370]), (.iload_n 2, []), (.iload_n 3, []), (.invokevirtual 165, [17, 1, 10, 896, 724, 725, 0]), (.istore 6, []), (.iload 6, []), (.aload_n 0, []), (.getfield 68, [2, 4, 370]), (.iload_n 2, []), (.iload_n 3, []), (.invokevirtual 168, [19, 1, 10, 897, 728, 729, 0]), (.iadd, []), (.istore 7, []), (.iload 6, []), (.istore 8, [])]),
  (77, some [0, 1, 4, 5, 7, 8], 0, [(.iload 8, []), (.iload 7, []), (.if_icmp .ge 59, [7, 4])]),
  (84, none, 0, [(.aload_n 0, []), (.iload_n 1, []), (.iconst 1, []), (.iadd, []), (.aload 4, []), (.getfield 128, [8, 0, 91]), (.iload 8, []), (.iaload, []), (.aload 4, []), (.getfield 101, [8, 1, 95]), (.iload 8, []), (.iaload, []), (.aload 4, []), (.getfield 106, [8, 2, 100]), (.iload 8, []), (.iaload, []), (.iload 5, []), (.isub, []), (.aload 4, []), (.getfield 109, [8, 3, 103]), (.iload 8, []), (.iaload, []), (.iload 5, []), (.iadd, []), (.invokevirtual 116, [214, 1, 2, 830, 831, 832, 0]), (.ifCond .ne 5, [6, 5])]),
  (132, none, 0, [(.iconst 0, []), (.ireturn, [])]),
  (134, none, 0, [(.iinc 8 1, []), (.goto (-60), [3])]),
  (140, none, 0, [(.iconst 1, []), (.ireturn, [])])])
def pm_X2_pushMove : sm_M := (yX2_pushMove, prog_4_method_11_code, 7, (some .boolean), 3, 0, 0, [895, 10, 1], [
  (0, some [0, 1, 2, 3], 0, [(.aload_n 0, []), (.iload_n 2, []), (.invokevirtual 144, [230, 1, 2, 876, 878, 2575, 0]), (.istore 4, []), (.iload_n 2, []), (.sipush 200, []), (.isub, []), (.istore 5, []), (.aload_n 0, []), (.getfield 68, [2, 4, 370]), (.getfield 91, [10, 2, 127]), (.istore 6, []), (.iload_n 2, []), (.sipush 200, []), (.if_icmp .ge 31, [2, 1])]),
  (30, none, 2, [(.aload_n 0, []), (.getfield 68, [2, 4, 370]), (.getfield 171, [10, 16, 174]), (.iload_n 2, []), (.bipush 100, []), (.isub, []), (.iaload, []), (.istore 5, []), (.aload_n 0, []), (.getfield 68, [2, 4, 370]), (.getfield 174, [10, 17, 177]), (.iload_n 2, []), (.bipush 100, []), (.isub, []), (.iaload, []), (.istore 6, [])]),
  (58, none, 0, [(.iload_n 3, []), (.ifCond .ne 23, [4, 3])]),
  (62, none, 0, [(.aload_n 0, []), (.getfield 54, [2, 0, 365]), (.iload_n 1, []), (.iload 5, []), (.iconst 1, []), (.iadd, []), (.iload 6, []), (.iconst 1, []), (.iadd, []), (.iload 4, []), (.ineg, []), (.invokevirtual 137, [248, 1, 5, 834, 835, 836, 0]), (.ireturn, [])]),
  (82, none, 0, [(.aload_n 0, []), (.getfield 54, [2, 0, 365]), (.iload_n 1, []), (.iload 6, []), (.iconst 1, []), (.iadd, []), (.iload 5, []), (.iconst 1, []), (.iadd, []), (.iload 4, []), (.ineg, []), (.invokevirtual 137, [248, 1, 5, 834, 835, 836, 0]), (.ireturn, [])])])
def pm_X2_takes : sm_M := (yX2_takes, prog_4_method_17_code, 4, (some .boolean), 2, 0, 0, [1221, 10, 1], [
  (0, some [0, 1, 2], 1, [(.iconst 0, []), (.istore_n 3, [])]),
  (2, some [0, 1, 2, 3], 0, [(.iload_n 3, []), (.aload_n 0, []), (.getfield 68, [2, 4, 370]), (.getfield 91, [10, 2, 127]), (.if_icmp .ge 49, [8, 2])]),
  (13, none, 0, [(.aload_n 2, []), (.iload_n 3, []), (.iaload, []), (.iconst (-1), []), (.if_icmp .ne 6, [4, 3])]),
  (20, none, 0, [(.goto 33, [7])]),
  (23, none, 0, [(.aload_n 0, []), (.iload_n 1, []), (.iload_n 3, []), (.aload_n 2, []), (.iconst 1, []), (.invokevirtual 216, [225, 1, 2, 1222, 1223, 1224, 0]), (.aload_n 2, []), (.iload_n 3, []), (.iaload, []), (.if_icmp .lt 17, [6, 5])]),
  (37, none, 0, [(.aload_n 0, []), (.iload_n 1, []), (.iload_n 3, []), (.aload_n 2, []), (.iconst 0, []), (.invokevirtual 216, [225, 1, 2, 1222, 1223, 1224, 0]), (.aload_n 2, []), (.iload_n 3, []), (.iaload, []), (.if_icmp .le 5, [7, 6])]),
  (51, none, 0, [(.iconst 0, []), (.ireturn, [])]),
  (53, none, 0, [(.iinc 3 1, []), (.goto (-54), [1])]),
  (59, none, 0, [(.iconst 1, []), (.ireturn, [])])])
def pm_X2_walkOf : sm_M := (yX2_walkOf, prog_4_method_9_code, 2, (some .int), 1, 0, 0, [879, 10, 1], [
  (0, some [0, 1], 0, [(.iload_n 1, []), (.sipush 200, []), (.if_icmp .lt 28, [2, 1])]),
  (7, none, 0, [(.aload_n 0, []), (.getfield 68, [2, 4, 370]), (.aload_n 0, []), (.getfield 68, [2, 4, 370]), (.getfield 134, [10, 9, 151]), (.iload_n 1, []), (.sipush 200, []), (.isub, []), (.iaload, []), (.aload_n 0, []), (.getfield 21, [2, 9, 375]), (.invokevirtual 148, [21, 1, 10, 880, 736, 737, 0]), (.ireturn, [])]),
  (32, none, 0, [(.aload_n 0, []), (.getfield 68, [2, 4, 370]), (.getfield 152, [10, 18, 180]), (.iload_n 1, []), (.bipush 100, []), (.isub, []), (.iaload, []), (.ireturn, [])])])
def pm_X2_widen : sm_M := (yX2_widen, prog_4_method_6_code, 3, none, 2, 0, 0, [1251, 10, 1], [
  (0, some [0, 1, 2], 0, [(.aload_n 0, []), (.iload_n 1, []), (.putfield 15, [2, 7, 373]), (.aload_n 0, []), (.iload_n 2, []), (.putfield 18, [2, 8, 374]), (.return_, [])])])
def pm_X3_clear : sm_M := (yX3_clear, prog_5_method_2_code, 1, none, 0, 0, 0, [632, 4, 1], [
  (0, some [0], 0, [(.aload_n 0, []), (.getfield 9, [3, 0, 64]), (.iconst 0, []), (.invokestatic 25, [299, 0, 0, 633, 118, 0, 0]), (.aload_n 0, []), (.iconst 0, []), (.putfield 15, [3, 1, 65]), (.return_, [])])])
def pm_X3_faultOf : sm_M := (yX3_faultOf, prog_5_method_4_code, 5, (some .int), 3, 0, 0, [637, 4, 1], [
  (0, some [0, 1, 2, 3], 0, [(.iload_n 2, []), (.bipush 9, []), (.if_icmp .eq 9, [2, 1])]),
  (6, none, 0, [(.iload_n 2, []), (.bipush 13, []), (.if_icmp .ne 7, [3, 2])]),
  (12, none, 0, [(.iconst 1, []), (.goto 4, [4])]),
  (16, none, 4, [(.iconst 0, [])]),
  (17, some [0, 1, 2, 3], 0, [(.istore 4, []), (.iload_n 1, []), (.iload_n 2, []), (.invokestatic 36, [234, 0, 0, 638, 639, 0, 0]), (.iconst (-1), []), (.if_icmp .eq 17, [7, 5])]),
  (28, none, 0, [(.iload 4, []), (.ifCond .eq 14, [8, 6])]),
  (33, none, 0, [(.aload_n 0, []), (.getfield 15, [3, 1, 65]), (.bipush 12, []), (.if_icmp .ne 5, [8, 7])]),
  (42, none, 0, [(.iconst 1, []), (.ireturn, [])]),
  (44, none, 0, [(.iload_n 2, []), (.bipush 21, []), (.if_icmp .ne 5, [10, 9])]),
  (50, none, 0, [(.iconst 0, []), (.ireturn, [])]),
  (52, none, 0, [(.iload_n 3, []), (.sipush 500, []), (.if_icmp .ge 12, [12, 11])]),
  (59, none, 0, [(.aload_n 0, []), (.iload_n 1, []), (.iload_n 2, []), (.invokevirtual 40, [235, 1, 3, 643, 645, 2307, 0]), (.ifCond .ne 7, [13, 12])]),
  (68, none, 0, [(.iconst 2, []), (.goto 4, [14])]),
  (72, none, 14, [(.iconst 0, [])]),
  (73, none, 0, [(.ireturn, [])])])
def pm_X3_follow : sm_M := (yX3_follow, prog_5_method_3_code, 3, (some .int), 2, 0, 0, [640, 4, 1], [
  (0, some [0, 1], 1, [(.iconst 0, []), (.istore_n 2, [])]),
  (2, some [0, 1, 2], 0, [(.iload_n 2, []), (.iconst 2, []), (.iadd, []), (.getstatic 33, [1001, 641]), (.arraylength, []), (.if_icmp .ge 37, [6, 2])]),
  (12, none, 0, [(.getstatic 33, [1001, 641]), (.iload_n 2, []), (.iaload, []), (.iload_n 0, []), (.if_icmp .ne 22, [5, 3])]),
  (21, none, 0, [(.getstatic 33, [1001, 641]), (.iload_n 2, []), (.iconst 1, []), (.iadd, []), (.iaload, []), (.iload_n 1, []), (.if_icmp .ne 11, [5, 4])]),
  (32, none, 0, [(.getstatic 33, [1001, 641]), (.iload_n 2, []), (.iconst 2, []), (.iadd, []), (.iaload, []), (.ireturn, [])]),
  (40, none, 0, [(.iinc 2 3, []), (.goto (-41), [1])]),
  (46, none, 0, [(.iconst (-1), []), (.ireturn, [])])])
def pm_X3_hasRoom : sm_M := (yX3_hasRoom, prog_5_method_5_code, 4, (some .boolean), 2, 0, 0, [646, 4, 1], [
  (0, some [0, 1, 2], 0, [(.iload_n 1, []), (.ifCond .ne 70, [9, 1])]),
  (4, none, 0, [(.iload_n 2, []), (.aload_n 0, []), (.getfield 9, [3, 0, 64]), (.arraylength, []), (.if_icmp .ge 61, [9, 2])]),
  (13, none, 0, [(.iload_n 2, []), (.bipush 8, []), (.if_icmp .ne 8, [4, 3])]),
  (19, none, 0, [(.bipush 6, []), (.goto 4, [5])]),
  (24, none, 5, [(.iload_n 2, [])]),
  (25, none, 0, [(.istore_n 3, []), (.aload_n 0, []), (.iload_n 2, []), (.putfield 15, [3, 1, 65]), (.aload_n 0, []), (.iconst 1, []), (.putfield 19, [3, 2, 66]), (.aload_n 0, []), (.iconst 1, []), (.putfield 22, [3, 3, 67]), (.aload_n 0, []), (.getfield 9, [3, 0, 64]), (.iload_n 3, []), (.dup2, []), (.iaload, []), (.iconst 1, []), (.iadd, []), (.iastore, []), (.aload_n 0, []), (.getfield 9, [3, 0, 64]), (.iload_n 3, []), (.iaload, []), (.getstatic 44, [1002, 647]), (.iload_n 3, []), (.iaload, []), (.if_icmp .gt 7, [7, 6])]),
  (65, none, 0, [(.iconst 1, []), (.goto 4, [8])]),
  (69, none, 8, [(.iconst 0, [])]),
  (70, none, 0, [(.ireturn, [])]),
  (71, none, 0, [(.iload_n 2, []), (.bipush 9, []), (.if_icmp .ne 21, [11, 10])]),
  (77, none, 0, [(.aload_n 0, []), (.dup, []), (.getfield 19, [3, 2, 66]), (.iconst 1, []), (.iadd, []), (.putfield 19, [3, 2, 66]), (.aload_n 0, []), (.iconst 1, []), (.putfield 22, [3, 3, 67]), (.goto 19, [13])]),
  (95, none, 0, [(.iload_n 2, []), (.bipush 13, []), (.if_icmp .ne 13, [13, 12])]),
  (101, none, 13, [(.aload_n 0, []), (.dup, []), (.getfield 22, [3, 3, 67]), (.iconst 1, []), (.iadd, []), (.putfield 22, [3, 3, 67])]),
  (111, some [0], 0, [(.aload_n 0, []), (.getfield 19, [3, 2, 66]), (.iconst 4, []), (.if_icmp .gt 15, [16, 14])]),
  (119, none, 0, [(.aload_n 0, []), (.getfield 22, [3, 3, 67]), (.iconst 3, []), (.if_icmp .gt 7, [16, 15])]),
  (127, none, 0, [(.iconst 1, []), (.goto 4, [17])]),
  (131, none, 17, [(.iconst 0, [])]),
  (132, some [], 0, [(.ireturn, [])])])
def pm_X3_init : sm_M := (yX3_init, prog_5_method_1_code, 1, none, 0, 1, 15, [62, 4, 1], [
  (0, some [0], 0, [(.aload_n 0, []), (.invokespecial 3, [63, 24, 25]), (.aload_n 0, []), (.bipush 15, []), (.newarray .int, [0, 56]), (.putfield 9, [3, 0, 64]), (.aload_n 0, []), (.iconst 0, []), (.putfield 15, [3, 1, 65]), (.aload_n 0, []), (.iconst 0, []), (.putfield 19, [3, 2, 66]), (.aload_n 0, []), (.iconst 0, []), (.putfield 22, [3, 3, 67]), (.return_, [])])])
def pm_X4_clear : sm_M := (yX4_clear, prog_6_method_2_code, 1, none, 0, 0, 0, [289, 8, 1], [
  (0, some [0], 0, [(.aload_n 0, []), (.iconst 0, []), (.putfield 30, [4, 0, 291]), (.aload_n 0, []), (.iconst 0, []), (.putfield 34, [4, 1, 294]), (.aload_n 0, []), (.getfield 9, [4, 2, 297]), (.iconst (-1), []), (.invokestatic 37, [299, 0, 0, 290, 118, 0, 0]), (.aload_n 0, []), (.getfield 15, [4, 3, 299]), (.iconst (-1), []), (.invokestatic 37, [299, 0, 0, 290, 118, 0, 0]), (.return_, [])])])
def pm_X4_init : sm_M := (yX4_init, prog_6_method_1_code, 1, none, 0, 7, 93, [282, 8, 1], [
  (0, some [0], 0, [(.aload_n 0, []), (.invokespecial 3, [283, 24, 25]), (.aload_n 0, []), (.bipush 10, []), (.newarray .int, [0, 56]), (.putfield 9, [4, 2, 297]), (.aload_n 0, []), (.bipush 55, []), (.newarray .int, [0, 56]), (.putfield 15, [4, 3, 299]), (.aload_n 0, []), (.new 18, [8, 284, 84, 6]), (.dup, []), (.bipush 6, []), (.invokespecial 20, [283, 1, 8, 285, 86, 0, 0]), (.putfield 23, [4, 4, 302]), (.aload_n 0, []), (.invokevirtual 27, [237, 1, 4, 286, 287, 288, 0]), (.return_, [])])])
def pm_X5_blank : sm_M := (yX5_blank, prog_7_method_4_code, 4, none, 1, 0, 0, [821, 11, 1], [
  (0, some [0, 1], 0, [(.iload_n 1, []), (.iconst 1, []), (.if_icmp .lt 12, [2, 1])]),
  (5, none, 0, [(.iload_n 1, []), (.aload_n 0, []), (.getfield 22, [5, 1, 347]), (.arraylength, []), (.if_icmp .le 4, [3, 2])]),
  (14, none, 0, [(.return_, [])]),
  (15, none, 4, [(.aload_n 0, []), (.iload_n 1, []), (.putfield 9, [5, 4, 350]), (.aload_n 0, []), (.iload_n 1, []), (.iload_n 1, []), (.imul, []), (.putfield 15, [5, 5, 351]), (.iconst 0, []), (.istore_n 2, [])]),
  (29, some [0, 2], 0, [(.iload_n 2, []), (.aload_n 0, []), (.getfield 9, [5, 4, 350]), (.if_icmp .ge 75, [13, 5])]),
  (37, none, 6, [(.aload_n 0, []), (.getfield 22, [5, 1, 347]), (.iload_n 2, []), (.iload_n 2, []), (.iastore, []), (.aload_n 0, []), (.getfield 25, [5, 2, 348]), (.iload_n 2, []), (.iconst 0, []), (.iastore, []), (.aload_n 0, []), (.getfield 28, [5, 3, 349]), (.iload_n 2, []), (.iconst 0, []), (.iastore, []), (.iconst 0, []), (.istore_n 3, [])]),
  (60, some [0, 2, 3], 0, [(.iload_n 3, []), (.aload_n 0, []), (.getfield 9, [5, 4, 350]), (.if_icmp .ge 38, [12, 7])]),
  (68, none, 0, [(.aload_n 0, []), (.getfield 18, [5, 0, 346]), (.iload_n 2, []), (.aload_n 0, []), (.getfield 9, [5, 4, 350]), (.imul, []), (.iload_n 3, []), (.iadd, []), (.iload_n 2, []), (.ifCond .eq 8, [9, 8])]),
  (84, none, 0, [(.iload_n 2, []), (.iload_n 3, []), (.if_icmp .ne 7, [10, 9])]),
  (89, none, 0, [(.iconst 0, []), (.goto 6, [11])]),
  (93, none, 11, [(.sipush 1440, [])]),
  (96, none, 0, [(.iastore, []), (.iinc 3 1, []), (.goto (-40), [6])]),
  (103, none, 0, [(.iinc 2 1, []), (.goto (-77), [4])]),
  (109, none, 0, [(.return_, [])])])
def pm_X5_copyUp : sm_M := (yX5_copyUp, prog_7_method_6_code, 2, none, 1, 0, 0, [888, 11, 1], [
  (0, some [0, 1], 0, [(.aload_n 0, []), (.iload_n 1, []), (.invokevirtual 35, [241, 1, 5, 862, 864, 2573, 0]), (.ifCond .eq 42, [3, 1])]),
  (8, none, 0, [(.aload_n 0, []), (.iload_n 1, []), (.iconst 1, []), (.iadd, []), (.invokevirtual 35, [241, 1, 5, 862, 864, 2573, 0]), (.ifCond .eq 32, [3, 2])]),
  (18, none, 3, [(.aload_n 0, []), (.getfield 18, [5, 0, 346]), (.iload_n 1, []), (.aload_n 0, []), (.getfield 15, [5, 5, 351]), (.imul, []), (.aload_n 0, []), (.getfield 18, [5, 0, 346]), (.iload_n 1, []), (.iconst 1, []), (.iadd, []), (.aload_n 0, []), (.getfield 15, [5, 5, 351]), (.imul, []), (.aload_n 0, []), (.getfield 15, [5, 5, 351]), (.invokestatic 38, [0, 889, 891, 890, 16])]),
  (47, none, 0, [(.return_, [])])])
def pm_X5_hasLevel : sm_M := (yX5_hasLevel, prog_7_method_2_code, 2, (some .boolean), 1, 0, 0, [865, 11, 1], [
  (0, some [0, 1], 0, [(.iload_n 1, []), (.ifCond .lt 23, [3, 1])]),
  (4, none, 0, [(.iload_n 1, []), (.iconst 1, []), (.iadd, []), (.aload_n 0, []), (.getfield 15, [5, 5, 351]), (.imul, []), (.aload_n 0, []), (.getfield 18, [5, 0, 346]), (.arraylength, []), (.if_icmp .gt 7, [3, 2])]),
  (20, none, 0, [(.iconst 1, []), (.goto 4, [4])]),
  (24, none, 4, [(.iconst 0, [])]),
  (25, none, 0, [(.ireturn, [])])])
def pm_X5_hasNode : sm_M := (yX5_hasNode, prog_7_method_3_code, 2, (some .boolean), 1, 0, 0, [829, 11, 1], [
  (0, some [0, 1], 0, [(.iload_n 1, []), (.ifCond .lt 15, [3, 1])]),
  (4, none, 0, [(.iload_n 1, []), (.aload_n 0, []), (.getfield 9, [5, 4, 350]), (.if_icmp .ge 7, [3, 2])]),
  (12, none, 0, [(.iconst 1, []), (.goto 4, [4])]),
  (16, none, 4, [(.iconst 0, [])]),
  (17, none, 0, [(.ireturn, [])])])
def pm_X5_init_6809 : sm_M := (yX5_init, prog_7_method_1_code, 3, none, 2, 4, 6809, [344, 11, 1], [
  (0, some [0, 1, 2], 0, [(.aload_n 0, []), (.invokespecial 3, [345, 24, 25]), (.aload_n 0, []), (.iconst 1, []), (.putfield 9, [5, 4, 350]), (.aload_n 0, []), (.iconst 1, []), (.putfield 15, [5, 5, 351]), (.aload_n 0, []), (.iload_n 1, []), (.iload_n 2, []), (.imul, []), (.iload_n 2, []), (.imul, []), (.newarray .int, [0, 56]), (.putfield 18, [5, 0, 346]), (.aload_n 0, []), (.iload_n 2, []), (.newarray .int, [0, 56]), (.putfield 22, [5, 1, 347]), (.aload_n 0, []), (.iload_n 2, []), (.newarray .int, [0, 56]), (.putfield 25, [5, 2, 348]), (.aload_n 0, []), (.iload_n 2, []), (.newarray .int, [0, 56]), (.putfield 28, [5, 3, 349]), (.return_, [])])])
def pm_X5_init_7414 : sm_M := (yX5_init, prog_7_method_1_code, 3, none, 2, 4, 7414, [344, 11, 1], [
  (0, some [0, 1, 2], 0, [(.aload_n 0, []), (.invokespecial 3, [345, 24, 25]), (.aload_n 0, []), (.iconst 1, []), (.putfield 9, [5, 4, 350]), (.aload_n 0, []), (.iconst 1, []), (.putfield 15, [5, 5, 351]), (.aload_n 0, []), (.iload_n 1, []), (.iload_n 2, []), (.imul, []), (.iload_n 2, []), (.imul, []), (.newarray .int, [0, 56]), (.putfield 18, [5, 0, 346]), (.aload_n 0, []), (.iload_n 2, []), (.newarray .int, [0, 56]), (.putfield 22, [5, 1, 347]), (.aload_n 0, []), (.iload_n 2, []), (.newarray .int, [0, 56]), (.putfield 25, [5, 2, 348]), (.aload_n 0, []), (.iload_n 2, []), (.newarray .int, [0, 56]), (.putfield 28, [5, 3, 349]), (.return_, [])])])
def pm_X5_init_9540 : sm_M := (yX5_init, prog_7_method_1_code, 3, none, 2, 4, 9540, [344, 11, 1], [
  (0, some [0, 1, 2], 0, [(.aload_n 0, []), (.invokespecial 3, [345, 24, 25]), (.aload_n 0, []), (.iconst 1, []), (.putfield 9, [5, 4, 350]), (.aload_n 0, []), (.iconst 1, []), (.putfield 15, [5, 5, 351]), (.aload_n 0, []), (.iload_n 1, []), (.iload_n 2, []), (.imul, []), (.iload_n 2, []), (.imul, []), (.newarray .int, [0, 56]), (.putfield 18, [5, 0, 346]), (.aload_n 0, []), (.iload_n 2, []), (.newarray .int, [0, 56]), (.putfield 22, [5, 1, 347]), (.aload_n 0, []), (.iload_n 2, []), (.newarray .int, [0, 56]), (.putfield 25, [5, 2, 348]), (.aload_n 0, []), (.iload_n 2, []), (.newarray .int, [0, 56]), (.putfield 28, [5, 3, 349]), (.return_, [])])])
def pm_X5_loose : sm_M := (yX5_loose, prog_7_method_5_code, 5, none, 4, 0, 0, [825, 11, 1], [
  (0, some [0, 1, 2, 3, 4], 0, [(.aload_n 0, []), (.iload_n 1, []), (.invokevirtual 31, [242, 1, 5, 826, 828, 2569, 0]), (.ifCond .eq 33, [3, 1])]),
  (8, none, 0, [(.aload_n 0, []), (.iload_n 2, []), (.invokevirtual 31, [242, 1, 5, 826, 828, 2569, 0]), (.ifCond .eq 25, [3, 2])]),
  (16, none, 3, [(.aload_n 0, []), (.getfield 22, [5, 1, 347]), (.iload_n 1, []), (.iload_n 2, []), (.iastore, []), (.aload_n 0, []), (.getfield 25, [5, 2, 348]), (.iload_n 1, []), (.iload_n 3, []), (.iastore, []), (.aload_n 0, []), (.getfield 28, [5, 3, 349]), (.iload_n 1, []), (.iload 4, []), (.iastore, [])]),
  (38, none, 0, [(.return_, [])])])
def pm_X5_reach : sm_M := (yX5_reach, prog_7_method_7_code, 4, (some .int), 3, 0, 0, [861, 11, 1], [
  (0, some [0, 1, 2, 3], 0, [(.aload_n 0, []), (.iload_n 1, []), (.invokevirtual 35, [241, 1, 5, 862, 864, 2573, 0]), (.ifCond .eq 19, [3, 1])]),
  (8, none, 0, [(.aload_n 0, []), (.iload_n 2, []), (.invokevirtual 31, [242, 1, 5, 826, 828, 2569, 0]), (.ifCond .eq 11, [3, 2])]),
  (16, none, 0, [(.aload_n 0, []), (.iload_n 3, []), (.invokevirtual 31, [242, 1, 5, 826, 828, 2569, 0]), (.ifCond .ne 5, [4, 3])]),
  (24, none, 0, [(.iconst 0, []), (.ireturn, [])]),
  (26, none, 0, [(.aload_n 0, []), (.getfield 18, [5, 0, 346]), (.iload_n 1, []), (.aload_n 0, []), (.getfield 15, [5, 5, 351]), (.imul, []), (.iload_n 2, []), (.aload_n 0, []), (.getfield 9, [5, 4, 350]), (.imul, []), (.iadd, []), (.iload_n 3, []), (.iadd, []), (.iaload, []), (.ireturn, [])])])
def pm_X5_tighten : sm_M := (yX5_tighten, prog_7_method_8_code, 14, (some .boolean), 4, 0, 0, [837, 11, 1], [
  (0, some [0, 1, 2, 3, 4], 0, [(.iload_n 1, []), (.ifCond .lt 23, [3, 1])]),
  (4, none, 0, [(.iload_n 1, []), (.iconst 1, []), (.iadd, []), (.aload_n 0, []), (.getfield 15, [5, 5, 351]), (.imul, []), (.aload_n 0, []), (.getfield 18, [5, 0, 346]), (.arraylength, []), (.if_icmp .gt 7, [3, 2])]),
  (20, none, 0, [(.iconst 1, []), (.goto 4, [4])]),
  (24, none, 4, [(.iconst 0, [])]),
  (25, some [0, 1, 2, 3, 4], 0, [(.istore 5, []), (.iload 5, []), (.ifCond .eq 27, [9, 5])]),
  (32, none, 0, [(.iload_n 2, []), (.ifCond .lt 23, [9, 6])]),
  (36, none, 0, [(.iload_n 2, []), (.aload_n 0, []), (.getfield 9, [5, 4, 350]), (.if_icmp .ge 15, [9, 7])]),
  (44, none, 0, [(.iload_n 3, []), (.ifCond .lt 11, [9, 8])]),
  (48, none, 0, [(.iload_n 3, []), (.aload_n 0, []), (.getfield 9, [5, 4, 350]), (.if_icmp .lt 5, [10, 9])]),
  (56, none, 0, [(.iconst 0, []), (.ireturn, [])]),
  (58, none, 0, [(.iload_n 2, []), (.iload_n 3, []), (.if_icmp .ne 14, [15, 11])]),
  (63, none, 0, [(.iload 4, []), (.ifCond .lt 7, [13, 12])]),
  (68, none, 0, [(.iconst 1, []), (.goto 4, [14])]),
  (72, none, 14, [(.iconst 0, [])]),
  (73, none, 0, [(.ireturn, [])]),
  (74, none, 16, [(.iload 4, []), (.aload_n 0, []), (.getfield 28, [5, 3, 349]), (.iload_n 2, []), (.iaload, []), (.isub, []), (.aload_n 0, []), (.getfield 25, [5, 2, 348]), (.iload_n 3, []), (.iaload, []), (.iadd, []), (.istore 6, []), (.iload_n 1, []), (.aload_n 0, []), (.getfield 15, [5, 5, 351]), (.imul, []), (.istore 7, []), (.aload_n 0, []), (.getfield 22, [5, 1, 347]), (.iload_n 2, []), (.iaload, []), (.istore 8, []), (.aload_n 0, []), (.getfield 22, [5, 1, 347]), (.iload_n 3, []), (.iaload, []), (.istore 9, []), (.iload 7, []), (.iload 9, []), (.aload_n 0, []), (.getfield 9, [5, 4, 350]), (.imul, []), (.iadd, []), (.istore 10, []), (.aload_n 0, []), (.getfield 18, [5, 0, 346]), (.iload 10, []), (.iload 8, []), (.iadd, []), (.iaload, [])]),
  (138, none, 0, [(.iload 6, []), (.iadd, []), (.ifCond .ge 5, [18, 17])]),
  (144, none, 0, [(.iconst 0, []), (.ireturn, [])]),
  (146, none, 0, [(.aload_n 0, []), (.getfield 18, [5, 0, 346]), (.iload 7, []), (.iload 8, []), (.aload_n 0, []), (.getfield 9, [5, 4, 350]), (.imul, []), (.iadd, []), (.iload 9, []), (.iadd, []), (.iaload, []), (.iload 6, []), (.if_icmp .gt 5, [20, 19])]),
  (169, none, 0, [(.iconst 1, []), (.ireturn, [])]),
  (171, none, 21, [(.iconst 0, []), (.istore 11, [])]),
  (174, some [0, 6, 7, 8, 9, 10, 11], 0, [(.iload 11, []), (.aload_n 0, []), (.getfield 9, [5, 4, 350]), (.if_icmp .ge 61, [25, 22])]),
  (183, none, 0, [(.iload 7, []), (.iload 11, []), (.aload_n 0, []), (.getfield 9, [5, 4, 350]), (.imul, []), (.iadd, []), (.istore 12, []), (.aload_n 0, []), (.getfield 18, [5, 0, 346]), (.iload 12, []), (.iload 8, []), (.iadd, []), (.iaload, []), (.iload 6, []), (.iadd, []), (.istore 13, []), (.iload 13, []), (.aload_n 0, []), (.getfield 18, [5, 0, 346]), (.iload 12, []), (.iload 9, []), (.iadd, []), (.iaload, []), (.if_icmp .ge 13, [24, 23])]),
  (225, none, 24, [(.aload_n 0, []), (.iload 12, []), (.iload 13, []), (.iload 10, []), (.invokevirtual 44, [249, 1, 5, 838, 840, 2570, 0])]),
  (235, none, 0, [(.iinc 11 1, []), (.goto (-64), [21])]),
  (241, none, 0, [(.iconst 1, []), (.ireturn, [])])])
def pm_X5_tightenRow : sm_M := (yX5_tightenRow, prog_7_method_9_code, 6, none, 3, 0, 0, [841, 11, 1], [
  (0, some [0, 1, 2, 3], 1, [(.iconst 0, []), (.istore 4, [])]),
  (3, some [0, 1, 2, 3, 4], 0, [(.iload 4, []), (.aload_n 0, []), (.getfield 9, [5, 4, 350]), (.if_icmp .ge 47, [5, 2])]),
  (12, none, 0, [(.iload_n 2, []), (.aload_n 0, []), (.getfield 18, [5, 0, 346]), (.iload_n 3, []), (.iload 4, []), (.iadd, []), (.iaload, []), (.iadd, []), (.istore 5, []), (.iload 5, []), (.aload_n 0, []), (.getfield 18, [5, 0, 346]), (.iload_n 1, []), (.iload 4, []), (.iadd, []), (.iaload, []), (.if_icmp .ge 14, [4, 3])]),
  (39, none, 4, [(.aload_n 0, []), (.getfield 18, [5, 0, 346]), (.iload_n 1, []), (.iload 4, []), (.iadd, []), (.iload 5, []), (.iastore, [])]),
  (50, none, 0, [(.iinc 4 1, []), (.goto (-50), [1])]),
  (56, none, 0, [(.return_, [])])])
def pm_X6_cheapestGiving : sm_M := (yX6_cheapestGiving, prog_8_method_11_code, 6, (some .int), 1, 0, 0, [1056, 12, 1], [
  (0, some [0, 1], 1, [(.iconst (-1), []), (.istore_n 2, []), (.iconst 0, []), (.istore_n 3, []), (.iconst 0, []), (.istore 4, [])]),
  (7, some [0, 1, 2, 3, 4], 0, [(.iload 4, []), (.aload_n 0, []), (.getfield 26, [6, 5, 447]), (.if_icmp .ge 39, [6, 2])]),
  (16, none, 0, [(.aload_n 1, []), (.aload_n 0, []), (.getfield 19, [6, 3, 443]), (.iload 4, []), (.iaload, []), (.invokevirtual 123, [20, 1, 10, 1057, 1058, 1059, 0]), (.istore 5, []), (.iload_n 2, []), (.iconst (-1), []), (.if_icmp .eq 9, [4, 3])]),
  (34, none, 0, [(.iload 5, []), (.iload_n 3, []), (.if_icmp .ge 9, [5, 4])]),
  (40, none, 5, [(.iload 4, []), (.istore_n 2, []), (.iload 5, []), (.istore_n 3, [])]),
  (46, none, 0, [(.iinc 4 1, []), (.goto (-42), [1])]),
  (52, none, 0, [(.iload_n 2, []), (.ireturn, [])])])
def pm_X6_goThroughAll : sm_M := (yX6_goThroughAll, prog_8_method_3_code, 5, (some .boolean), 3, 0, 0, [1000, 12, 1], [
  (0, some [0, 1, 2, 3], 1, [(.iconst 0, []), (.istore 4, [])]),
  (3, some [0, 1, 2, 3, 4], 0, [(.iload 4, []), (.sipush 1024, []), (.if_icmp .ge 81, [11, 2])]),
  (11, none, 0, [(.iload 4, []), (.iload_n 3, []), (.iconst (-1), []), (.ixor, []), (.iand, []), (.ifCond .eq 6, [4, 3])]),
  (20, none, 0, [(.goto 63, [10])]),
  (23, none, 0, [(.aload_n 0, []), (.getfield 48, [6, 0, 439]), (.aload_n 1, []), (.aload_n 2, []), (.iload 4, []), (.aload_n 1, []), (.getfield 58, [10, 6, 141]), (.ior, []), (.iconst 0, []), (.invokevirtual 74, [213, 1, 2, 1001, 811, 812, 0]), (.aload_n 0, []), (.getfield 48, [6, 0, 439]), (.aconst_null, []), (.iconst 1, []), (.invokevirtual 80, [218, 1, 2, 1002, 847, 848, 0]), (.aload_n 0, []), (.getfield 48, [6, 0, 439]), (.getfield 84, [2, 15, 390]), (.ifCond .eq 5, [6, 5])]),
  (59, none, 0, [(.iconst 0, []), (.ireturn, [])]),
  (61, none, 0, [(.aload_n 0, []), (.getfield 11, [6, 1, 440]), (.iload 4, []), (.aload_n 0, []), (.getfield 48, [6, 0, 439]), (.getfield 85, [2, 14, 387]), (.ifCond .le 7, [8, 7])]),
  (77, none, 0, [(.iconst 1, []), (.goto 4, [9])]),
  (81, none, 9, [(.iconst 0, [])]),
  (82, none, 10, [(.bastore, [])]),
  (83, none, 0, [(.iinc 4 1, []), (.goto (-83), [1])]),
  (89, none, 0, [(.iconst 1, []), (.ireturn, [])])])
def pm_X6_holdTogether : sm_M := (yX6_holdTogether, prog_8_method_8_code, 7, (some .boolean), 2, 0, 0, [1081, 12, 1], [
  (0, some [0, 1, 2], 1, [(.aload_n 0, []), (.getfield 48, [6, 0, 439]), (.getfield 110, [2, 12, 381]), (.istore 4, []), (.iconst 0, []), (.istore 5, []), (.iconst 0, []), (.istore 6, [])]),
  (15, some [0, 1, 2, 4, 5, 6], 0, [(.iload 6, []), (.bipush 55, []), (.if_icmp .ge 62, [7, 2])]),
  (22, none, 0, [(.iload 4, []), (.ifCond .eq 57, [7, 3])]),
  (27, none, 0, [(.aload_n 1, []), (.getfield 113, [4, 3, 300]), (.iload 6, []), (.iaload, []), (.iconst (-1), []), (.if_icmp .eq 40, [6, 4])]),
  (38, none, 0, [(.lload_n 2, []), (.iload 6, []), (.lshr, []), (.lconst 1, []), (.land, []), (.lconst 0, []), (.lcmp, []), (.ifCond .ne 29, [6, 5])]),
  (49, none, 6, [(.aload_n 0, []), (.getfield 48, [6, 0, 439]), (.iload 5, []), (.iload 6, []), (.invokestatic 116, [258, 0, 0, 1082, 1083, 0, 0]), (.aload_n 1, []), (.getfield 113, [4, 3, 300]), (.iload 6, []), (.iaload, []), (.invokevirtual 119, [227, 1, 2, 1085, 882, 883, 0]), (.istore 4, []), (.iinc 5 1, [])]),
  (75, none, 0, [(.iinc 6 1, []), (.goto (-63), [1])]),
  (81, none, 0, [(.iload 4, []), (.ireturn, [])])])
def pm_X6_init : sm_M := (yX6_init, prog_8_method_1_code, 2, none, 1, 4, 1583, [437, 12, 1], [
  (0, some [0, 1], 1, [(.aload_n 0, []), (.invokespecial 3, [438, 24, 25]), (.aload_n 0, []), (.sipush 1024, []), (.newarray .boolean, [2, 484]), (.putfield 11, [6, 1, 440]), (.aload_n 0, []), (.sipush 252, []), (.newarray .int, [0, 56]), (.putfield 15, [6, 2, 441]), (.aload_n 0, []), (.sipush 252, []), (.newarray .int, [0, 56]), (.putfield 19, [6, 3, 443]), (.aload_n 0, []), (.iconst 0, []), (.putfield 22, [6, 4, 445]), (.aload_n 0, []), (.iconst 0, []), (.putfield 26, [6, 5, 447]), (.aload_n 0, []), (.bipush 55, []), (.newarray .int, [0, 56]), (.putfield 29, [6, 6, 449]), (.aload_n 0, []), (.iconst 0, []), (.putfield 32, [6, 7, 451]), (.aload_n 0, []), (.iconst 0, []), (.putfield 35, [6, 8, 453]), (.aload_n 0, []), (.iconst 0, []), (.putfield 39, [6, 9, 455]), (.aload_n 0, []), (.iconst 0, []), (.putfield 42, [6, 10, 457]), (.aload_n 0, []), (.iconst 0, []), (.putfield 45, [6, 11, 458]), (.aload_n 0, [])]),
  (75, none, 0, [(.aload_n 1, []), (.putfield 48, [6, 0, 439]), (.return_, [])])])
def pm_X6_isGivingUp : sm_M := (yX6_isGivingUp, prog_8_method_6_code, 5, (some .boolean), 2, 0, 0, [1036, 12, 1], [
  (0, some [0, 1, 2], 0, [(.iload_n 1, []), (.iload_n 2, []), (.iconst (-1), []), (.ixor, []), (.iand, []), (.istore_n 3, []), (.aload_n 0, []), (.getfield 11, [6, 1, 440]), (.iload_n 3, []), (.baload, []), (.ifCond .ne 5, [2, 1])]),
  (15, none, 0, [(.iconst 0, []), (.ireturn, [])]),
  (17, none, 3, [(.iconst 0, []), (.istore 4, [])]),
  (20, some [0, 2, 3, 4], 0, [(.iload 4, []), (.bipush 10, []), (.if_icmp .ge 34, [8, 4])]),
  (27, none, 0, [(.iload_n 2, []), (.iload 4, []), (.ishr, []), (.iconst 1, []), (.iand, []), (.ifCond .eq 19, [7, 5])]),
  (36, none, 0, [(.aload_n 0, []), (.getfield 11, [6, 1, 440]), (.iload_n 3, []), (.iconst 1, []), (.iload 4, []), (.ishl, []), (.ior, []), (.baload, []), (.ifCond .eq 5, [7, 6])]),
  (50, none, 0, [(.iconst 0, []), (.ireturn, [])]),
  (52, none, 0, [(.iinc 4 1, []), (.goto (-35), [3])]),
  (58, none, 0, [(.iconst 1, []), (.ireturn, [])])])
def pm_X6_isKnown : sm_M := (yX6_isKnown, prog_8_method_2_code, 5, (some .boolean), 2, 0, 0, [995, 12, 1], [
  (0, some [0, 1, 2], 0, [(.aload_n 0, []), (.getfield 35, [6, 8, 453]), (.ifCond .ne 86, [8, 1])]),
  (7, none, 0, [(.aload_n 0, []), (.iconst 1, []), (.putfield 35, [6, 8, 453]), (.aload_n 0, []), (.iconst 0, []), (.putfield 22, [6, 4, 445]), (.aload_n 0, []), (.iconst 0, []), (.putfield 26, [6, 5, 447]), (.aload_n 1, []), (.invokevirtual 52, [13, 1, 10, 996, 807, 808, 0]), (.aload_n 1, []), (.getfield 58, [10, 6, 141]), (.iconst (-1), []), (.ixor, []), (.iand, []), (.aload_n 2, []), (.getfield 61, [4, 0, 292]), (.iconst (-1), []), (.ixor, []), (.iand, []), (.istore_n 3, []), (.aload_n 0, []), (.aload_n 0, []), (.aload_n 1, []), (.aload_n 2, []), (.iload_n 3, []), (.invokevirtual 66, [251, 1, 6, 997, 999, 2820, 0]), (.ifCond .ne 7, [3, 2])]),
  (52, none, 0, [(.iconst 1, []), (.goto 4, [4])]),
  (56, none, 4, [(.iconst 0, [])]),
  (57, none, 5, [(.putfield 42, [6, 10, 457]), (.iconst 0, []), (.istore 4, [])]),
  (63, some [0, 3, 4], 0, [(.iload 4, []), (.bipush 10, []), (.if_icmp .gt 23, [8, 6])]),
  (70, none, 0, [(.aload_n 0, []), (.getfield 42, [6, 10, 457]), (.ifCond .ne 16, [8, 7])]),
  (77, none, 0, [(.aload_n 0, []), (.iload_n 3, []), (.iload 4, []), (.invokevirtual 70, [260, 1, 6, 1003, 1005, 2821, 0]), (.iinc 4 1, []), (.goto (-24), [5])]),
  (90, none, 0, [(.aload_n 0, []), (.getfield 42, [6, 10, 457]), (.ifCond .ne 7, [10, 9])]),
  (97, none, 0, [(.iconst 1, []), (.goto 4, [11])]),
  (101, none, 11, [(.iconst 0, [])]),
  (102, none, 0, [(.ireturn, [])])])
def pm_X6_isQuarrel : sm_M := (yX6_isQuarrel, prog_8_method_5_code, 3, (some .boolean), 1, 0, 0, [1032, 12, 1], [
  (0, some [0, 1], 0, [(.aload_n 0, []), (.getfield 11, [6, 1, 440]), (.iload_n 1, []), (.baload, []), (.ifCond .eq 5, [2, 1])]),
  (9, none, 0, [(.iconst 0, []), (.ireturn, [])]),
  (11, none, 3, [(.iconst 0, []), (.istore_n 2, [])]),
  (13, some [0, 1, 2], 0, [(.iload_n 2, []), (.bipush 10, []), (.if_icmp .ge 34, [8, 4])]),
  (19, none, 0, [(.iload_n 1, []), (.iload_n 2, []), (.ishr, []), (.iconst 1, []), (.iand, []), (.ifCond .eq 20, [7, 5])]),
  (27, none, 0, [(.aload_n 0, []), (.getfield 11, [6, 1, 440]), (.iload_n 1, []), (.iconst 1, []), (.iload_n 2, []), (.ishl, []), (.iconst (-1), []), (.ixor, []), (.iand, []), (.baload, []), (.ifCond .ne 5, [7, 6])]),
  (42, none, 0, [(.iconst 0, []), (.ireturn, [])]),
  (44, none, 0, [(.iinc 2 1, []), (.goto (-34), [3])]),
  (50, none, 0, [(.iconst 1, []), (.ireturn, [])])])
def pm_X6_isTight : sm_M := (yX6_isTight, prog_8_method_7_code, 3, (some .boolean), 2, 0, 0, [1077, 12, 1], [
  (0, some [0, 1, 2], 0, [(.aload_n 0, []), (.getfield 39, [6, 9, 455]), (.ifCond .ne 54, [6, 1])]),
  (7, none, 0, [(.aload_n 0, []), (.iconst 1, []), (.putfield 39, [6, 9, 455]), (.aload_n 0, []), (.getfield 48, [6, 0, 439]), (.aload_n 1, []), (.aload_n 2, []), (.iconst 0, []), (.iconst 0, []), (.invokevirtual 74, [213, 1, 2, 1001, 811, 812, 0]), (.aload_n 0, []), (.aload_n 0, []), (.aload_n 2, []), (.lconst 0, []), (.invokevirtual 102, [252, 1, 6, 1078, 1080, 2824, 0]), (.ifCond .ne 7, [3, 2])]),
  (33, none, 0, [(.iconst 1, []), (.goto 4, [4])]),
  (37, none, 4, [(.iconst 0, [])]),
  (38, none, 0, [(.putfield 45, [6, 11, 458]), (.aload_n 0, []), (.iconst 0, []), (.putfield 32, [6, 7, 451]), (.aload_n 0, []), (.getfield 45, [6, 11, 458]), (.ifCond .eq 8, [6, 5])]),
  (53, none, 6, [(.aload_n 0, []), (.aload_n 2, []), (.invokevirtual 106, [259, 1, 6, 1086, 1088, 2825, 0])]),
  (58, none, 0, [(.aload_n 0, []), (.getfield 45, [6, 11, 458]), (.ireturn, [])])])
def pm_X6_itemOf : sm_M := (yX6_itemOf, prog_8_method_9_code, 1, (some .int), 1, 0, 0, [1084, 12, 1], [
  (0, some [0], 0, [(.iload_n 0, []), (.bipush 10, []), (.if_icmp .ge 7, [2, 1])]),
  (6, none, 0, [(.iload_n 0, []), (.goto 10, [3])]),
  (10, none, 3, [(.iload_n 0, []), (.bipush 10, []), (.isub, []), (.bipush 100, []), (.iadd, [])]),
  (17, none, 0, [(.ireturn, [])])])
def pm_X6_listRing : sm_M := (yX6_listRing, prog_8_method_10_code, 5, none, 1, 0, 0, [1089, 12, 1], [
  (0, some [0, 1], 1, [(.lconst 0, []), (.lstore_n 2, []), (.iconst 0, []), (.istore 4, [])]),
  (5, some [0, 1, 2, 4], 0, [(.iload 4, []), (.bipush 55, []), (.if_icmp .ge 71, [8, 2])]),
  (12, none, 0, [(.aload_n 1, []), (.getfield 113, [4, 3, 300]), (.iload 4, []), (.iaload, []), (.iconst (-1), []), (.if_icmp .ne 6, [4, 3])]),
  (23, none, 0, [(.goto 51, [7])]),
  (26, none, 0, [(.aload_n 0, []), (.aload_n 1, []), (.lload_n 2, []), (.lconst 1, []), (.iload 4, []), (.lshl, []), (.lor, []), (.invokevirtual 102, [252, 1, 6, 1078, 1080, 2824, 0]), (.ifCond .eq 30, [6, 5])]),
  (40, none, 0, [(.aload_n 0, []), (.getfield 29, [6, 6, 449]), (.aload_n 0, []), (.getfield 32, [6, 7, 451]), (.iload 4, []), (.invokestatic 116, [258, 0, 0, 1082, 1083, 0, 0]), (.iastore, []), (.aload_n 0, []), (.dup, []), (.getfield 32, [6, 7, 451]), (.iconst 1, []), (.iadd, []), (.putfield 32, [6, 7, 451]), (.goto 10, [7])]),
  (67, none, 7, [(.lload_n 2, []), (.lconst 1, []), (.iload 4, []), (.lshl, []), (.lor, []), (.lstore_n 2, [])]),
  (74, none, 0, [(.iinc 4 1, []), (.goto (-72), [1])]),
  (80, none, 0, [(.return_, [])])])
def pm_X6_listSets : sm_M := (yX6_listSets, prog_8_method_4_code, 4, none, 2, 0, 0, [1006, 12, 1], [
  (0, some [0, 1, 2], 1, [(.iconst 0, []), (.istore_n 3, [])]),
  (2, some [0, 1, 2, 3], 0, [(.iload_n 3, []), (.sipush 1024, []), (.if_icmp .ge 105, [12, 2])]),
  (9, none, 0, [(.iload_n 3, []), (.iload_n 1, []), (.iconst (-1), []), (.ixor, []), (.iand, []), (.ifCond .ne 91, [11, 3])]),
  (17, none, 0, [(.iload_n 3, []), (.invokestatic 88, [298, 0, 0, 1007, 1024, 0, 0]), (.iload_n 2, []), (.if_icmp .eq 6, [5, 4])]),
  (25, none, 0, [(.goto 80, [11])]),
  (28, none, 0, [(.aload_n 0, []), (.iload_n 3, []), (.invokevirtual 94, [256, 1, 6, 1029, 1031, 2822, 0]), (.ifCond .eq 33, [8, 6])]),
  (36, none, 0, [(.aload_n 0, []), (.getfield 22, [6, 4, 445]), (.sipush 252, []), (.if_icmp .ge 23, [8, 7])]),
  (46, none, 8, [(.aload_n 0, []), (.getfield 15, [6, 2, 441]), (.aload_n 0, []), (.getfield 22, [6, 4, 445]), (.iload_n 3, []), (.iastore, []), (.aload_n 0, []), (.dup, []), (.getfield 22, [6, 4, 445]), (.iconst 1, []), (.iadd, []), (.putfield 22, [6, 4, 445])]),
  (66, none, 0, [(.aload_n 0, []), (.iload_n 1, []), (.iload_n 3, []), (.invokevirtual 98, [254, 1, 6, 1033, 1035, 2823, 0]), (.ifCond .eq 33, [11, 9])]),
  (75, none, 0, [(.aload_n 0, []), (.getfield 26, [6, 5, 447]), (.sipush 252, []), (.if_icmp .ge 23, [11, 10])]),
  (85, none, 11, [(.aload_n 0, []), (.getfield 19, [6, 3, 443]), (.aload_n 0, []), (.getfield 26, [6, 5, 447]), (.iload_n 3, []), (.iastore, []), (.aload_n 0, []), (.dup, []), (.getfield 26, [6, 5, 447]), (.iconst 1, []), (.iadd, []), (.putfield 26, [6, 5, 447])]),
  (105, none, 0, [(.iinc 3 1, []), (.goto (-106), [1])]),
  (111, none, 0, [(.return_, [])])])
def pm_X7_addSaying : sm_M := (yX7_addSaying, prog_9_method_9_code, 2, (some .int), 0, 0, 0, [670, 2, 1], [
  (0, some [0], 0, [(.aload_n 0, []), (.getfield 43, [7, 6, 227]), (.dup, []), (.getfield 158, [10, 3, 132]), (.dup_x1, []), (.iconst 1, []), (.iadd, []), (.putfield 158, [10, 3, 132]), (.istore_n 1, []), (.aload_n 0, []), (.getfield 47, [7, 7, 228]), (.bipush 8, []), (.if_icmp .ne 18, [2, 1])]),
  (24, none, 2, [(.aload_n 0, []), (.getfield 43, [7, 6, 227]), (.dup, []), (.getfield 161, [10, 6, 143]), (.iconst 1, []), (.iload_n 1, []), (.ishl, []), (.ior, []), (.putfield 161, [10, 6, 143])]),
  (39, none, 0, [(.aload_n 0, []), (.getfield 43, [7, 6, 227]), (.getfield 164, [10, 12, 162]), (.iload_n 1, []), (.iconst 1, []), (.iastore, []), (.aload_n 0, []), (.getfield 43, [7, 6, 227]), (.getfield 167, [10, 13, 165]), (.iload_n 1, []), (.iconst 4, []), (.imul, []), (.iconst 1, []), (.iastore, []), (.iload_n 1, []), (.ireturn, [])])])
def pm_X7_changePlaces : sm_M := (yX7_changePlaces, prog_9_method_3_code, 3, (some (.object "NightHours$Told")), 1, 0, 0, [747, 2, 1], [
  (0, some [0, 1], 0, [(.aload_n 0, []), (.getfield 43, [7, 6, 227]), (.astore_n 2, []), (.aload_n 0, []), (.aload_n 1, []), (.putfield 43, [7, 6, 227]), (.aload_n 2, []), (.areturn, [])])])
def pm_X7_endPathOrOpen : sm_M := (yX7_endPathOrOpen, prog_9_method_18_code, 2, none, 1, 0, 0, [706, 2, 1], [
  (0, some [0, 1], 0, [(.aload_n 0, []), (.getfield 47, [7, 7, 228]), (.iconst 2, []), (.if_icmp .ne 22, [2, 1])]),
  (8, none, 0, [(.aload_n 0, []), (.getfield 43, [7, 6, 227]), (.aload_n 0, []), (.getfield 50, [7, 8, 229]), (.aload_n 0, []), (.getfield 53, [7, 9, 230]), (.iload_n 1, []), (.invokevirtual 197, [12, 1, 10, 707, 708, 709, 0]), (.goto 44, [3])]),
  (27, none, 3, [(.aload_n 0, []), (.getfield 43, [7, 6, 227]), (.getfield 180, [10, 10, 156]), (.aload_n 0, []), (.getfield 50, [7, 8, 229]), (.aload_n 0, []), (.getfield 50, [7, 8, 229]), (.aload_n 0, []), (.getfield 53, [7, 9, 230]), (.invokevirtual 201, [287, 1, 8, 711, 712, 713, 0]), (.aload_n 0, []), (.getfield 43, [7, 6, 227]), (.getfield 180, [10, 10, 156]), (.aload_n 0, []), (.getfield 50, [7, 8, 229]), (.aload_n 0, []), (.getfield 56, [7, 10, 231]), (.iload_n 1, []), (.invokevirtual 204, [280, 1, 8, 715, 716, 717, 0])]),
  (68, none, 0, [(.return_, [])])])
def pm_X7_endSpan : sm_M := (yX7_endSpan, prog_9_method_19_code, 6, none, 1, 0, 0, [722, 2, 1], [
  (0, some [0, 1], 0, [(.aload_n 0, []), (.getfield 43, [7, 6, 227]), (.getfield 207, [10, 15, 172]), (.astore_n 2, []), (.aload_n 0, []), (.getfield 43, [7, 6, 227]), (.getfield 152, [10, 4, 136]), (.iconst 1, []), (.isub, []), (.istore_n 3, []), (.aload_n 0, []), (.getfield 47, [7, 7, 228]), (.bipush 12, []), (.if_icmp .eq 62, [2, 1])]),
  (27, none, 2, [(.aload_n 0, []), (.getfield 43, [7, 6, 227]), (.getfield 158, [10, 3, 132]), (.iconst 1, []), (.isub, []), (.istore 4, []), (.aload_n 0, []), (.getfield 43, [7, 6, 227]), (.getfield 164, [10, 12, 162]), (.iload 4, []), (.iaload, []), (.iconst 1, []), (.isub, []), (.istore 5, []), (.aload_n 0, []), (.getfield 43, [7, 6, 227]), (.getfield 210, [10, 14, 168]), (.astore_n 2, []), (.aload_n 0, []), (.getfield 43, [7, 6, 227]), (.iload 4, []), (.iload 5, []), (.invokevirtual 213, [17, 1, 10, 723, 724, 725, 0]), (.aload_n 0, []), (.getfield 43, [7, 6, 227]), (.iload 4, []), (.iload 5, []), (.invokevirtual 216, [19, 1, 10, 727, 728, 729, 0]), (.iadd, []), (.iconst 1, []), (.isub, []), (.istore_n 3, [])]),
  (86, none, 0, [(.aload_n 2, []), (.iload_n 3, []), (.aload_n 0, []), (.getfield 50, [7, 8, 229]), (.aload_n 0, []), (.getfield 53, [7, 9, 230]), (.invokevirtual 201, [287, 1, 8, 711, 712, 713, 0]), (.aload_n 2, []), (.iload_n 3, []), (.aload_n 0, []), (.getfield 56, [7, 10, 231]), (.iload_n 1, []), (.invokevirtual 204, [280, 1, 8, 715, 716, 717, 0]), (.return_, [])])])
def pm_X7_find : sm_M := (yX7_find, prog_9_method_10_code, 5, (some .int), 2, 0, 0, [678, 2, 1], [
  (0, some [0, 1, 3], 1, [(.iconst 0, []), (.istore 4, [])]),
  (3, some [0, 1, 3, 4], 0, [(.iload 4, []), (.aload_n 0, []), (.getfield 36, [7, 5, 226]), (.if_icmp .ge 40, [6, 2])]),
  (12, none, 0, [(.aload_n 0, []), (.getfield 25, [7, 2, 223]), (.iload 4, []), (.laload, []), (.lload_n 1, []), (.lcmp, []), (.ifCond .ne 22, [5, 3])]),
  (24, none, 0, [(.aload_n 0, []), (.getfield 29, [7, 3, 224]), (.iload 4, []), (.iaload, []), (.iload_n 3, []), (.if_icmp .ne 11, [5, 4])]),
  (35, none, 0, [(.aload_n 0, []), (.getfield 33, [7, 4, 225]), (.iload 4, []), (.iaload, []), (.ireturn, [])]),
  (43, none, 0, [(.iinc 4 1, []), (.goto (-43), [1])]),
  (49, none, 0, [(.iconst (-1), []), (.ireturn, [])])])
def pm_X7_init : sm_M := (yX7_init, prog_9_method_1_code, 1, none, 0, 34, 2456, [30, 2, 1], [
  (0, some [0], 1, [(.aload_n 0, []), (.invokespecial 3, [31, 24, 25]), (.aload_n 0, []), (.new 9, [9, 32, 33, 3]), (.dup, []), (.invokespecial 11, [290, 1, 9, 1, 35, 0, 1]), (.putfield 12, [7, 0, 221]), (.aload_n 0, []), (.new 18, [3, 58, 59, 4]), (.dup, []), (.invokespecial 20, [236, 1, 3, 2, 61, 0, 1]), (.putfield 21, [7, 1, 222]), (.aload_n 0, []), (.bipush 35, []), (.newarray .long, [3, 57]), (.putfield 25, [7, 2, 223]), (.aload_n 0, []), (.bipush 35, []), (.newarray .int, [0, 56]), (.putfield 29, [7, 3, 224]), (.aload_n 0, []), (.bipush 35, []), (.newarray .int, [0, 56]), (.putfield 33, [7, 4, 225]), (.aload_n 0, []), (.iconst 0, []), (.putfield 36, [7, 5, 226]), (.aload_n 0, []), (.new 40, [10, 77, 78, 5]), (.dup, []), (.invokespecial 42, [18, 1, 10, 79, 80, 0, 0]), (.putfield 43, [7, 6, 227]), (.aload_n 0, []), (.iconst 0, []), (.putfield 47, [7, 7, 228]), (.aload_n 0, []), (.iconst 0, []), (.putfield 50, [7, 8, 229]), (.aload_n 0, []), (.iconst 0, [])]),
  (78, none, 0, [(.putfield 53, [7, 9, 230]), (.aload_n 0, []), (.iconst 0, []), (.putfield 56, [7, 10, 231]), (.aload_n 0, []), (.iconst 1, []), (.putfield 59, [7, 11, 232]), (.aload_n 0, []), (.iconst (-1), []), (.putfield 62, [7, 12, 233]), (.return_, [])])])
def pm_X7_meaningFault : sm_M := (yX7_meaningFault, prog_9_method_5_code, 5, (some .int), 0, 0, 0, [653, 2, 1], [
  (0, some [0], 1, [(.iconst 0, []), (.istore_n 1, []), (.iconst 0, []), (.istore_n 2, [])]),
  (4, some [0, 1, 2], 0, [(.iload_n 2, []), (.aload_n 0, []), (.getfield 12, [7, 0, 221]), (.getfield 86, [9, 3, 45]), (.if_icmp .ge 97, [11, 2])]),
  (15, none, 0, [(.aload_n 0, []), (.getfield 12, [7, 0, 221]), (.getfield 89, [9, 0, 39]), (.iload_n 2, []), (.iaload, []), (.istore_n 3, []), (.iload_n 3, []), (.bipush 16, []), (.if_icmp .ne 23, [5, 3])]),
  (31, none, 0, [(.aload_n 0, []), (.getfield 12, [7, 0, 221]), (.getfield 103, [9, 2, 43]), (.iload_n 2, []), (.laload, []), (.ldc2_w 106, [1440, 654]), (.lcmp, []), (.ifCond .le 7, [5, 4])]),
  (47, none, 0, [(.iconst 5, []), (.goto 4, [6])]),
  (51, none, 6, [(.iconst 0, [])]),
  (52, none, 0, [(.istore 4, []), (.iload 4, []), (.ifCond .ne 20, [8, 7])]),
  (59, none, 8, [(.aload_n 0, []), (.iload_n 1, []), (.iload_n 3, []), (.aload_n 0, []), (.getfield 12, [7, 0, 221]), (.getfield 103, [9, 2, 43]), (.iload_n 2, []), (.laload, []), (.invokevirtual 108, [271, 1, 7, 655, 657, 2309, 0]), (.istore 4, [])]),
  (76, some [0, 1, 2, 3, 4], 0, [(.iload 4, []), (.ifCond .eq 19, [10, 9])]),
  (81, none, 0, [(.aload_n 0, []), (.aload_n 0, []), (.getfield 12, [7, 0, 221]), (.getfield 96, [9, 1, 41]), (.iload_n 2, []), (.iaload, []), (.putfield 62, [7, 12, 233]), (.iload 4, []), (.ireturn, [])]),
  (97, none, 0, [(.iload_n 1, []), (.iload_n 3, []), (.invokestatic 99, [234, 0, 0, 649, 639, 0, 0]), (.istore_n 1, []), (.iinc 2 1, []), (.goto (-102), [1])]),
  (109, none, 0, [(.iconst 0, []), (.ireturn, [])])])
def pm_X7_numberNew : sm_M := (yX7_numberNew, prog_9_method_8_code, 2, (some .int), 1, 0, 0, [666, 2, 1], [
  (0, some [0, 1], 0, [(.iload_n 1, []), (.lookupswitch 103 #[(0, 43), (1, 58), (3, 73), (12, 88)], [5, 1, 2, 3, 4])]),
  (44, none, 0, [(.aload_n 0, []), (.getfield 43, [7, 6, 227]), (.dup, []), (.getfield 143, [10, 0, 121]), (.dup_x1, []), (.iconst 1, []), (.iadd, []), (.putfield 143, [10, 0, 121]), (.ireturn, [])]),
  (59, none, 0, [(.aload_n 0, []), (.getfield 43, [7, 6, 227]), (.dup, []), (.getfield 146, [10, 1, 124]), (.dup_x1, []), (.iconst 1, []), (.iadd, []), (.putfield 146, [10, 1, 124]), (.ireturn, [])]),
  (74, none, 0, [(.aload_n 0, []), (.getfield 43, [7, 6, 227]), (.dup, []), (.getfield 149, [10, 2, 128]), (.dup_x1, []), (.iconst 1, []), (.iadd, []), (.putfield 149, [10, 2, 128]), (.ireturn, [])]),
  (89, none, 0, [(.aload_n 0, []), (.getfield 43, [7, 6, 227]), (.dup, []), (.getfield 152, [10, 4, 136]), (.dup_x1, []), (.iconst 1, []), (.iadd, []), (.putfield 152, [10, 4, 136]), (.ireturn, [])]),
  (104, none, 0, [(.aload_n 0, []), (.invokevirtual 155, [261, 1, 7, 667, 669, 2312, 0]), (.ireturn, [])])])
def pm_X7_readTape : sm_M := (yX7_readTape, prog_9_method_2_code, 4, (some .int), 2, 0, 0, [590, 2, 1], [
  (0, some [0, 1, 2], 0, [(.aload_n 0, []), (.getfield 43, [7, 6, 227]), (.invokevirtual 65, [14, 1, 10, 591, 114, 115, 0]), (.aload_n 0, []), (.iconst 0, []), (.putfield 36, [7, 5, 226]), (.aload_n 0, []), (.getfield 12, [7, 0, 221]), (.aload_n 1, []), (.iload_n 2, []), (.invokevirtual 68, [294, 1, 9, 592, 593, 594, 0]), (.aload_n 0, []), (.invokevirtual 72, [270, 1, 7, 625, 627, 2306, 0]), (.istore_n 3, []), (.iload_n 3, []), (.ifCond .ne 8, [2, 1])]),
  (30, none, 2, [(.aload_n 0, []), (.invokevirtual 76, [267, 1, 7, 650, 652, 2308, 0]), (.istore_n 3, [])]),
  (35, none, 0, [(.iload_n 3, []), (.ifCond .ne 17, [4, 3])]),
  (39, none, 4, [(.aload_n 0, []), (.getfield 43, [7, 6, 227]), (.invokevirtual 79, [16, 1, 10, 731, 732, 733, 0]), (.aload_n 0, []), (.getfield 43, [7, 6, 227]), (.invokevirtual 82, [15, 1, 10, 740, 741, 742, 0])]),
  (53, none, 0, [(.iload_n 3, []), (.ireturn, [])])])
def pm_X7_syntaxFault : sm_M := (yX7_syntaxFault, prog_9_method_4_code, 4, (some .int), 0, 0, 0, [628, 2, 1], [
  (0, some [0], 1, [(.aload_n 0, []), (.getfield 21, [7, 1, 222]), (.invokevirtual 85, [232, 1, 3, 629, 630, 631, 0]), (.iconst 0, []), (.istore_n 1, []), (.iconst 0, []), (.istore_n 2, [])]),
  (11, some [0, 1, 2], 0, [(.iload_n 2, []), (.aload_n 0, []), (.getfield 12, [7, 0, 221]), (.getfield 86, [9, 3, 45]), (.if_icmp .gt 61, [5, 2])]),
  (22, none, 0, [(.aload_n 0, []), (.getfield 21, [7, 1, 222]), (.iload_n 1, []), (.aload_n 0, []), (.getfield 12, [7, 0, 221]), (.getfield 89, [9, 0, 39]), (.iload_n 2, []), (.iaload, []), (.iload_n 2, []), (.invokevirtual 92, [233, 1, 3, 634, 635, 636, 0]), (.istore_n 3, []), (.iload_n 3, []), (.ifCond .eq 18, [4, 3])]),
  (45, none, 0, [(.aload_n 0, []), (.aload_n 0, []), (.getfield 12, [7, 0, 221]), (.getfield 96, [9, 1, 41]), (.iload_n 2, []), (.iaload, []), (.putfield 62, [7, 12, 233]), (.iload_n 3, []), (.ireturn, [])]),
  (60, none, 0, [(.iload_n 1, []), (.aload_n 0, []), (.getfield 12, [7, 0, 221]), (.getfield 89, [9, 0, 39]), (.iload_n 2, []), (.iaload, []), (.invokestatic 99, [234, 0, 0, 649, 639, 0, 0]), (.istore_n 1, []), (.iinc 2 1, []), (.goto (-66), [1])]),
  (80, none, 0, [(.iconst 0, []), (.ireturn, [])])])
def pm_X7_take : sm_M := (yX7_take, prog_9_method_6_code, 5, (some .int), 3, 0, 0, [658, 2, 1], [
  (0, some [0, 1, 2, 3], 0, [(.iload_n 1, []), (.tableswitch 190 0 29 #[135, 142, 190, 148, 148, 190, 142, 190, 155, 190, 155, 142, 190, 183, 142, 142, 190, 169, 190, 190, 169, 190, 190, 190, 190, 190, 176, 162, 190, 162], [9, 1, 2, 9, 3, 3, 9, 2, 9, 4, 9, 4, 2, 9, 8, 2, 2, 9, 6, 9, 9, 6, 9, 9, 9, 9, 9, 7, 5, 9, 5])]),
  (136, none, 0, [(.aload_n 0, []), (.iload_n 2, []), (.putfield 47, [7, 7, 228]), (.iconst 0, []), (.ireturn, [])]),
  (143, none, 0, [(.aload_n 0, []), (.lload_n 3, []), (.invokevirtual 112, [274, 1, 7, 659, 661, 2310, 0]), (.ireturn, [])]),
  (149, none, 0, [(.aload_n 0, []), (.iload_n 1, []), (.lload_n 3, []), (.invokevirtual 116, [276, 1, 7, 671, 673, 2313, 0]), (.ireturn, [])]),
  (156, none, 0, [(.aload_n 0, []), (.iload_n 1, []), (.lload_n 3, []), (.invokevirtual 120, [279, 1, 7, 679, 681, 2315, 0]), (.ireturn, [])]),
  (163, none, 0, [(.aload_n 0, []), (.iload_n 1, []), (.lload_n 3, []), (.invokevirtual 123, [275, 1, 7, 683, 685, 2316, 0]), (.ireturn, [])]),
  (170, none, 0, [(.aload_n 0, []), (.iload_n 1, []), (.lload_n 3, []), (.invokevirtual 126, [277, 1, 7, 687, 689, 2317, 0]), (.ireturn, [])]),
  (177, none, 0, [(.aload_n 0, []), (.iload_n 2, []), (.invokevirtual 129, [273, 1, 7, 691, 693, 2318, 0]), (.iconst 0, []), (.ireturn, [])]),
  (184, none, 0, [(.aload_n 0, []), (.lload_n 3, []), (.l2i, []), (.invokevirtual 133, [278, 1, 7, 695, 697, 2319, 0]), (.ireturn, [])]),
  (191, none, 0, [(.aload_n 0, []), (.iload_n 1, []), (.iload_n 2, []), (.lload_n 3, []), (.l2i, []), (.invokevirtual 137, [272, 1, 7, 699, 701, 2560, 0]), (.ireturn, [])])])
def pm_X7_takeInt : sm_M := (yX7_takeInt, prog_9_method_17_code, 5, (some .int), 3, 0, 0, [702, 2, 1], [
  (0, some [0, 1, 2, 3], 0, [(.iload_n 2, []), (.bipush 19, []), (.if_icmp .ne 10, [2, 1])]),
  (6, none, 0, [(.aload_n 0, []), (.iconst (-1), []), (.putfield 59, [7, 11, 232]), (.iconst 0, []), (.ireturn, [])]),
  (13, none, 0, [(.iload_n 2, []), (.bipush 16, []), (.if_icmp .ne 55, [8, 3])]),
  (19, none, 0, [(.aload_n 0, []), (.getfield 59, [7, 11, 232]), (.iload_n 3, []), (.imul, []), (.istore 4, []), (.aload_n 0, []), (.iconst 1, []), (.putfield 59, [7, 11, 232]), (.iload_n 1, []), (.iconst 5, []), (.if_icmp .ne 12, [5, 4])]),
  (37, none, 0, [(.aload_n 0, []), (.iload 4, []), (.invokevirtual 191, [263, 1, 7, 703, 705, 2561, 0]), (.goto 28, [8])]),
  (46, none, 0, [(.iload_n 1, []), (.iload_n 2, []), (.invokestatic 99, [234, 0, 0, 649, 639, 0, 0]), (.bipush 26, []), (.if_icmp .ne 12, [7, 6])]),
  (56, none, 0, [(.aload_n 0, []), (.iload 4, []), (.invokevirtual 194, [264, 1, 7, 719, 721, 2562, 0]), (.goto 9, [8])]),
  (65, none, 8, [(.aload_n 0, []), (.iload 4, []), (.putfield 56, [7, 10, 231])]),
  (71, none, 0, [(.iconst 0, []), (.ireturn, [])])])
def pm_X7_takeJoin : sm_M := (yX7_takeJoin, prog_9_method_15_code, 3, none, 1, 0, 0, [694, 2, 1], [
  (0, some [0, 1], 0, [(.aload_n 0, []), (.getfield 43, [7, 6, 227]), (.getfield 158, [10, 3, 132]), (.iconst 1, []), (.isub, []), (.istore_n 2, []), (.iload_n 1, []), (.bipush 9, []), (.if_icmp .ne 16, [2, 1])]),
  (16, none, 2, [(.aload_n 0, []), (.getfield 43, [7, 6, 227]), (.getfield 164, [10, 12, 162]), (.iload_n 2, []), (.dup2, []), (.iaload, []), (.iconst 1, []), (.iadd, []), (.iastore, [])]),
  (29, none, 0, [(.iload_n 1, []), (.bipush 9, []), (.if_icmp .eq 9, [4, 3])]),
  (35, none, 0, [(.iload_n 1, []), (.bipush 13, []), (.if_icmp .ne 30, [5, 4])]),
  (41, none, 5, [(.aload_n 0, []), (.getfield 43, [7, 6, 227]), (.getfield 167, [10, 13, 165]), (.iload_n 2, []), (.iconst 4, []), (.imul, []), (.aload_n 0, []), (.getfield 43, [7, 6, 227]), (.getfield 164, [10, 12, 162]), (.iload_n 2, []), (.iaload, []), (.iadd, []), (.iconst 1, []), (.isub, []), (.dup2, []), (.iaload, []), (.iconst 1, []), (.iadd, []), (.iastore, [])]),
  (68, none, 0, [(.return_, [])])])
def pm_X7_takeNew : sm_M := (yX7_takeNew, prog_9_method_7_code, 4, (some .int), 1, 0, 0, [662, 2, 1], [
  (0, some [0, 1], 1, [(.iconst 0, []), (.istore_n 3, [])]),
  (2, some [0, 1, 3], 0, [(.iload_n 3, []), (.aload_n 0, []), (.getfield 36, [7, 5, 226]), (.if_icmp .ge 22, [5, 2])]),
  (10, none, 0, [(.aload_n 0, []), (.getfield 25, [7, 2, 223]), (.iload_n 3, []), (.laload, []), (.lload_n 1, []), (.lcmp, []), (.ifCond .ne 5, [4, 3])]),
  (21, none, 0, [(.iconst 3, []), (.ireturn, [])]),
  (23, none, 0, [(.iinc 3 1, []), (.goto (-24), [1])]),
  (29, none, 0, [(.aload_n 0, []), (.getfield 47, [7, 7, 228]), (.bipush 8, []), (.if_icmp .ne 8, [7, 6])]),
  (38, none, 0, [(.bipush 6, []), (.goto 7, [8])]),
  (43, none, 8, [(.aload_n 0, []), (.getfield 47, [7, 7, 228])]),
  (47, none, 0, [(.istore_n 3, []), (.aload_n 0, []), (.getfield 36, [7, 5, 226]), (.bipush 35, []), (.if_icmp .ge 47, [10, 9])]),
  (57, none, 10, [(.aload_n 0, []), (.getfield 25, [7, 2, 223]), (.aload_n 0, []), (.getfield 36, [7, 5, 226]), (.lload_n 1, []), (.lastore, []), (.aload_n 0, []), (.getfield 29, [7, 3, 224]), (.aload_n 0, []), (.getfield 36, [7, 5, 226]), (.iload_n 3, []), (.iastore, []), (.aload_n 0, []), (.getfield 33, [7, 4, 225]), (.aload_n 0, []), (.getfield 36, [7, 5, 226]), (.aload_n 0, []), (.iload_n 3, []), (.invokevirtual 140, [268, 1, 7, 663, 665, 2311, 0]), (.iastore, []), (.aload_n 0, []), (.dup, []), (.getfield 36, [7, 5, 226]), (.iconst 1, []), (.iadd, []), (.putfield 36, [7, 5, 226])]),
  (101, none, 0, [(.iconst 0, []), (.ireturn, [])])])
def pm_X7_takeOpen : sm_M := (yX7_takeOpen, prog_9_method_13_code, 6, (some .int), 2, 0, 0, [686, 2, 1], [
  (0, some [0, 1, 2], 0, [(.aload_n 0, []), (.lload_n 2, []), (.iconst 3, []), (.invokevirtual 170, [265, 1, 7, 675, 677, 2314, 0]), (.istore 4, []), (.iload 4, []), (.iconst (-1), []), (.if_icmp .ne 5, [2, 1])]),
  (14, none, 0, [(.iconst 4, []), (.ireturn, [])]),
  (16, none, 0, [(.iload_n 1, []), (.bipush 27, []), (.if_icmp .ne 34, [7, 3])]),
  (22, none, 0, [(.aload_n 0, []), (.iload 4, []), (.putfield 50, [7, 8, 229]), (.aload_n 0, []), (.getfield 43, [7, 6, 227]), (.getfield 180, [10, 10, 156]), (.getfield 184, [8, 1, 96]), (.aload_n 0, []), (.getfield 50, [7, 8, 229]), (.iaload, []), (.iconst (-1), []), (.if_icmp .eq 7, [5, 4])]),
  (47, none, 0, [(.iconst 5, []), (.goto 4, [6])]),
  (51, none, 6, [(.iconst 0, [])]),
  (52, none, 0, [(.ireturn, [])]),
  (53, none, 0, [(.aload_n 0, []), (.iload 4, []), (.putfield 53, [7, 9, 230]), (.aload_n 0, []), (.getfield 50, [7, 8, 229]), (.aload_n 0, []), (.getfield 53, [7, 9, 230]), (.if_icmp .eq 22, [9, 8])]),
  (70, none, 0, [(.aload_n 0, []), (.getfield 43, [7, 6, 227]), (.getfield 180, [10, 10, 156]), (.getfield 184, [8, 1, 96]), (.aload_n 0, []), (.getfield 53, [7, 9, 230]), (.iaload, []), (.iconst (-1), []), (.if_icmp .eq 5, [10, 9])]),
  (89, none, 0, [(.iconst 5, []), (.ireturn, [])]),
  (91, none, 11, [(.iconst 0, []), (.istore 5, [])]),
  (94, some [0, 5], 0, [(.iload 5, []), (.aload_n 0, []), (.getfield 43, [7, 6, 227]), (.getfield 149, [10, 2, 128]), (.if_icmp .ge 31, [15, 12])]),
  (106, none, 0, [(.aload_n 0, []), (.getfield 43, [7, 6, 227]), (.getfield 180, [10, 10, 156]), (.getfield 184, [8, 1, 96]), (.iload 5, []), (.iaload, []), (.aload_n 0, []), (.getfield 50, [7, 8, 229]), (.if_icmp .ne 5, [14, 13])]),
  (126, none, 0, [(.iconst 5, []), (.ireturn, [])]),
  (128, none, 0, [(.iinc 5 1, []), (.goto (-37), [11])]),
  (134, none, 0, [(.iconst 0, []), (.ireturn, [])])])
def pm_X7_takePath : sm_M := (yX7_takePath, prog_9_method_11_code, 5, (some .int), 2, 0, 0, [674, 2, 1], [
  (0, some [0, 1, 2], 0, [(.aload_n 0, []), (.lload_n 2, []), (.iconst 1, []), (.invokevirtual 170, [265, 1, 7, 675, 677, 2314, 0]), (.istore 4, []), (.iload 4, []), (.iconst (-1), []), (.if_icmp .ne 5, [2, 1])]),
  (14, none, 0, [(.iconst 4, []), (.ireturn, [])]),
  (16, none, 0, [(.iload_n 1, []), (.iconst 3, []), (.if_icmp .ne 11, [4, 3])]),
  (21, none, 0, [(.aload_n 0, []), (.iload 4, []), (.putfield 50, [7, 8, 229]), (.iconst 0, []), (.ireturn, [])]),
  (29, none, 0, [(.aload_n 0, []), (.iload 4, []), (.putfield 53, [7, 9, 230]), (.aload_n 0, []), (.getfield 50, [7, 8, 229]), (.aload_n 0, []), (.getfield 53, [7, 9, 230]), (.if_icmp .ne 7, [6, 5])]),
  (46, none, 0, [(.iconst 5, []), (.goto 4, [7])]),
  (50, none, 7, [(.iconst 0, [])]),
  (51, none, 0, [(.ireturn, [])])])
def pm_X7_takeSpanTime : sm_M := (yX7_takeSpanTime, prog_9_method_14_code, 5, (some .int), 2, 0, 0, [690, 2, 1], [
  (0, some [0, 1, 2], 0, [(.aload_n 0, []), (.lload_n 2, []), (.iconst 3, []), (.invokevirtual 170, [265, 1, 7, 675, 677, 2314, 0]), (.istore 4, []), (.iload 4, []), (.iconst (-1), []), (.if_icmp .ne 5, [2, 1])]),
  (14, none, 0, [(.iconst 4, []), (.ireturn, [])]),
  (16, none, 0, [(.iload_n 1, []), (.bipush 17, []), (.if_icmp .ne 17, [4, 3])]),
  (22, none, 0, [(.aload_n 0, []), (.iload 4, []), (.putfield 50, [7, 8, 229]), (.aload_n 0, []), (.iconst (-1), []), (.putfield 53, [7, 9, 230]), (.goto 9, [5])]),
  (36, none, 5, [(.aload_n 0, []), (.iload 4, []), (.putfield 53, [7, 9, 230])]),
  (42, none, 0, [(.iconst 0, []), (.ireturn, [])])])
def pm_X7_takeTrust : sm_M := (yX7_takeTrust, prog_9_method_16_code, 2, (some .int), 1, 0, 0, [698, 2, 1], [
  (0, some [0, 1], 0, [(.iload_n 1, []), (.ifCond .eq 9, [2, 1])]),
  (4, none, 0, [(.iload_n 1, []), (.bipush 100, []), (.if_icmp .le 5, [3, 2])]),
  (10, none, 0, [(.iconst 5, []), (.ireturn, [])]),
  (12, none, 0, [(.aload_n 0, []), (.getfield 43, [7, 6, 227]), (.getfield 188, [10, 11, 159]), (.aload_n 0, []), (.getfield 43, [7, 6, 227]), (.getfield 158, [10, 3, 132]), (.iconst 1, []), (.isub, []), (.iload_n 1, []), (.iastore, []), (.iconst 0, []), (.ireturn, [])])])
def pm_X7_takeWhere : sm_M := (yX7_takeWhere, prog_9_method_12_code, 6, (some .int), 2, 0, 0, [682, 2, 1], [
  (0, some [0, 1, 2], 0, [(.iload_n 1, []), (.bipush 8, []), (.if_icmp .ne 7, [2, 1])]),
  (6, none, 0, [(.iconst 1, []), (.goto 4, [3])]),
  (10, none, 3, [(.iconst 0, [])]),
  (11, none, 0, [(.istore 4, []), (.aload_n 0, []), (.lload_n 2, []), (.iload 4, []), (.ifCond .eq 7, [5, 4])]),
  (20, none, 0, [(.iconst 0, []), (.goto 4, [6])]),
  (24, none, 6, [(.iconst 1, [])]),
  (25, none, 0, [(.invokevirtual 170, [265, 1, 7, 675, 677, 2314, 0]), (.istore 5, []), (.iload 5, []), (.iconst (-1), []), (.if_icmp .ne 5, [8, 7])]),
  (36, none, 0, [(.iconst 4, []), (.ireturn, [])]),
  (38, none, 0, [(.iload 4, []), (.ifCond .eq 25, [10, 9])]),
  (43, none, 0, [(.aload_n 0, []), (.getfield 43, [7, 6, 227]), (.getfield 174, [10, 8, 148]), (.aload_n 0, []), (.getfield 43, [7, 6, 227]), (.getfield 149, [10, 2, 128]), (.iconst 1, []), (.isub, []), (.iload 5, []), (.iastore, []), (.goto 22, [11])]),
  (65, none, 11, [(.aload_n 0, []), (.getfield 43, [7, 6, 227]), (.getfield 177, [10, 9, 152]), (.aload_n 0, []), (.getfield 43, [7, 6, 227]), (.getfield 149, [10, 2, 128]), (.iconst 1, []), (.isub, []), (.iload 5, []), (.iastore, [])]),
  (84, none, 0, [(.iconst 0, []), (.ireturn, [])])])
def pm_X8_bound : sm_M := (yX8_bound, prog_10_method_3_code, 4, none, 3, 0, 0, [718, 6, 1], [
  (0, some [0, 1, 2, 3], 0, [(.iload_n 1, []), (.ifCond .lt 26, [3, 1])]),
  (4, none, 0, [(.iload_n 1, []), (.aload_n 0, []), (.getfield 9, [8, 0, 89]), (.arraylength, []), (.if_icmp .ge 17, [3, 2])]),
  (13, none, 3, [(.aload_n 0, []), (.getfield 18, [8, 2, 98]), (.iload_n 1, []), (.iload_n 2, []), (.iastore, []), (.aload_n 0, []), (.getfield 21, [8, 3, 101]), (.iload_n 1, []), (.iload_n 3, []), (.iastore, [])]),
  (27, none, 0, [(.return_, [])])])
def pm_X8_holds : sm_M := (yX8_holds, prog_10_method_5_code, 4, (some .boolean), 2, 0, 0, [980, 6, 1], [
  (0, some [0, 1, 2], 0, [(.aload_n 2, []), (.aload_n 0, []), (.getfield 9, [8, 0, 89]), (.iload_n 1, []), (.iaload, []), (.iaload, []), (.aload_n 0, []), (.getfield 15, [8, 1, 92]), (.iload_n 1, []), (.iaload, []), (.iconst (-1), []), (.if_icmp .ne 7, [2, 1])]),
  (18, none, 0, [(.iconst 0, []), (.goto 11, [3])]),
  (22, none, 3, [(.aload_n 2, []), (.aload_n 0, []), (.getfield 15, [8, 1, 92]), (.iload_n 1, []), (.iaload, []), (.iaload, [])]),
  (30, none, 0, [(.isub, []), (.istore_n 3, []), (.aload_n 0, []), (.getfield 18, [8, 2, 98]), (.iload_n 1, []), (.iaload, []), (.iload_n 3, []), (.if_icmp .gt 17, [6, 4])]),
  (42, none, 0, [(.iload_n 3, []), (.aload_n 0, []), (.getfield 21, [8, 3, 101]), (.iload_n 1, []), (.iaload, []), (.if_icmp .gt 7, [6, 5])]),
  (52, none, 0, [(.iconst 1, []), (.goto 4, [7])]),
  (56, none, 7, [(.iconst 0, [])]),
  (57, none, 0, [(.ireturn, [])])])
def pm_X8_init_20 : sm_M := (yX8_init, prog_10_method_1_code, 2, none, 1, 4, 20, [87, 6, 1], [
  (0, some [0, 1], 0, [(.aload_n 0, []), (.invokespecial 3, [88, 24, 25]), (.aload_n 0, []), (.iload_n 1, []), (.newarray .int, [0, 56]), (.putfield 9, [8, 0, 89]), (.aload_n 0, []), (.iload_n 1, []), (.newarray .int, [0, 56]), (.putfield 15, [8, 1, 92]), (.aload_n 0, []), (.iload_n 1, []), (.newarray .int, [0, 56]), (.putfield 18, [8, 2, 98]), (.aload_n 0, []), (.iload_n 1, []), (.newarray .int, [0, 56]), (.putfield 21, [8, 3, 101]), (.return_, [])])])
def pm_X8_init_24 : sm_M := (yX8_init, prog_10_method_1_code, 2, none, 1, 4, 24, [87, 6, 1], [
  (0, some [0, 1], 0, [(.aload_n 0, []), (.invokespecial 3, [88, 24, 25]), (.aload_n 0, []), (.iload_n 1, []), (.newarray .int, [0, 56]), (.putfield 9, [8, 0, 89]), (.aload_n 0, []), (.iload_n 1, []), (.newarray .int, [0, 56]), (.putfield 15, [8, 1, 92]), (.aload_n 0, []), (.iload_n 1, []), (.newarray .int, [0, 56]), (.putfield 18, [8, 2, 98]), (.aload_n 0, []), (.iload_n 1, []), (.newarray .int, [0, 56]), (.putfield 21, [8, 3, 101]), (.return_, [])])])
def pm_X8_init_40 : sm_M := (yX8_init, prog_10_method_1_code, 2, none, 1, 4, 40, [87, 6, 1], [
  (0, some [0, 1], 0, [(.aload_n 0, []), (.invokespecial 3, [88, 24, 25]), (.aload_n 0, []), (.iload_n 1, []), (.newarray .int, [0, 56]), (.putfield 9, [8, 0, 89]), (.aload_n 0, []), (.iload_n 1, []), (.newarray .int, [0, 56]), (.putfield 15, [8, 1, 92]), (.aload_n 0, []), (.iload_n 1, []), (.newarray .int, [0, 56]), (.putfield 18, [8, 2, 98]), (.aload_n 0, []), (.iload_n 1, []), (.newarray .int, [0, 56]), (.putfield 21, [8, 3, 101]), (.return_, [])])])
def pm_X8_init_480 : sm_M := (yX8_init, prog_10_method_1_code, 2, none, 1, 4, 480, [87, 6, 1], [
  (0, some [0, 1], 0, [(.aload_n 0, []), (.invokespecial 3, [88, 24, 25]), (.aload_n 0, []), (.iload_n 1, []), (.newarray .int, [0, 56]), (.putfield 9, [8, 0, 89]), (.aload_n 0, []), (.iload_n 1, []), (.newarray .int, [0, 56]), (.putfield 15, [8, 1, 92]), (.aload_n 0, []), (.iload_n 1, []), (.newarray .int, [0, 56]), (.putfield 18, [8, 2, 98]), (.aload_n 0, []), (.iload_n 1, []), (.newarray .int, [0, 56]), (.putfield 21, [8, 3, 101]), (.return_, [])])])
def pm_X8_isSet : sm_M := (yX8_isSet, prog_10_method_4_code, 3, (some .boolean), 2, 0, 0, [976, 6, 1], [
  (0, some [0, 1, 2], 0, [(.aload_n 2, []), (.aload_n 0, []), (.getfield 9, [8, 0, 89]), (.iload_n 1, []), (.iaload, []), (.iaload, []), (.iconst (-1), []), (.if_icmp .eq 29, [4, 1])]),
  (12, none, 0, [(.aload_n 0, []), (.getfield 15, [8, 1, 92]), (.iload_n 1, []), (.iaload, []), (.iconst (-1), []), (.if_icmp .eq 15, [3, 2])]),
  (22, none, 0, [(.aload_n 2, []), (.aload_n 0, []), (.getfield 15, [8, 1, 92]), (.iload_n 1, []), (.iaload, []), (.iaload, []), (.iconst (-1), []), (.if_icmp .eq 7, [4, 3])]),
  (34, none, 0, [(.iconst 1, []), (.goto 4, [5])]),
  (38, none, 5, [(.iconst 0, [])]),
  (39, none, 0, [(.ireturn, [])])])
def pm_X8_put : sm_M := (yX8_put, prog_10_method_2_code, 4, none, 3, 0, 0, [714, 6, 1], [
  (0, some [0, 1, 2, 3], 0, [(.iload_n 1, []), (.ifCond .lt 26, [3, 1])]),
  (4, none, 0, [(.iload_n 1, []), (.aload_n 0, []), (.getfield 9, [8, 0, 89]), (.arraylength, []), (.if_icmp .ge 17, [3, 2])]),
  (13, none, 3, [(.aload_n 0, []), (.getfield 9, [8, 0, 89]), (.iload_n 1, []), (.iload_n 2, []), (.iastore, []), (.aload_n 0, []), (.getfield 15, [8, 1, 92]), (.iload_n 1, []), (.iload_n 3, []), (.iastore, [])]),
  (27, none, 0, [(.return_, [])])])
def pm_X9_endOfDigits : sm_M := (yX9_endOfDigits, prog_11_method_5_code, 4, (some .int), 3, 0, 0, [619, 3, 1], [
  (0, some [0, 1, 2], 1, [(.iload_n 1, []), (.istore_n 3, [])]),
  (2, some [0, 2, 3], 0, [(.iload_n 3, []), (.iload_n 2, []), (.if_icmp .ge 18, [4, 2])]),
  (7, none, 0, [(.aload_n 0, []), (.iload_n 3, []), (.baload, []), (.invokestatic 44, [292, 0, 0, 614, 615, 0, 0]), (.ifCond .eq 9, [4, 3])]),
  (16, none, 0, [(.iinc 3 1, []), (.goto (-17), [1])]),
  (22, none, 0, [(.iload_n 3, []), (.ireturn, [])])])
def pm_X9_endOfLetters : sm_M := (yX9_endOfLetters, prog_11_method_4_code, 4, (some .int), 3, 0, 0, [608, 3, 1], [
  (0, some [0, 1, 2], 1, [(.iload_n 1, []), (.istore_n 3, [])]),
  (2, some [0, 2, 3], 0, [(.iload_n 3, []), (.iload_n 2, []), (.if_icmp .ge 18, [4, 2])]),
  (7, none, 0, [(.aload_n 0, []), (.iload_n 3, []), (.baload, []), (.invokestatic 34, [293, 0, 0, 603, 604, 0, 0]), (.ifCond .eq 9, [4, 3])]),
  (16, none, 0, [(.iinc 3 1, []), (.goto (-17), [1])]),
  (22, none, 0, [(.iload_n 3, []), (.ireturn, [])])])
def pm_X9_init : sm_M := (yX9_init, prog_11_method_1_code, 1, none, 0, 3, 1506, [36, 3, 1], [
  (0, some [0], 0, [(.aload_n 0, []), (.invokespecial 3, [37, 24, 25]), (.aload_n 0, []), (.sipush 502, []), (.newarray .int, [0, 56]), (.putfield 9, [9, 0, 38]), (.aload_n 0, []), (.sipush 502, []), (.newarray .int, [0, 56]), (.putfield 15, [9, 1, 40]), (.aload_n 0, []), (.sipush 502, []), (.newarray .long, [3, 57]), (.putfield 18, [9, 2, 42]), (.aload_n 0, []), (.iconst 0, []), (.putfield 22, [9, 3, 44]), (.return_, [])])])
def pm_X9_isBlank : sm_M := (yX9_isBlank, prog_11_method_8_code, 1, (some .boolean), 1, 0, 0, [598, 3, 1], [
  (0, some [0], 0, [(.iload_n 0, []), (.bipush 9, []), (.if_icmp .eq 21, [4, 1])]),
  (6, none, 0, [(.iload_n 0, []), (.bipush 10, []), (.if_icmp .eq 15, [4, 2])]),
  (12, none, 0, [(.iload_n 0, []), (.bipush 13, []), (.if_icmp .eq 9, [4, 3])]),
  (18, none, 0, [(.iload_n 0, []), (.bipush 32, []), (.if_icmp .ne 7, [5, 4])]),
  (24, none, 0, [(.iconst 1, []), (.goto 4, [6])]),
  (28, none, 6, [(.iconst 0, [])]),
  (29, none, 0, [(.ireturn, [])])])
def pm_X9_isDigit : sm_M := (yX9_isDigit, prog_11_method_10_code, 1, (some .boolean), 1, 0, 0, [616, 3, 1], [
  (0, some [0], 0, [(.iload_n 0, []), (.bipush 48, []), (.if_icmp .lt 13, [3, 1])]),
  (6, none, 0, [(.iload_n 0, []), (.bipush 57, []), (.if_icmp .gt 7, [3, 2])]),
  (12, none, 0, [(.iconst 1, []), (.goto 4, [4])]),
  (16, none, 4, [(.iconst 0, [])]),
  (17, none, 0, [(.ireturn, [])])])
def pm_X9_isLetter : sm_M := (yX9_isLetter, prog_11_method_9_code, 1, (some .boolean), 1, 0, 0, [605, 3, 1], [
  (0, some [0], 0, [(.iload_n 0, []), (.bipush 97, []), (.if_icmp .lt 13, [3, 1])]),
  (6, none, 0, [(.iload_n 0, []), (.bipush 122, []), (.if_icmp .gt 7, [3, 2])]),
  (12, none, 0, [(.iconst 1, []), (.goto 4, [4])]),
  (16, none, 4, [(.iconst 0, [])]),
  (17, none, 0, [(.ireturn, [])])])
def pm_X9_scan : sm_M := (yX9_scan, prog_11_method_2_code, 5, none, 2, 0, 0, [595, 3, 1], [
  (0, some [0, 1, 2], 1, [(.aload_n 0, []), (.iconst 0, []), (.putfield 22, [9, 3, 44]), (.iconst 0, []), (.istore_n 3, []), (.iconst 0, []), (.istore 4, [])]),
  (10, some [0, 1, 2, 3, 4], 0, [(.iload 4, []), (.sipush 2000, []), (.if_icmp .ge 47, [8, 2])]),
  (18, none, 0, [(.iload_n 3, []), (.iload_n 2, []), (.if_icmp .ge 42, [8, 3])]),
  (23, none, 0, [(.aload_n 0, []), (.getfield 22, [9, 3, 44]), (.sipush 500, []), (.if_icmp .gt 32, [8, 4])]),
  (33, none, 0, [(.aload_n 1, []), (.iload_n 3, []), (.baload, []), (.invokestatic 26, [291, 0, 0, 596, 597, 0, 0]), (.ifCond .eq 9, [6, 5])]),
  (42, none, 0, [(.iinc 3 1, []), (.goto 11, [7])]),
  (48, none, 7, [(.aload_n 0, []), (.aload_n 1, []), (.iload_n 3, []), (.iload_n 2, []), (.invokevirtual 30, [295, 1, 9, 599, 601, 2305, 0]), (.istore_n 3, [])]),
  (56, none, 0, [(.iinc 4 1, []), (.goto (-49), [1])]),
  (62, none, 0, [(.aload_n 0, []), (.getfield 9, [9, 0, 38]), (.aload_n 0, []), (.getfield 22, [9, 3, 44]), (.bipush 21, []), (.iastore, []), (.aload_n 0, []), (.getfield 15, [9, 1, 40]), (.aload_n 0, []), (.getfield 22, [9, 3, 44]), (.iload_n 2, []), (.iastore, []), (.return_, [])])])
def pm_X9_scanOne : sm_M := (yX9_scanOne, prog_11_method_3_code, 8, (some .int), 3, 0, 0, [602, 3, 1], [
  (0, some [0, 1, 2, 3], 0, [(.iload_n 2, []), (.iconst 1, []), (.iadd, []), (.istore 4, []), (.lconst 0, []), (.lstore 5, []), (.aload_n 0, []), (.getfield 15, [9, 1, 40]), (.aload_n 0, []), (.getfield 22, [9, 3, 44]), (.iload_n 2, []), (.iastore, []), (.aload_n 1, []), (.iload_n 2, []), (.baload, []), (.invokestatic 34, [293, 0, 0, 603, 604, 0, 0]), (.ifCond .eq 71, [8, 1])]),
  (27, none, 2, [(.aload_n 1, []), (.iload_n 2, []), (.iload_n 3, []), (.invokestatic 37, [289, 0, 0, 606, 607, 0, 0]), (.istore 4, []), (.iload_n 2, []), (.istore 7, [])]),
  (38, some [0, 1, 2, 4, 5, 7], 0, [(.iload 7, []), (.iload 4, []), (.if_icmp .ge 22, [4, 3])]),
  (45, none, 0, [(.lload 5, []), (.bipush 8, []), (.lshl, []), (.aload_n 1, []), (.iload 7, []), (.baload, []), (.i2l, []), (.lor, []), (.lstore 5, []), (.iinc 7 1, []), (.goto (-23), [2])]),
  (64, none, 0, [(.aload_n 0, []), (.getfield 9, [9, 0, 38]), (.aload_n 0, []), (.getfield 22, [9, 3, 44]), (.iload 4, []), (.iload_n 2, []), (.isub, []), (.bipush 8, []), (.if_icmp .le 8, [6, 5])]),
  (81, none, 0, [(.bipush 20, []), (.goto 8, [7])]),
  (86, none, 7, [(.lload 5, []), (.invokestatic 40, [297, 0, 0, 609, 610, 0, 0])]),
  (91, none, 0, [(.iastore, []), (.goto 96, [17])]),
  (95, none, 0, [(.aload_n 1, []), (.iload_n 2, []), (.baload, []), (.invokestatic 44, [292, 0, 0, 614, 615, 0, 0]), (.ifCond .eq 72, [16, 9])]),
  (104, none, 10, [(.aload_n 1, []), (.iload_n 2, []), (.iload_n 3, []), (.invokestatic 47, [288, 0, 0, 617, 618, 0, 0]), (.istore 4, []), (.iload_n 2, []), (.istore 7, [])]),
  (115, some [0, 1, 2, 4, 5, 7], 0, [(.iload 7, []), (.iload 4, []), (.if_icmp .ge 27, [12, 11])]),
  (122, none, 0, [(.lload 5, []), (.ldc2_w 50, [10, 620]), (.lmul, []), (.aload_n 1, []), (.iload 7, []), (.baload, []), (.i2l, []), (.ladd, []), (.ldc2_w 52, [48, 621]), (.lsub, []), (.lstore 5, []), (.iinc 7 1, []), (.goto (-28), [10])]),
  (146, none, 0, [(.aload_n 0, []), (.getfield 9, [9, 0, 38]), (.aload_n 0, []), (.getfield 22, [9, 3, 44]), (.iload 4, []), (.iload_n 2, []), (.isub, []), (.iconst 4, []), (.if_icmp .le 8, [14, 13])]),
  (162, none, 0, [(.bipush 20, []), (.goto 5, [15])]),
  (167, none, 15, [(.bipush 16, [])]),
  (169, none, 0, [(.iastore, []), (.goto 18, [17])]),
  (173, none, 17, [(.aload_n 0, []), (.getfield 9, [9, 0, 38]), (.aload_n 0, []), (.getfield 22, [9, 3, 44]), (.aload_n 1, []), (.iload_n 2, []), (.baload, []), (.invokestatic 54, [296, 0, 0, 622, 623, 0, 0]), (.iastore, [])]),
  (188, none, 0, [(.aload_n 0, []), (.getfield 18, [9, 2, 42]), (.aload_n 0, []), (.getfield 22, [9, 3, 44]), (.lload 5, []), (.lastore, []), (.aload_n 0, []), (.dup, []), (.getfield 22, [9, 3, 44]), (.iconst 1, []), (.iadd, []), (.putfield 22, [9, 3, 44]), (.iload 4, []), (.ireturn, [])])])
def pm_X9_sign : sm_M := (yX9_sign, prog_11_method_7_code, 1, (some .int), 1, 0, 0, [624, 3, 1], [
  (0, some [0], 0, [(.iload_n 0, []), (.lookupswitch 44 #[(45, 41), (58, 38), (59, 35)], [4, 3, 2, 1])]),
  (36, none, 0, [(.bipush 17, []), (.ireturn, [])]),
  (39, none, 0, [(.bipush 18, []), (.ireturn, [])]),
  (42, none, 0, [(.bipush 19, []), (.ireturn, [])]),
  (45, none, 0, [(.bipush 20, []), (.ireturn, [])])])
def pm_X9_wordOrName : sm_M := (yX9_wordOrName, prog_11_method_6_code, 3, (some .int), 1, 0, 0, [611, 3, 1], [
  (0, some [0], 1, [(.iconst 0, []), (.istore_n 2, [])]),
  (2, some [0, 2], 0, [(.iload_n 2, []), (.getstatic 58, [1000, 612]), (.arraylength, []), (.if_icmp .ge 21, [5, 2])]),
  (10, none, 0, [(.getstatic 58, [1000, 612]), (.iload_n 2, []), (.laload, []), (.lload_n 0, []), (.lcmp, []), (.ifCond .ne 5, [4, 3])]),
  (20, none, 0, [(.iload_n 2, []), (.ireturn, [])]),
  (22, none, 0, [(.iinc 2 1, []), (.goto (-23), [1])]),
  (28, none, 0, [(.bipush 15, []), (.ireturn, [])])])
def pm_J6_bitCount_0f7a4 : sm_M := (yJ6_bitCount_0f7a4, prog_15_method_49_code, 1, (some .int), 1, 0, 0, [1025, 17, 1], [
  (0, some [0], 1, [(.iload_n 0, []), (.iload_n 0, []), (.iconst 1, []), (.iushr, []), (.ldc_w 265, [1431655765, 1026]), (.iand, []), (.isub, []), (.istore_n 0, []), (.iload_n 0, []), (.ldc_w 266, [858993459, 1027]), (.iand, []), (.iload_n 0, []), (.iconst 2, []), (.iushr, []), (.ldc_w 266, [858993459, 1027]), (.iand, []), (.iadd, []), (.istore_n 0, []), (.iload_n 0, []), (.iload_n 0, []), (.iconst 4, []), (.iushr, []), (.iadd, []), (.ldc_w 267, [252645135, 1028]), (.iand, []), (.istore_n 0, []), (.iload_n 0, []), (.iload_n 0, []), (.bipush 8, []), (.iushr, []), (.iadd, []), (.istore_n 0, []), (.iload_n 0, []), (.iload_n 0, []), (.bipush 16, []), (.iushr, []), (.iadd, []), (.istore_n 0, []), (.iload_n 0, []), (.bipush 63, [])]),
  (51, none, 0, [(.iand, []), (.ireturn, [])])])
def pm_J7_fill_53178 : sm_M := (yJ7_fill_53178, prog_18_method_103_code, 4, none, 2, 0, 0, [119, 7, 1], [
  (0, some [0, 1], 1, [(.iconst 0, []), (.istore_n 2, []), (.aload_n 0, []), (.arraylength, []), (.istore_n 3, [])]),
  (5, some [0, 1, 2, 3], 0, [(.iload_n 2, []), (.iload_n 3, []), (.if_icmp .ge 13, [3, 2])]),
  (10, none, 0, [(.aload_n 0, []), (.iload_n 2, []), (.iload_n 1, []), (.iastore, []), (.iinc 2 1, []), (.goto (-12), [1])]),
  (20, none, 0, [(.return_, [])])])
def pb_L_law_0 : sm_B := (0, some [0], 1, [(.new 7, [11, 18, 19, 1]), (.dup, []), (.invokespecial 9, [48, 1, 11, 20, 21, 0, 0]), (.astore_n 1, []), (.new 10, [12, 1292, 1293, 14]), (.dup, []), (.invokespecial 12, [135, 1, 12, 1294, 1295, 0, 0]), (.astore_n 2, []), (.iconst 0, []), (.istore_n 3, [])])
def pb_L_law_1 : sm_B := (18, some [0, 1, 2, 3], 0, [(.iload_n 3, []), (.aload_n 0, []), (.arraylength, []), (.bipush 6, []), (.isub, []), (.if_icmp .gt 1601, [143, 2])])
def pb_L_law_2 : sm_B := (27, none, 0, [(.aload_n 0, []), (.iload_n 3, []), (.iaload, []), (.bipush 63, []), (.iand, []), (.tableswitch 1586 0 46 #[203, 266, 289, 302, 315, 364, 397, 430, 443, 476, 509, 568, 637, 686, 719, 742, 775, 798, 811, 824, 847, 860, 883, 896, 909, 942, 955, 968, 991, 1044, 1103, 1152, 1165, 1198, 1221, 1244, 1297, 1310, 1343, 1356, 1415, 1458, 1471, 1494, 1517, 1530, 1563], [142, 3, 6, 8, 10, 12, 20, 22, 24, 26, 28, 30, 38, 46, 54, 56, 58, 60, 62, 64, 66, 68, 70, 72, 74, 76, 78, 80, 82, 84, 87, 95, 103, 105, 107, 109, 111, 114, 116, 118, 120, 128, 130, 132, 134, 136, 138, 140])])
def pb_L_law_3 : sm_B := (236, none, 4, [(.aload_n 1, []), (.aload_n 0, []), (.iload_n 3, []), (.iconst 1, []), (.iadd, []), (.iaload, []), (.aload_n 0, []), (.iload_n 3, []), (.iconst 2, []), (.iadd, []), (.iaload, []), (.aload_n 0, []), (.iload_n 3, []), (.iconst 3, []), (.iadd, []), (.iaload, []), (.aload_n 0, []), (.iload_n 3, []), (.iconst 4, []), (.iadd, []), (.iaload, []), (.aload_n 0, []), (.iload_n 3, []), (.iconst 5, []), (.iadd, []), (.iaload, []), (.invokevirtual 13, [36, 1, 11, 571, 572, 573, 0]), (.aload_n 2, []), (.aload_n 0, []), (.iload_n 3, []), (.iconst 1, []), (.iadd, []), (.iaload, []), (.aload_n 0, []), (.iload_n 3, []), (.iconst 2, []), (.iadd, []), (.iaload, []), (.aload_n 0, []), (.iload_n 3, [])])
def pb_L_law_4 : sm_B := (278, none, 0, [(.iconst 3, []), (.iadd, []), (.iaload, []), (.aload_n 0, []), (.iload_n 3, []), (.iconst 4, []), (.iadd, []), (.iaload, []), (.aload_n 0, []), (.iload_n 3, []), (.iconst 5, []), (.iadd, []), (.iaload, []), (.invokevirtual 17, [117, 1, 12, 1612, 1613, 1614, 0]), (.if_icmp .eq 1325, [142, 5])])
def pb_L_law_5 : sm_B := (297, none, 0, [(.iconst 0, []), (.ireturn, [])])
def pb_L_law_6 : sm_B := (299, none, 0, [(.aload_n 1, []), (.aload_n 0, []), (.iload_n 3, []), (.iconst 1, []), (.iadd, []), (.iaload, []), (.invokevirtual 18, [24, 1, 11, 579, 580, 581, 0]), (.aload_n 2, []), (.aload_n 0, []), (.iload_n 3, []), (.iconst 1, []), (.iadd, []), (.iaload, []), (.invokevirtual 22, [92, 1, 12, 1620, 1621, 1622, 0]), (.if_icmp .eq 1302, [142, 7])])
def pb_L_law_7 : sm_B := (320, none, 0, [(.iconst 0, []), (.ireturn, [])])
def pb_L_law_8 : sm_B := (322, none, 0, [(.aload_n 1, []), (.invokevirtual 23, [74, 1, 11, 583, 584, 585, 0]), (.aload_n 2, []), (.invokevirtual 27, [175, 1, 12, 1624, 1625, 1626, 0]), (.if_icmp .eq 1289, [142, 9])])
def pb_L_law_9 : sm_B := (333, none, 0, [(.iconst 0, []), (.ireturn, [])])
def pb_L_law_10 : sm_B := (335, none, 0, [(.aload_n 1, []), (.invokevirtual 28, [67, 1, 11, 769, 770, 771, 0]), (.aload_n 2, []), (.invokevirtual 31, [167, 1, 12, 1733, 1734, 1735, 0]), (.if_icmp .eq 1276, [142, 11])])
def pb_L_law_11 : sm_B := (346, none, 0, [(.iconst 0, []), (.ireturn, [])])
def pb_L_law_12 : sm_B := (348, none, 0, [(.aload_n 1, []), (.aload_n 0, []), (.iload_n 3, []), (.iconst 1, []), (.iadd, []), (.iaload, []), (.aload_n 0, []), (.iload_n 3, []), (.iconst 2, []), (.iadd, []), (.iaload, []), (.ifCond .eq 7, [14, 13])])
def pb_L_law_13 : sm_B := (362, none, 0, [(.iconst 1, []), (.goto 4, [15])])
def pb_L_law_14 : sm_B := (366, none, 15, [(.iconst 0, [])])
def pb_L_law_15 : sm_B := (367, none, 0, [(.invokevirtual 32, [33, 1, 11, 773, 774, 775, 0]), (.aload_n 2, []), (.aload_n 0, []), (.iload_n 3, []), (.iconst 1, []), (.iadd, []), (.iaload, []), (.aload_n 0, []), (.iload_n 3, []), (.iconst 2, []), (.iadd, []), (.iaload, []), (.ifCond .eq 7, [17, 16])])
def pb_L_law_16 : sm_B := (384, none, 0, [(.iconst 1, []), (.goto 4, [18])])
def pb_L_law_17 : sm_B := (388, none, 18, [(.iconst 0, [])])
def pb_L_law_18 : sm_B := (389, none, 0, [(.invokevirtual 36, [113, 1, 12, 1752, 1753, 1754, 0]), (.if_icmp .eq 1227, [142, 19])])
def pb_L_law_19 : sm_B := (395, none, 0, [(.iconst 0, []), (.ireturn, [])])
def pb_L_law_20 : sm_B := (397, none, 0, [(.aload_n 1, []), (.aload_n 0, []), (.iload_n 3, []), (.iconst 1, []), (.iadd, []), (.iaload, []), (.aload_n 0, []), (.iload_n 3, []), (.iconst 2, []), (.iadd, []), (.iaload, []), (.invokevirtual 37, [83, 1, 11, 785, 786, 787, 0]), (.aload_n 2, []), (.aload_n 0, []), (.iload_n 3, []), (.iconst 1, []), (.iadd, []), (.iaload, []), (.aload_n 0, []), (.iload_n 3, []), (.iconst 2, []), (.iadd, []), (.iaload, []), (.invokevirtual 41, [202, 1, 12, 1760, 1761, 1762, 0]), (.if_icmp .eq 1194, [142, 21])])
def pb_L_law_21 : sm_B := (428, none, 0, [(.iconst 0, []), (.ireturn, [])])
def pb_L_law_22 : sm_B := (430, none, 0, [(.aload_n 1, []), (.aload_n 0, []), (.iload_n 3, []), (.iconst 1, []), (.iadd, []), (.iaload, []), (.aload_n 0, []), (.iload_n 3, []), (.iconst 2, []), (.iadd, []), (.iaload, []), (.invokevirtual 42, [64, 1, 11, 794, 795, 796, 0]), (.aload_n 2, []), (.aload_n 0, []), (.iload_n 3, []), (.iconst 1, []), (.iadd, []), (.iaload, []), (.aload_n 0, []), (.iload_n 3, []), (.iconst 2, []), (.iadd, []), (.iaload, []), (.invokevirtual 45, [157, 1, 12, 1764, 1765, 1766, 0]), (.if_icmp .eq 1161, [142, 23])])
def pb_L_law_23 : sm_B := (461, none, 0, [(.iconst 0, []), (.ireturn, [])])
def pb_L_law_24 : sm_B := (463, none, 0, [(.aload_n 1, []), (.invokevirtual 46, [84, 1, 11, 798, 799, 800, 0]), (.aload_n 2, []), (.invokevirtual 49, [204, 1, 12, 1768, 1769, 1770, 0]), (.if_icmp .eq 1148, [142, 25])])
def pb_L_law_25 : sm_B := (474, none, 0, [(.iconst 0, []), (.ireturn, [])])
def pb_L_law_26 : sm_B := (476, none, 0, [(.aload_n 1, []), (.aload_n 0, []), (.iload_n 3, []), (.iconst 1, []), (.iadd, []), (.iaload, []), (.aload_n 0, []), (.iload_n 3, []), (.iconst 2, []), (.iadd, []), (.iaload, []), (.invokevirtual 50, [30, 1, 11, 902, 903, 904, 0]), (.aload_n 2, []), (.aload_n 0, []), (.iload_n 3, []), (.iconst 1, []), (.iadd, []), (.iaload, []), (.aload_n 0, []), (.iload_n 3, []), (.iconst 2, []), (.iadd, []), (.iaload, []), (.invokevirtual 53, [105, 1, 12, 1844, 1845, 1846, 0]), (.if_icmp .eq 1115, [142, 27])])
def pb_L_law_27 : sm_B := (507, none, 0, [(.iconst 0, []), (.ireturn, [])])
def pb_L_law_28 : sm_B := (509, none, 0, [(.aload_n 1, []), (.aload_n 0, []), (.iload_n 3, []), (.iconst 1, []), (.iadd, []), (.iaload, []), (.aload_n 0, []), (.iload_n 3, []), (.iconst 2, []), (.iadd, []), (.iaload, []), (.invokevirtual 54, [45, 1, 11, 923, 924, 925, 0]), (.aload_n 2, []), (.aload_n 0, []), (.iload_n 3, []), (.iconst 1, []), (.iadd, []), (.iaload, []), (.aload_n 0, []), (.iload_n 3, []), (.iconst 2, []), (.iadd, []), (.iaload, []), (.invokevirtual 57, [127, 1, 12, 1856, 1857, 1858, 0]), (.if_icmp .eq 1082, [142, 29])])
def pb_L_law_29 : sm_B := (540, none, 0, [(.iconst 0, []), (.ireturn, [])])
def pb_L_law_30 : sm_B := (542, none, 0, [(.aload_n 1, []), (.aload_n 0, []), (.iload_n 3, []), (.iconst 1, []), (.iadd, []), (.iaload, []), (.aload_n 0, []), (.iload_n 3, []), (.iconst 2, []), (.iadd, []), (.iaload, []), (.aload_n 0, []), (.iload_n 3, []), (.iconst 3, []), (.iadd, []), (.iaload, []), (.ifCond .eq 7, [32, 31])])
def pb_L_law_31 : sm_B := (561, none, 0, [(.iconst 1, []), (.goto 4, [33])])
def pb_L_law_32 : sm_B := (565, none, 33, [(.iconst 0, [])])
def pb_L_law_33 : sm_B := (566, none, 0, [(.invokevirtual 58, [47, 1, 11, 927, 928, 929, 0]), (.aload_n 2, []), (.aload_n 0, []), (.iload_n 3, []), (.iconst 1, []), (.iadd, []), (.iaload, []), (.aload_n 0, []), (.iload_n 3, []), (.iconst 2, []), (.iadd, []), (.iaload, []), (.aload_n 0, []), (.iload_n 3, []), (.iconst 3, []), (.iadd, []), (.iaload, []), (.ifCond .eq 7, [35, 34])])
def pb_L_law_34 : sm_B := (588, none, 0, [(.iconst 1, []), (.goto 4, [36])])
def pb_L_law_35 : sm_B := (592, none, 36, [(.iconst 0, [])])
def pb_L_law_36 : sm_B := (593, none, 0, [(.invokevirtual 62, [133, 1, 12, 1860, 1861, 1862, 0]), (.if_icmp .eq 1023, [142, 37])])
def pb_L_law_37 : sm_B := (599, none, 0, [(.iconst 0, []), (.ireturn, [])])
def pb_L_law_38 : sm_B := (601, none, 0, [(.aload_n 1, []), (.aload_n 0, []), (.iload_n 3, []), (.iconst 1, []), (.iadd, []), (.iaload, []), (.aload_n 0, []), (.iload_n 3, []), (.iconst 2, []), (.iadd, []), (.iaload, []), (.aload_n 0, []), (.iload_n 3, []), (.iconst 3, []), (.iadd, []), (.iaload, []), (.aload_n 0, []), (.iload_n 3, []), (.iconst 4, []), (.iadd, []), (.iaload, []), (.ifCond .eq 7, [40, 39])])
def pb_L_law_39 : sm_B := (625, none, 0, [(.iconst 1, []), (.goto 4, [41])])
def pb_L_law_40 : sm_B := (629, none, 41, [(.iconst 0, [])])
def pb_L_law_41 : sm_B := (630, none, 0, [(.invokevirtual 63, [40, 1, 11, 943, 944, 945, 0]), (.aload_n 2, []), (.aload_n 0, []), (.iload_n 3, []), (.iconst 1, []), (.iadd, []), (.iaload, []), (.aload_n 0, []), (.iload_n 3, []), (.iconst 2, []), (.iadd, []), (.iaload, []), (.aload_n 0, []), (.iload_n 3, []), (.iconst 3, []), (.iadd, []), (.iaload, []), (.aload_n 0, []), (.iload_n 3, []), (.iconst 4, []), (.iadd, []), (.iaload, []), (.ifCond .eq 7, [43, 42])])
def pb_L_law_42 : sm_B := (657, none, 0, [(.iconst 1, []), (.goto 4, [44])])
def pb_L_law_43 : sm_B := (661, none, 44, [(.iconst 0, [])])
def pb_L_law_44 : sm_B := (662, none, 0, [(.invokevirtual 67, [121, 1, 12, 1872, 1873, 1874, 0]), (.if_icmp .eq 954, [142, 45])])
def pb_L_law_45 : sm_B := (668, none, 0, [(.iconst 0, []), (.ireturn, [])])
def pb_L_law_46 : sm_B := (670, none, 0, [(.aload_n 1, []), (.aload_n 0, []), (.iload_n 3, []), (.iconst 1, []), (.iadd, []), (.iaload, []), (.aload_n 0, []), (.iload_n 3, []), (.iconst 2, []), (.iadd, []), (.iaload, []), (.ifCond .eq 7, [48, 47])])
def pb_L_law_47 : sm_B := (684, none, 0, [(.iconst 1, []), (.goto 4, [49])])
def pb_L_law_48 : sm_B := (688, none, 49, [(.iconst 0, [])])
def pb_L_law_49 : sm_B := (689, none, 0, [(.invokevirtual 68, [35, 1, 11, 948, 949, 950, 0]), (.aload_n 2, []), (.aload_n 0, []), (.iload_n 3, []), (.iconst 1, []), (.iadd, []), (.iaload, []), (.aload_n 0, []), (.iload_n 3, []), (.iconst 2, []), (.iadd, []), (.iaload, []), (.ifCond .eq 7, [51, 50])])
def pb_L_law_50 : sm_B := (706, none, 0, [(.iconst 1, []), (.goto 4, [52])])
def pb_L_law_51 : sm_B := (710, none, 52, [(.iconst 0, [])])
def pb_L_law_52 : sm_B := (711, none, 0, [(.invokevirtual 72, [115, 1, 12, 1876, 1877, 1878, 0]), (.if_icmp .eq 905, [142, 53])])
def pb_L_law_53 : sm_B := (717, none, 0, [(.iconst 0, []), (.ireturn, [])])
def pb_L_law_54 : sm_B := (719, none, 0, [(.aload_n 1, []), (.aload_n 0, []), (.iload_n 3, []), (.iconst 1, []), (.iadd, []), (.iaload, []), (.aload_n 0, []), (.iload_n 3, []), (.iconst 2, []), (.iadd, []), (.iaload, []), (.invokevirtual 73, [28, 1, 11, 952, 953, 954, 0]), (.aload_n 2, []), (.aload_n 0, []), (.iload_n 3, []), (.iconst 1, []), (.iadd, []), (.iaload, []), (.aload_n 0, []), (.iload_n 3, []), (.iconst 2, []), (.iadd, []), (.iaload, []), (.invokevirtual 76, [102, 1, 12, 1880, 1881, 1882, 0]), (.if_icmp .eq 872, [142, 55])])
def pb_L_law_55 : sm_B := (750, none, 0, [(.iconst 0, []), (.ireturn, [])])
def pb_L_law_56 : sm_B := (752, none, 0, [(.aload_n 1, []), (.aload_n 0, []), (.iload_n 3, []), (.iconst 1, []), (.iadd, []), (.iaload, []), (.invokevirtual 77, [39, 1, 11, 959, 960, 961, 0]), (.aload_n 2, []), (.aload_n 0, []), (.iload_n 3, []), (.iconst 1, []), (.iadd, []), (.iaload, []), (.invokevirtual 80, [120, 1, 12, 1888, 1889, 1890, 0]), (.if_icmp .eq 849, [142, 57])])
def pb_L_law_57 : sm_B := (773, none, 0, [(.iconst 0, []), (.ireturn, [])])
def pb_L_law_58 : sm_B := (775, none, 0, [(.aload_n 1, []), (.aload_n 0, []), (.iload_n 3, []), (.iconst 1, []), (.iadd, []), (.iaload, []), (.aload_n 0, []), (.iload_n 3, []), (.iconst 2, []), (.iadd, []), (.iaload, []), (.invokevirtual 81, [77, 1, 11, 963, 964, 965, 0]), (.aload_n 2, []), (.aload_n 0, []), (.iload_n 3, []), (.iconst 1, []), (.iadd, []), (.iaload, []), (.aload_n 0, []), (.iload_n 3, []), (.iconst 2, []), (.iadd, []), (.iaload, []), (.invokevirtual 85, [181, 1, 12, 1892, 1893, 1894, 0]), (.if_icmp .eq 816, [142, 59])])
def pb_L_law_59 : sm_B := (806, none, 0, [(.iconst 0, []), (.ireturn, [])])
def pb_L_law_60 : sm_B := (808, none, 0, [(.aload_n 1, []), (.aload_n 0, []), (.iload_n 3, []), (.iconst 1, []), (.iadd, []), (.iaload, []), (.invokevirtual 86, [25, 1, 11, 967, 968, 969, 0]), (.aload_n 2, []), (.aload_n 0, []), (.iload_n 3, []), (.iconst 1, []), (.iadd, []), (.iaload, []), (.invokevirtual 89, [93, 1, 12, 1896, 1897, 1898, 0]), (.if_icmp .eq 793, [142, 61])])
def pb_L_law_61 : sm_B := (829, none, 0, [(.iconst 0, []), (.ireturn, [])])
def pb_L_law_62 : sm_B := (831, none, 0, [(.aload_n 1, []), (.invokevirtual 90, [27, 1, 11, 981, 982, 983, 0]), (.aload_n 2, []), (.invokevirtual 93, [100, 1, 12, 1904, 1905, 1906, 0]), (.if_icmp .eq 780, [142, 63])])
def pb_L_law_63 : sm_B := (842, none, 0, [(.iconst 0, []), (.ireturn, [])])
def pb_L_law_64 : sm_B := (844, none, 0, [(.aload_n 1, []), (.invokevirtual 94, [73, 1, 11, 988, 989, 990, 0]), (.aload_n 2, []), (.invokevirtual 97, [174, 1, 12, 1908, 1909, 1910, 0]), (.if_icmp .eq 767, [142, 65])])
def pb_L_law_65 : sm_B := (855, none, 0, [(.iconst 0, []), (.ireturn, [])])
def pb_L_law_66 : sm_B := (857, none, 0, [(.aload_n 1, []), (.aload_n 0, []), (.iload_n 3, []), (.iconst 1, []), (.iadd, []), (.iaload, []), (.invokevirtual 98, [72, 1, 11, 1037, 1038, 1039, 0]), (.aload_n 2, []), (.aload_n 0, []), (.iload_n 3, []), (.iconst 1, []), (.iadd, []), (.iaload, []), (.invokevirtual 101, [173, 1, 12, 1927, 1928, 1929, 0]), (.if_icmp .eq 744, [142, 67])])
def pb_L_law_67 : sm_B := (878, none, 0, [(.iconst 0, []), (.ireturn, [])])
def pb_L_law_68 : sm_B := (880, none, 0, [(.aload_n 1, []), (.invokevirtual 102, [43, 1, 11, 1041, 1042, 1043, 0]), (.aload_n 2, []), (.invokevirtual 105, [126, 1, 12, 1931, 1932, 1933, 0]), (.if_icmp .eq 731, [142, 69])])
def pb_L_law_69 : sm_B := (891, none, 0, [(.iconst 0, []), (.ireturn, [])])
def pb_L_law_70 : sm_B := (893, none, 0, [(.aload_n 1, []), (.aload_n 0, []), (.iload_n 3, []), (.iconst 1, []), (.iadd, []), (.iaload, []), (.invokevirtual 106, [42, 1, 11, 1045, 1046, 1047, 0]), (.aload_n 2, []), (.aload_n 0, []), (.iload_n 3, []), (.iconst 1, []), (.iadd, []), (.iaload, []), (.invokevirtual 109, [125, 1, 12, 1935, 1936, 1937, 0]), (.if_icmp .eq 708, [142, 71])])
def pb_L_law_71 : sm_B := (914, none, 0, [(.iconst 0, []), (.ireturn, [])])
def pb_L_law_72 : sm_B := (916, none, 0, [(.aload_n 1, []), (.invokevirtual 110, [29, 1, 11, 1049, 1050, 1051, 0]), (.aload_n 2, []), (.invokevirtual 113, [104, 1, 12, 1939, 1940, 1941, 0]), (.if_icmp .eq 695, [142, 73])])
def pb_L_law_73 : sm_B := (927, none, 0, [(.iconst 0, []), (.ireturn, [])])
def pb_L_law_74 : sm_B := (929, none, 0, [(.aload_n 1, []), (.invokevirtual 114, [70, 1, 11, 1061, 1062, 1063, 0]), (.aload_n 2, []), (.invokevirtual 117, [171, 1, 12, 1947, 1948, 1949, 0]), (.if_icmp .eq 682, [142, 75])])
def pb_L_law_75 : sm_B := (940, none, 0, [(.iconst 0, []), (.ireturn, [])])
def pb_L_law_76 : sm_B := (942, none, 0, [(.aload_n 1, []), (.aload_n 0, []), (.iload_n 3, []), (.iconst 1, []), (.iadd, []), (.iaload, []), (.aload_n 0, []), (.iload_n 3, []), (.iconst 2, []), (.iadd, []), (.iaload, []), (.invokevirtual 118, [66, 1, 11, 1066, 1067, 1068, 0]), (.aload_n 2, []), (.aload_n 0, []), (.iload_n 3, []), (.iconst 1, []), (.iadd, []), (.iaload, []), (.aload_n 0, []), (.iload_n 3, []), (.iconst 2, []), (.iadd, []), (.iaload, []), (.invokevirtual 121, [165, 1, 12, 1952, 1953, 1954, 0]), (.if_icmp .eq 649, [142, 77])])
def pb_L_law_77 : sm_B := (973, none, 0, [(.iconst 0, []), (.ireturn, [])])
def pb_L_law_78 : sm_B := (975, none, 0, [(.aload_n 1, []), (.invokevirtual 122, [81, 1, 11, 1070, 1071, 1072, 0]), (.aload_n 2, []), (.invokevirtual 125, [186, 1, 12, 1960, 1961, 1962, 0]), (.if_icmp .eq 636, [142, 79])])
def pb_L_law_79 : sm_B := (986, none, 0, [(.iconst 0, []), (.ireturn, [])])
def pb_L_law_80 : sm_B := (988, none, 0, [(.aload_n 1, []), (.invokevirtual 126, [75, 1, 11, 1090, 1091, 1092, 0]), (.aload_n 2, []), (.invokevirtual 129, [176, 1, 12, 1968, 1969, 1970, 0]), (.if_icmp .eq 623, [142, 81])])
def pb_L_law_81 : sm_B := (999, none, 0, [(.iconst 0, []), (.ireturn, [])])
def pb_L_law_82 : sm_B := (1001, none, 0, [(.aload_n 1, []), (.aload_n 0, []), (.iload_n 3, []), (.iconst 1, []), (.iadd, []), (.iaload, []), (.invokevirtual 130, [76, 1, 11, 1094, 1095, 1096, 0]), (.aload_n 2, []), (.aload_n 0, []), (.iload_n 3, []), (.iconst 1, []), (.iadd, []), (.iaload, []), (.invokevirtual 133, [177, 1, 12, 1980, 1981, 1982, 0]), (.if_icmp .eq 600, [142, 83])])
def pb_L_law_83 : sm_B := (1022, none, 0, [(.iconst 0, []), (.ireturn, [])])
def pb_L_law_84 : sm_B := (1024, none, 85, [(.aload_n 1, []), (.aload_n 0, []), (.iload_n 3, []), (.iconst 1, []), (.iadd, []), (.iaload, []), (.aload_n 0, []), (.iload_n 3, []), (.iconst 2, []), (.iadd, []), (.iaload, []), (.aload_n 0, []), (.iload_n 3, []), (.iconst 3, []), (.iadd, []), (.iaload, []), (.aload_n 0, []), (.iload_n 3, []), (.iconst 4, []), (.iadd, []), (.iaload, []), (.invokevirtual 134, [31, 1, 11, 1098, 1099, 1100, 0]), (.aload_n 2, []), (.aload_n 0, []), (.iload_n 3, []), (.iconst 1, []), (.iadd, []), (.iaload, []), (.aload_n 0, []), (.iload_n 3, []), (.iconst 2, []), (.iadd, []), (.iaload, []), (.aload_n 0, []), (.iload_n 3, []), (.iconst 3, []), (.iadd, []), (.iaload, []), (.aload_n 0, []), (.iload_n 3, [])])
def pb_L_law_85 : sm_B := (1066, none, 0, [(.iconst 4, []), (.iadd, []), (.iaload, []), (.invokevirtual 138, [110, 1, 12, 1984, 1985, 1986, 0]), (.if_icmp .eq 547, [142, 86])])
def pb_L_law_86 : sm_B := (1075, none, 0, [(.iconst 0, []), (.ireturn, [])])
def pb_L_law_87 : sm_B := (1077, none, 0, [(.aload_n 1, []), (.aload_n 0, []), (.iload_n 3, []), (.iconst 1, []), (.iadd, []), (.iaload, []), (.aload_n 0, []), (.iload_n 3, []), (.iconst 2, []), (.iadd, []), (.iaload, []), (.aload_n 0, []), (.iload_n 3, []), (.iconst 3, []), (.iadd, []), (.iaload, []), (.ifCond .eq 7, [89, 88])])
def pb_L_law_88 : sm_B := (1096, none, 0, [(.iconst 1, []), (.goto 4, [90])])
def pb_L_law_89 : sm_B := (1100, none, 90, [(.iconst 0, [])])
def pb_L_law_90 : sm_B := (1101, none, 0, [(.invokevirtual 139, [26, 1, 11, 1114, 1115, 1116, 0]), (.aload_n 2, []), (.aload_n 0, []), (.iload_n 3, []), (.iconst 1, []), (.iadd, []), (.iaload, []), (.aload_n 0, []), (.iload_n 3, []), (.iconst 2, []), (.iadd, []), (.iaload, []), (.aload_n 0, []), (.iload_n 3, []), (.iconst 3, []), (.iadd, []), (.iaload, []), (.ifCond .eq 7, [92, 91])])
def pb_L_law_91 : sm_B := (1123, none, 0, [(.iconst 1, []), (.goto 4, [93])])
def pb_L_law_92 : sm_B := (1127, none, 93, [(.iconst 0, [])])
def pb_L_law_93 : sm_B := (1128, none, 0, [(.invokevirtual 142, [95, 1, 12, 1996, 1997, 1998, 0]), (.if_icmp .eq 488, [142, 94])])
def pb_L_law_94 : sm_B := (1134, none, 0, [(.iconst 0, []), (.ireturn, [])])
def pb_L_law_95 : sm_B := (1136, none, 0, [(.aload_n 1, []), (.aload_n 0, []), (.iload_n 3, []), (.iconst 1, []), (.iadd, []), (.iaload, []), (.aload_n 0, []), (.iload_n 3, []), (.iconst 2, []), (.iadd, []), (.iaload, []), (.ifCond .eq 7, [97, 96])])
def pb_L_law_96 : sm_B := (1150, none, 0, [(.iconst 1, []), (.goto 4, [98])])
def pb_L_law_97 : sm_B := (1154, none, 98, [(.iconst 0, [])])
def pb_L_law_98 : sm_B := (1155, none, 0, [(.invokevirtual 143, [23, 1, 11, 1118, 1119, 1120, 0]), (.aload_n 2, []), (.aload_n 0, []), (.iload_n 3, []), (.iconst 1, []), (.iadd, []), (.iaload, []), (.aload_n 0, []), (.iload_n 3, []), (.iconst 2, []), (.iadd, []), (.iaload, []), (.ifCond .eq 7, [100, 99])])
def pb_L_law_99 : sm_B := (1172, none, 0, [(.iconst 1, []), (.goto 4, [101])])
def pb_L_law_100 : sm_B := (1176, none, 101, [(.iconst 0, [])])
def pb_L_law_101 : sm_B := (1177, none, 0, [(.invokevirtual 146, [89, 1, 12, 2008, 2009, 2010, 0]), (.if_icmp .eq 439, [142, 102])])
def pb_L_law_102 : sm_B := (1183, none, 0, [(.iconst 0, []), (.ireturn, [])])
def pb_L_law_103 : sm_B := (1185, none, 0, [(.aload_n 1, []), (.invokevirtual 147, [65, 1, 11, 1128, 1129, 1130, 0]), (.aload_n 2, []), (.invokevirtual 150, [160, 1, 12, 2024, 2025, 2026, 0]), (.if_icmp .eq 426, [142, 104])])
def pb_L_law_104 : sm_B := (1196, none, 0, [(.iconst 0, []), (.ireturn, [])])
def pb_L_law_105 : sm_B := (1198, none, 0, [(.aload_n 1, []), (.aload_n 0, []), (.iload_n 3, []), (.iconst 1, []), (.iadd, []), (.iaload, []), (.aload_n 0, []), (.iload_n 3, []), (.iconst 2, []), (.iadd, []), (.iaload, []), (.invokevirtual 151, [61, 1, 11, 1133, 1134, 1135, 0]), (.aload_n 2, []), (.aload_n 0, []), (.iload_n 3, []), (.iconst 1, []), (.iadd, []), (.iaload, []), (.aload_n 0, []), (.iload_n 3, []), (.iconst 2, []), (.iadd, []), (.iaload, []), (.invokevirtual 154, [151, 1, 12, 2028, 2029, 2030, 0]), (.if_icmp .eq 393, [142, 106])])
def pb_L_law_106 : sm_B := (1229, none, 0, [(.iconst 0, []), (.ireturn, [])])
def pb_L_law_107 : sm_B := (1231, none, 0, [(.aload_n 1, []), (.aload_n 0, []), (.iload_n 3, []), (.iconst 1, []), (.iadd, []), (.iaload, []), (.invokevirtual 155, [68, 1, 11, 1152, 1153, 1154, 0]), (.aload_n 2, []), (.aload_n 0, []), (.iload_n 3, []), (.iconst 1, []), (.iadd, []), (.iaload, []), (.invokevirtual 158, [168, 1, 12, 2048, 2049, 2050, 0]), (.if_icmp .eq 370, [142, 108])])
def pb_L_law_108 : sm_B := (1252, none, 0, [(.iconst 0, []), (.ireturn, [])])
def pb_L_law_109 : sm_B := (1254, none, 0, [(.aload_n 1, []), (.aload_n 0, []), (.iload_n 3, []), (.iconst 1, []), (.iadd, []), (.iaload, []), (.invokevirtual 159, [38, 1, 11, 1187, 1188, 1189, 0]), (.aload_n 2, []), (.aload_n 0, []), (.iload_n 3, []), (.iconst 1, []), (.iadd, []), (.iaload, []), (.invokevirtual 162, [119, 1, 12, 2060, 2061, 2062, 0]), (.if_icmp .eq 347, [142, 110])])
def pb_L_law_110 : sm_B := (1275, none, 0, [(.iconst 0, []), (.ireturn, [])])
def pb_L_law_111 : sm_B := (1277, none, 112, [(.aload_n 1, []), (.aload_n 0, []), (.iload_n 3, []), (.iconst 1, []), (.iadd, []), (.iaload, []), (.aload_n 0, []), (.iload_n 3, []), (.iconst 2, []), (.iadd, []), (.iaload, []), (.aload_n 0, []), (.iload_n 3, []), (.iconst 3, []), (.iadd, []), (.iaload, []), (.aload_n 0, []), (.iload_n 3, []), (.iconst 4, []), (.iadd, []), (.iaload, []), (.invokevirtual 163, [63, 1, 11, 1195, 1196, 1197, 0]), (.aload_n 2, []), (.aload_n 0, []), (.iload_n 3, []), (.iconst 1, []), (.iadd, []), (.iaload, []), (.aload_n 0, []), (.iload_n 3, []), (.iconst 2, []), (.iadd, []), (.iaload, []), (.aload_n 0, []), (.iload_n 3, []), (.iconst 3, []), (.iadd, []), (.iaload, []), (.aload_n 0, []), (.iload_n 3, [])])
def pb_L_law_112 : sm_B := (1319, none, 0, [(.iconst 4, []), (.iadd, []), (.iaload, []), (.invokevirtual 166, [156, 1, 12, 1737, 1738, 1739, 0]), (.if_icmp .eq 294, [142, 113])])
def pb_L_law_113 : sm_B := (1328, none, 0, [(.iconst 0, []), (.ireturn, [])])
def pb_L_law_114 : sm_B := (1330, none, 0, [(.aload_n 1, []), (.invokevirtual 167, [37, 1, 11, 1202, 1203, 1204, 0]), (.aload_n 2, []), (.invokevirtual 170, [118, 1, 12, 1748, 1749, 1750, 0]), (.if_icmp .eq 281, [142, 115])])
def pb_L_law_115 : sm_B := (1341, none, 0, [(.iconst 0, []), (.ireturn, [])])
def pb_L_law_116 : sm_B := (1343, none, 0, [(.aload_n 1, []), (.aload_n 0, []), (.iload_n 3, []), (.iconst 1, []), (.iadd, []), (.iaload, []), (.aload_n 0, []), (.iload_n 3, []), (.iconst 2, []), (.iadd, []), (.iaload, []), (.invokevirtual 171, [82, 1, 11, 1206, 1207, 1208, 0]), (.aload_n 2, []), (.aload_n 0, []), (.iload_n 3, []), (.iconst 1, []), (.iadd, []), (.iaload, []), (.aload_n 0, []), (.iload_n 3, []), (.iconst 2, []), (.iadd, []), (.iaload, []), (.invokevirtual 174, [199, 1, 12, 2064, 2065, 2066, 0]), (.if_icmp .eq 248, [142, 117])])
def pb_L_law_117 : sm_B := (1374, none, 0, [(.iconst 0, []), (.ireturn, [])])
def pb_L_law_118 : sm_B := (1376, none, 0, [(.aload_n 1, []), (.invokevirtual 175, [78, 1, 11, 1214, 1215, 1216, 0]), (.aload_n 2, []), (.invokevirtual 178, [182, 1, 12, 2068, 2069, 2070, 0]), (.if_icmp .eq 235, [142, 119])])
def pb_L_law_119 : sm_B := (1387, none, 0, [(.iconst 0, []), (.ireturn, [])])
def pb_L_law_120 : sm_B := (1389, none, 0, [(.aload_n 1, []), (.aload_n 0, []), (.iload_n 3, []), (.iconst 1, []), (.iadd, []), (.iaload, []), (.aload_n 0, []), (.iload_n 3, []), (.iconst 2, []), (.iadd, []), (.iaload, []), (.aload_n 0, []), (.iload_n 3, []), (.iconst 3, []), (.iadd, []), (.iaload, []), (.ifCond .eq 7, [122, 121])])
def pb_L_law_121 : sm_B := (1408, none, 0, [(.iconst 1, []), (.goto 4, [123])])
def pb_L_law_122 : sm_B := (1412, none, 123, [(.iconst 0, [])])
def pb_L_law_123 : sm_B := (1413, none, 0, [(.invokevirtual 179, [79, 1, 11, 1227, 1228, 1229, 0]), (.aload_n 2, []), (.aload_n 0, []), (.iload_n 3, []), (.iconst 1, []), (.iadd, []), (.iaload, []), (.aload_n 0, []), (.iload_n 3, []), (.iconst 2, []), (.iadd, []), (.iaload, []), (.aload_n 0, []), (.iload_n 3, []), (.iconst 3, []), (.iadd, []), (.iaload, []), (.ifCond .eq 7, [125, 124])])
def pb_L_law_124 : sm_B := (1435, none, 0, [(.iconst 1, []), (.goto 4, [126])])
def pb_L_law_125 : sm_B := (1439, none, 126, [(.iconst 0, [])])
def pb_L_law_126 : sm_B := (1440, none, 0, [(.invokevirtual 182, [185, 1, 12, 2076, 2077, 2078, 0]), (.if_icmp .eq 176, [142, 127])])
def pb_L_law_127 : sm_B := (1446, none, 0, [(.iconst 0, []), (.ireturn, [])])
def pb_L_law_128 : sm_B := (1448, none, 0, [(.aload_n 1, []), (.aload_n 0, []), (.iload_n 3, []), (.iconst 1, []), (.iadd, []), (.iaload, []), (.aload_n 0, []), (.iload_n 3, []), (.iconst 2, []), (.iadd, []), (.iaload, []), (.aload_n 0, []), (.iload_n 3, []), (.iconst 3, []), (.iadd, []), (.iaload, []), (.invokevirtual 183, [34, 1, 11, 1232, 1233, 1234, 0]), (.aload_n 2, []), (.aload_n 0, []), (.iload_n 3, []), (.iconst 1, []), (.iadd, []), (.iaload, []), (.aload_n 0, []), (.iload_n 3, []), (.iconst 2, []), (.iadd, []), (.iaload, []), (.aload_n 0, []), (.iload_n 3, []), (.iconst 3, []), (.iadd, []), (.iaload, []), (.invokevirtual 187, [114, 1, 12, 2080, 2081, 2082, 0]), (.if_icmp .eq 133, [142, 129])])
def pb_L_law_129 : sm_B := (1489, none, 0, [(.iconst 0, []), (.ireturn, [])])
def pb_L_law_130 : sm_B := (1491, none, 0, [(.aload_n 1, []), (.invokevirtual 188, [41, 1, 11, 1240, 1241, 1242, 0]), (.aload_n 2, []), (.invokevirtual 191, [123, 1, 12, 2084, 2085, 2086, 0]), (.if_icmp .eq 120, [142, 131])])
def pb_L_law_131 : sm_B := (1502, none, 0, [(.iconst 0, []), (.ireturn, [])])
def pb_L_law_132 : sm_B := (1504, none, 0, [(.aload_n 1, []), (.aload_n 0, []), (.iload_n 3, []), (.iconst 1, []), (.iadd, []), (.iaload, []), (.invokevirtual 192, [22, 1, 11, 1252, 1253, 1254, 0]), (.aload_n 2, []), (.aload_n 0, []), (.iload_n 3, []), (.iconst 1, []), (.iadd, []), (.iaload, []), (.invokevirtual 195, [86, 1, 12, 2092, 2093, 2094, 0]), (.if_icmp .eq 97, [142, 133])])
def pb_L_law_133 : sm_B := (1525, none, 0, [(.iconst 0, []), (.ireturn, [])])
def pb_L_law_134 : sm_B := (1527, none, 0, [(.aload_n 1, []), (.aload_n 0, []), (.iload_n 3, []), (.iconst 1, []), (.iadd, []), (.iaload, []), (.invokevirtual 196, [59, 1, 11, 1256, 1257, 1258, 0]), (.aload_n 2, []), (.aload_n 0, []), (.iload_n 3, []), (.iconst 1, []), (.iadd, []), (.iaload, []), (.invokevirtual 199, [146, 1, 12, 2096, 2097, 2098, 0]), (.if_icmp .eq 74, [142, 135])])
def pb_L_law_135 : sm_B := (1548, none, 0, [(.iconst 0, []), (.ireturn, [])])
def pb_L_law_136 : sm_B := (1550, none, 0, [(.aload_n 1, []), (.invokevirtual 200, [58, 1, 11, 1280, 1281, 1282, 0]), (.aload_n 2, []), (.invokevirtual 203, [145, 1, 12, 2100, 2101, 2102, 0]), (.if_icmp .eq 61, [142, 137])])
def pb_L_law_137 : sm_B := (1561, none, 0, [(.iconst 0, []), (.ireturn, [])])
def pb_L_law_138 : sm_B := (1563, none, 0, [(.aload_n 1, []), (.aload_n 0, []), (.iload_n 3, []), (.iconst 1, []), (.iadd, []), (.iaload, []), (.aload_n 0, []), (.iload_n 3, []), (.iconst 2, []), (.iadd, []), (.iaload, []), (.invokevirtual 204, [46, 1, 11, 1284, 1285, 1286, 0]), (.aload_n 2, []), (.aload_n 0, []), (.iload_n 3, []), (.iconst 1, []), (.iadd, []), (.iaload, []), (.aload_n 0, []), (.iload_n 3, []), (.iconst 2, []), (.iadd, []), (.iaload, []), (.invokevirtual 207, [130, 1, 12, 2104, 2105, 2106, 0]), (.if_icmp .eq 28, [142, 139])])
def pb_L_law_139 : sm_B := (1594, none, 0, [(.iconst 0, []), (.ireturn, [])])
def pb_L_law_140 : sm_B := (1596, none, 0, [(.aload_n 1, []), (.aload_n 0, []), (.iload_n 3, []), (.iconst 1, []), (.iadd, []), (.iaload, []), (.invokevirtual 208, [32, 1, 11, 1288, 1289, 1290, 0]), (.aload_n 2, []), (.aload_n 0, []), (.iload_n 3, []), (.iconst 1, []), (.iadd, []), (.iaload, []), (.invokevirtual 211, [111, 1, 12, 2108, 2109, 2110, 0]), (.if_icmp .eq 5, [142, 141])])
def pb_L_law_141 : sm_B := (1617, none, 0, [(.iconst 0, []), (.ireturn, [])])
def pb_L_law_142 : sm_B := (1619, none, 0, [(.iinc 3 6, []), (.goto (-1604), [1])])
def pb_L_law_143 : sm_B := (1625, none, 0, [(.iconst 1, []), (.ireturn, [])])
def pm_L_law : sm_M := (yL_law, code, 4, (some .boolean), 1, 166, 118203, [0, 0, 0], [
  pb_L_law_0,
  pb_L_law_1,
  pb_L_law_2,
  pb_L_law_3,
  pb_L_law_4,
  pb_L_law_5,
  pb_L_law_6,
  pb_L_law_7,
  pb_L_law_8,
  pb_L_law_9,
  pb_L_law_10,
  pb_L_law_11,
  pb_L_law_12,
  pb_L_law_13,
  pb_L_law_14,
  pb_L_law_15,
  pb_L_law_16,
  pb_L_law_17,
  pb_L_law_18,
  pb_L_law_19,
  pb_L_law_20,
  pb_L_law_21,
  pb_L_law_22,
  pb_L_law_23,
  pb_L_law_24,
  pb_L_law_25,
  pb_L_law_26,
  pb_L_law_27,
  pb_L_law_28,
  pb_L_law_29,
  pb_L_law_30,
  pb_L_law_31,
  pb_L_law_32,
  pb_L_law_33,
  pb_L_law_34,
  pb_L_law_35,
  pb_L_law_36,
  pb_L_law_37,
  pb_L_law_38,
  pb_L_law_39,
  pb_L_law_40,
  pb_L_law_41,
  pb_L_law_42,
  pb_L_law_43,
  pb_L_law_44,
  pb_L_law_45,
  pb_L_law_46,
  pb_L_law_47,
  pb_L_law_48,
  pb_L_law_49,
  pb_L_law_50,
  pb_L_law_51,
  pb_L_law_52,
  pb_L_law_53,
  pb_L_law_54,
  pb_L_law_55,
  pb_L_law_56,
  pb_L_law_57,
  pb_L_law_58,
  pb_L_law_59,
  pb_L_law_60,
  pb_L_law_61,
  pb_L_law_62,
  pb_L_law_63,
  pb_L_law_64,
  pb_L_law_65,
  pb_L_law_66,
  pb_L_law_67,
  pb_L_law_68,
  pb_L_law_69,
  pb_L_law_70,
  pb_L_law_71,
  pb_L_law_72,
  pb_L_law_73,
  pb_L_law_74,
  pb_L_law_75,
  pb_L_law_76,
  pb_L_law_77,
  pb_L_law_78,
  pb_L_law_79,
  pb_L_law_80,
  pb_L_law_81,
  pb_L_law_82,
  pb_L_law_83,
  pb_L_law_84,
  pb_L_law_85,
  pb_L_law_86,
  pb_L_law_87,
  pb_L_law_88,
  pb_L_law_89,
  pb_L_law_90,
  pb_L_law_91,
  pb_L_law_92,
  pb_L_law_93,
  pb_L_law_94,
  pb_L_law_95,
  pb_L_law_96,
  pb_L_law_97,
  pb_L_law_98,
  pb_L_law_99,
  pb_L_law_100,
  pb_L_law_101,
  pb_L_law_102,
  pb_L_law_103,
  pb_L_law_104,
  pb_L_law_105,
  pb_L_law_106,
  pb_L_law_107,
  pb_L_law_108,
  pb_L_law_109,
  pb_L_law_110,
  pb_L_law_111,
  pb_L_law_112,
  pb_L_law_113,
  pb_L_law_114,
  pb_L_law_115,
  pb_L_law_116,
  pb_L_law_117,
  pb_L_law_118,
  pb_L_law_119,
  pb_L_law_120,
  pb_L_law_121,
  pb_L_law_122,
  pb_L_law_123,
  pb_L_law_124,
  pb_L_law_125,
  pb_L_law_126,
  pb_L_law_127,
  pb_L_law_128,
  pb_L_law_129,
  pb_L_law_130,
  pb_L_law_131,
  pb_L_law_132,
  pb_L_law_133,
  pb_L_law_134,
  pb_L_law_135,
  pb_L_law_136,
  pb_L_law_137,
  pb_L_law_138,
  pb_L_law_139,
  pb_L_law_140,
  pb_L_law_141,
  pb_L_law_142,
  pb_L_law_143])
def sm_prog_0 : List sm_M := [pm_X0_answer, pm_X0_answered, pm_X0_answersOf, pm_X0_countLeft, pm_X0_countStates, pm_X0_firstQuestion, pm_X0_init, pm_X0_isLeft, pm_X0_leftWith, pm_X0_neededWith, pm_X0_spread, pm_X0_workOut, pm_X10_addPath, pm_X10_allBits, pm_X10_clear, pm_X10_findMoves]
def sm_prog_1 : List sm_M := [pm_X10_findWalks, pm_X10_firstSpan, pm_X10_init, pm_X10_partsOf, pm_X10_trustOf, pm_X10_walkBetween, pm_X11_alone, pm_X11_ask, pm_X11_back, pm_X11_bears, pm_X11_been, pm_X11_breaks, pm_X11_can, pm_X11_cheapest, pm_X11_choice, pm_X11_could]
def sm_prog_2 : List sm_M := [pm_X11_count, pm_X11_doubt, pm_X11_drawn, pm_X11_ends, pm_X11_feed, pm_X11_fewer, pm_X11_first, pm_X11_forced, pm_X11_gap, pm_X11_give, pm_X11_givingUp, pm_X11_givingUps, pm_X11_goWithGuest, pm_X11_goes, pm_X11_hand, pm_X11_hour]
def sm_prog_3 : List sm_M := [pm_X11_init, pm_X11_isDoubted, pm_X11_isGoneThrough, pm_X11_isKept, pm_X11_isMinute, pm_X11_isPerson, pm_X11_isPlace, pm_X11_isSay, pm_X11_isSaying, pm_X11_isTime, pm_X11_keep, pm_X11_kept, pm_X11_leastGive, pm_X11_left, pm_X11_levelOf, pm_X11_more]
def sm_prog_4 : List sm_M := [pm_X11_move, pm_X11_next, pm_X11_pick, pm_X11_place, pm_X11_plan, pm_X11_planTo, pm_X11_price, pm_X11_putFour, pm_X11_quarrel, pm_X11_quarrels, pm_X11_read, pm_X11_ring, pm_X11_ringAt, pm_X11_set, pm_X11_setWays, pm_X11_slack]
def sm_prog_5 : List sm_M := [pm_X11_stale, pm_X11_stands, pm_X11_tried, pm_X11_walk, pm_X11_ways, pm_X11_whereAt, pm_X12_alone, pm_X12_answers, pm_X12_appends, pm_X12_ask, pm_X12_asks, pm_X12_atMost, pm_X12_back, pm_X12_bears, pm_X12_bearsSpan, pm_X12_been]
def sm_prog_6 : List sm_M := [pm_X12_begins, pm_X12_between, pm_X12_bits, pm_X12_bound, pm_X12_breaks, pm_X12_byteAt, pm_X12_can, pm_X12_changes, pm_X12_cheapest, pm_X12_choice, pm_X12_choiceOf, pm_X12_choices, pm_X12_chooses, pm_X12_copies, pm_X12_could, pm_X12_count]
def sm_prog_7 : List sm_M := [pm_X12_cut, pm_X12_doubt, pm_X12_drawn, pm_X12_ends, pm_X12_fail, pm_X12_feed, pm_X12_fewer, pm_X12_first, pm_X12_forced, pm_X12_gap, pm_X12_gapNow, pm_X12_give, pm_X12_gives, pm_X12_givingUp, pm_X12_givingUps, pm_X12_goes]
def sm_prog_8 : List sm_M := [pm_X12_goesAll, pm_X12_goesOn, pm_X12_hand, pm_X12_hasWay, pm_X12_holdsSpan, pm_X12_hour, pm_X12_in, pm_X12_init, pm_X12_is, pm_X12_isDigit, pm_X12_isLeft, pm_X12_isLetter, pm_X12_isMinute, pm_X12_isPerson, pm_X12_isSaying, pm_X12_isTime]
def sm_prog_9 : List sm_M := [pm_X12_itemAt, pm_X12_keep, pm_X12_kept, pm_X12_known, pm_X12_knows, pm_X12_lays, pm_X12_laysSet, pm_X12_left, pm_X12_leftOf, pm_X12_lists, pm_X12_meets, pm_X12_meetsAll, pm_X12_more, pm_X12_move, pm_X12_must, pm_X12_named]
def sm_prog_10 : List sm_M := [pm_X12_next, pm_X12_notes, pm_X12_number, pm_X12_oneMore, pm_X12_openAt, pm_X12_pick, pm_X12_pickedStands, pm_X12_place, pm_X12_plan, pm_X12_planOf, pm_X12_plans, pm_X12_price, pm_X12_put, pm_X12_quarrel, pm_X12_quarrels, pm_X12_read]
def sm_prog_11 : List sm_M := [pm_X12_ring, pm_X12_ringAt, pm_X12_rings, pm_X12_searches, pm_X12_sees, pm_X12_set, pm_X12_setWays, pm_X12_sets, pm_X12_sign, pm_X12_slack, pm_X12_stands, pm_X12_sureOnes, pm_X12_tell, pm_X12_tellAll, pm_X12_tellName, pm_X12_tellOpen]
def sm_prog_12 : List sm_M := [pm_X12_tellQuestion, pm_X12_tellSaying, pm_X12_tellSpan, pm_X12_tellTime, pm_X12_tellWay, pm_X12_token, pm_X12_toldItem, pm_X12_tried, pm_X12_trustIn, pm_X12_undoubted, pm_X12_walk, pm_X12_walks, pm_X12_ways, pm_X12_word, pm_X12_wrong, pm_X1_addTry]
def sm_prog_13 : List sm_M := [pm_X1_addWay, pm_X1_choiceOf, pm_X1_init, pm_X1_tryOf, pm_X2_addItem, pm_X2_begin, pm_X2_bind, pm_X2_bring, pm_X2_choicesOf, pm_X2_distance, pm_X2_goThrough, pm_X2_host, pm_X2_init_6925, pm_X2_init_7540, pm_X2_init_9676, pm_X2_layBase]
def sm_prog_14 : List sm_M := [pm_X2_minute, pm_X2_minuteWith, pm_X2_noteWay, pm_X2_push, pm_X2_pushMove, pm_X2_takes, pm_X2_walkOf, pm_X2_widen, pm_X3_clear, pm_X3_faultOf, pm_X3_follow, pm_X3_hasRoom, pm_X3_init, pm_X4_clear, pm_X4_init, pm_X5_blank]
def sm_prog_15 : List sm_M := [pm_X5_copyUp, pm_X5_hasLevel, pm_X5_hasNode, pm_X5_init_6809, pm_X5_init_7414, pm_X5_init_9540, pm_X5_loose, pm_X5_reach, pm_X5_tighten, pm_X5_tightenRow, pm_X6_cheapestGiving, pm_X6_goThroughAll, pm_X6_holdTogether, pm_X6_init, pm_X6_isGivingUp, pm_X6_isKnown]
def sm_prog_16 : List sm_M := [pm_X6_isQuarrel, pm_X6_isTight, pm_X6_itemOf, pm_X6_listRing, pm_X6_listSets, pm_X7_addSaying, pm_X7_changePlaces, pm_X7_endPathOrOpen, pm_X7_endSpan, pm_X7_find, pm_X7_init, pm_X7_meaningFault, pm_X7_numberNew, pm_X7_readTape, pm_X7_syntaxFault, pm_X7_take]
def sm_prog_17 : List sm_M := [pm_X7_takeInt, pm_X7_takeJoin, pm_X7_takeNew, pm_X7_takeOpen, pm_X7_takePath, pm_X7_takeSpanTime, pm_X7_takeTrust, pm_X7_takeWhere, pm_X8_bound, pm_X8_holds, pm_X8_init_20, pm_X8_init_24, pm_X8_init_40, pm_X8_init_480, pm_X8_isSet, pm_X8_put]
def sm_prog_18 : List sm_M := [pm_X9_endOfDigits, pm_X9_endOfLetters, pm_X9_init, pm_X9_isBlank, pm_X9_isDigit, pm_X9_isLetter, pm_X9_scan, pm_X9_scanOne, pm_X9_sign, pm_X9_wordOrName, pm_J6_bitCount_0f7a4, pm_J7_fill_53178, pm_L_law]
def sm_prog : List (List sm_M) := [sm_prog_0, sm_prog_1, sm_prog_2, sm_prog_3, sm_prog_4, sm_prog_5, sm_prog_6, sm_prog_7, sm_prog_8, sm_prog_9, sm_prog_10, sm_prog_11, sm_prog_12, sm_prog_13, sm_prog_14, sm_prog_15, sm_prog_16, sm_prog_17, sm_prog_18]
def sm_P (f : Nat) : sm_M := (sm_prog.getD (f / 16) []).getD (f % 16) pm_X0_answer
end
section
/-! the tables are in order -/
theorem om_X0_answer : sm_okM sm_P pm_X0_answer = true := sm_okMf_of [[0, 1, 4, 7, 8, 9, 11, 12, 15, 18, 19, 20, 22, 23, 26, 29, 30, 33, 35], [38, 39, 42, 43, 44, 45, 47, 49, 50, 53, 56, 57, 58, 59, 62, 65, 66, 67, 70], [71, 73, 74], [77, 78, 81, 84, 85, 86, 87, 89, 90, 91, 93, 94, 95, 96, 99, 102, 103, 104, 105, 106, 109], [110, 111, 114, 117, 118, 119, 120, 122, 123, 124, 126, 127, 128, 129, 132, 135, 136, 137, 138, 139, 140, 143]] (by decide +kernel)
theorem ok_X0_answer : sm_OK sm_P pm_X0_answer := ⟨om_X0_answer, fun _ => ⟨sm_inw 4 124 rfl rfl, sm_inw 0 13 rfl rfl⟩⟩
theorem om_X0_answered : sm_okM sm_P pm_X0_answered = true := sm_okMf_of [[0, 1, 3, 4, 6], [6, 8, 9, 12, 15], [18, 19, 22, 23, 26, 28, 31, 32, 33, 36, 37, 40, 43, 44, 47, 50, 51, 52, 53, 56, 59, 60, 61, 62, 65, 67, 68, 71, 72, 75, 78, 79, 82, 85, 86, 87, 88, 91, 94, 95, 96], [96, 97, 100, 102, 103, 106, 109, 110, 111, 113, 114, 117, 120, 121, 122, 124, 126, 128], [131, 133, 135], [138, 140, 142], [145, 146], [149, 150], [150, 152, 154, 156], [159, 161, 163], [166, 167], [170, 171], [171, 173, 174], [177, 179], [182], [185, 187], [190, 193], [193, 196], [199, 201]] (by decide +kernel)
theorem ok_X0_answered : sm_OK sm_P pm_X0_answered := ⟨om_X0_answered, fun _ => ⟨sm_inw 4 101 rfl rfl, sm_inw 0 13 rfl rfl⟩⟩
theorem om_X0_answersOf : sm_okM sm_P pm_X0_answersOf = true := sm_okMf_of [[0, 1, 2, 3, 4], [4, 5, 6, 9], [12, 13, 14, 15, 16, 17], [20, 21, 24, 25, 26, 27, 28], [28, 29, 30, 31, 32, 33, 34, 35], [38, 39, 42, 43, 44, 45, 46, 47, 48], [48, 51], [54, 55]] (by decide +kernel)
theorem ok_X0_answersOf : sm_OK sm_P pm_X0_answersOf := ⟨om_X0_answersOf, fun _ => ⟨sm_inw 4 149 rfl rfl, sm_inw 0 13 rfl rfl⟩⟩
theorem om_X0_countLeft : sm_okM sm_P pm_X0_countLeft = true := sm_okMf_of [[0, 1, 2, 3, 5], [5, 7, 8], [11, 12], [15, 16, 19, 21, 22, 23, 24], [27, 30], [30, 33], [36, 37]] (by decide +kernel)
theorem ok_X0_countLeft : sm_OK sm_P pm_X0_countLeft := ⟨om_X0_countLeft, fun _ => ⟨sm_inw 4 153 rfl rfl, sm_inw 0 13 rfl rfl⟩⟩
theorem om_X0_countStates : sm_okM sm_P pm_X0_countStates = true := sm_okMf_of [[0, 1, 4], [7], [8, 9, 10, 13, 14, 17, 20, 22, 25, 26, 27, 28], [28, 29, 30], [33, 34, 37, 38, 41, 42, 45, 46, 47, 50, 51, 52, 53, 54, 55, 56, 57, 58, 61, 64, 65, 68, 71], [74, 75, 76], [76, 77, 80], [83, 84, 87, 88, 89, 90, 91, 92, 95, 98, 99, 102], [105]] (by decide +kernel)
theorem ok_X0_countStates : sm_OK sm_P pm_X0_countStates := ⟨om_X0_countStates, fun _ => ⟨sm_inw 4 139 rfl rfl, sm_inw 0 13 rfl rfl⟩⟩
theorem om_X0_firstQuestion : sm_okM sm_P pm_X0_firstQuestion = true := sm_okMf_of [[0, 1, 2], [2, 3, 4, 7], [10, 11, 14, 15, 16], [19, 20, 21, 22, 25, 26, 29, 30, 31], [34, 35], [36, 39], [42, 44]] (by decide +kernel)
theorem ok_X0_firstQuestion : sm_OK sm_P pm_X0_firstQuestion := ⟨om_X0_firstQuestion, fun _ => ⟨sm_inw 4 170 rfl rfl, sm_inw 0 13 rfl rfl⟩⟩
theorem om_X0_init : sm_okM sm_P pm_X0_init = true := sm_okMf_of [[0, 1, 4, 5, 7, 9, 12, 13, 16, 18, 21, 22, 25, 27, 30, 31, 32, 35, 36, 37, 40, 41, 42, 45]] (by decide +kernel)
theorem ok_X0_init : sm_OK sm_P pm_X0_init := ⟨om_X0_init, fun _ => ⟨sm_inw 1 233 rfl rfl, sm_inw 0 13 rfl rfl⟩⟩
theorem om_X0_isLeft : sm_okM sm_P pm_X0_isLeft = true := sm_okMf_of [[0, 1, 2, 5], [8, 9, 10], [13, 14], [15, 17, 18, 19, 20, 21], [24, 25, 26, 27, 28, 29, 32], [35, 36, 37, 38, 39, 40, 41, 42, 43, 45, 47, 50], [53, 54], [57, 58], [58], [59, 61, 62, 63, 64, 65], [68, 69, 70, 71, 72, 73, 74, 76, 78, 81], [82, 83, 84, 85, 86, 87, 90], [93, 94, 95, 96, 97, 98, 99, 100, 101, 103, 105, 108], [111, 112], [113, 114, 115, 116, 117, 118, 121], [124, 125, 126, 127, 128, 129, 130, 131, 132, 134, 136, 139], [142, 143], [146, 147], [147]] (by decide +kernel)
theorem ok_X0_isLeft : sm_OK sm_P pm_X0_isLeft := ⟨om_X0_isLeft, fun _ => ⟨sm_inw 4 120 rfl rfl, sm_inw 0 13 rfl rfl⟩⟩
theorem om_X0_leftWith : sm_okM sm_P pm_X0_leftWith = true := sm_okMf_of [[0, 1, 3, 4, 6], [6, 8, 9, 12, 15], [18, 19, 22, 23, 26, 28, 31, 32, 33, 34, 35, 36, 39, 42, 43, 44, 47], [50, 53], [53, 56], [59, 61]] (by decide +kernel)
theorem ok_X0_leftWith : sm_OK sm_P pm_X0_leftWith := ⟨om_X0_leftWith, fun _ => ⟨sm_inw 4 116 rfl rfl, sm_inw 0 13 rfl rfl⟩⟩
theorem om_X0_neededWith : sm_okM sm_P pm_X0_neededWith = true := sm_okMf_of [[0, 1, 2, 3, 4, 5, 6, 7, 8, 9, 11, 12, 13, 15, 16, 17], [20, 22], [23, 25, 26, 27, 30, 31, 32, 33, 34, 35, 38, 39, 41, 42, 43, 46, 47, 50]] (by decide +kernel)
theorem ok_X0_neededWith : sm_OK sm_P pm_X0_neededWith := ⟨om_X0_neededWith, fun _ => ⟨sm_inw 4 161 rfl rfl, sm_inw 0 13 rfl rfl⟩⟩
theorem om_X0_spread : sm_okM sm_P pm_X0_spread = true := sm_okMf_of [[0, 2, 3, 6, 7, 8, 9, 10, 11], [14], [15, 16, 17, 20], [23, 24, 25], [28, 29, 32, 33, 34, 35, 37, 38, 39], [40, 41, 43], [43, 45, 46], [49, 50, 51, 52, 54, 56, 59], [62, 64], [67, 70, 71, 72], [75, 78, 79, 80, 81, 82], [82, 84, 85, 86, 87, 88, 89, 90, 92, 93, 94, 96, 98, 99, 102], [102, 105], [108]] (by decide +kernel)
theorem ok_X0_spread : sm_OK sm_P pm_X0_spread := ⟨om_X0_spread, fun _ => ⟨sm_inw 4 144 rfl rfl, sm_inw 0 13 rfl rfl⟩⟩
theorem om_X0_workOut : sm_okM sm_P pm_X0_workOut = true := sm_okMf_of [[0, 3, 4], [4, 5], [8, 9, 12, 13, 14, 15], [18, 19], [22, 24], [24, 26, 27, 29], [29, 31, 32, 35], [38, 40], [43, 45, 46, 47, 49, 52, 55, 57, 60], [63, 64, 67, 68, 70, 71, 74], [77]] (by decide +kernel)
theorem ok_X0_workOut : sm_OK sm_P pm_X0_workOut := ⟨om_X0_workOut, fun _ => ⟨sm_inw 4 157 rfl rfl, sm_inw 0 13 rfl rfl⟩⟩
theorem om_X10_addPath : sm_okM sm_P pm_X10_addPath = true := sm_okMf_of [[0, 1, 3, 4, 5, 6, 8, 9, 12, 14, 15, 17, 19], [22, 23, 25], [28, 29, 32, 34, 35, 36, 37, 40, 41, 43, 44, 45, 46, 47, 48], [48]] (by decide +kernel)
theorem ok_X10_addPath : sm_OK sm_P pm_X10_addPath := ⟨om_X10_addPath, fun _ => ⟨sm_inw 2 198 rfl rfl, sm_inw 0 5 rfl rfl⟩⟩
theorem om_X10_allBits : sm_okM sm_P pm_X10_allBits = true := sm_okMf_of [[0, 1, 2, 5, 6, 7, 8]] (by decide +kernel)
theorem ok_X10_allBits : sm_OK sm_P pm_X10_allBits := ⟨om_X10_allBits, fun _ => ⟨sm_inw 3 41 rfl rfl, sm_inw 0 5 rfl rfl⟩⟩
theorem om_X10_clear : sm_okM sm_P pm_X10_clear = true := sm_okMf_of [[0, 1, 2, 5, 6, 7, 10, 11, 12, 15, 16, 17, 20, 21, 22, 25, 26, 27, 30, 31, 32, 35, 36, 39, 41, 44, 45, 46], [46, 47, 49], [52, 53, 56, 57, 59, 60, 61, 62, 63, 64, 67], [70, 71, 74, 75, 78, 79, 82, 83, 86, 87, 90, 93, 94, 97, 98, 101, 102, 105, 106, 109, 110, 113, 114, 117, 118, 121]] (by decide +kernel)
theorem ok_X10_clear : sm_OK sm_P pm_X10_clear := ⟨om_X10_clear, fun _ => ⟨sm_inw 0 116 rfl rfl, sm_inw 0 5 rfl rfl⟩⟩
theorem om_X10_findMoves : sm_okM sm_P pm_X10_findMoves = true := sm_okMf_of [[0, 1, 2, 5, 6, 7], [7, 8, 9, 12], [15, 16, 17, 18, 19], [19, 20, 21, 24], [27, 28, 31, 32, 33, 34], [37, 38, 41, 42, 43, 44, 47, 48, 49], [52, 53], [56, 57], [57, 58, 59], [62, 63, 66, 67, 68, 69, 72, 73, 74], [77, 78, 81, 83], [86, 87, 90, 91, 94, 95, 96, 97, 100, 101, 104, 105, 106, 107, 110, 111, 114, 115, 116, 119, 120, 121, 122, 125, 126, 127, 130, 131, 132, 133, 136, 137, 138, 141], [141, 144], [147, 150], [153]] (by decide +kernel)
theorem ok_X10_findMoves : sm_OK sm_P pm_X10_findMoves := ⟨om_X10_findMoves, fun _ => ⟨sm_inw 2 231 rfl rfl, sm_inw 0 5 rfl rfl⟩⟩
theorem om_X10_findWalks : sm_okM sm_P pm_X10_findWalks = true := sm_okMf_of [[0, 1, 2], [2, 3, 4, 7], [10, 11, 12], [12, 13, 14, 17], [20, 21, 22], [22, 23, 24], [27, 28, 29, 30, 33, 35, 36, 37, 38, 41, 43, 45], [48, 50], [53, 54, 55, 56, 58, 60, 61, 64], [64, 67], [70, 73], [76, 79], [82]] (by decide +kernel)
theorem ok_X10_findWalks : sm_OK sm_P pm_X10_findWalks := ⟨om_X10_findWalks, fun _ => ⟨sm_inw 2 222 rfl rfl, sm_inw 0 5 rfl rfl⟩⟩
theorem om_X10_firstSpan : sm_okM sm_P pm_X10_firstSpan = true := sm_okMf_of [[0, 1, 2, 3, 4, 5, 6, 7]] (by decide +kernel)
theorem ok_X10_firstSpan : sm_OK sm_P pm_X10_firstSpan := ⟨om_X10_firstSpan, fun _ => ⟨sm_inw 2 214 rfl rfl, sm_inw 0 5 rfl rfl⟩⟩
theorem om_X10_init : sm_okM sm_P pm_X10_init = true := sm_okMf_of [[0, 1, 4, 5, 7, 9, 12, 13, 15, 17, 20, 21, 23, 25, 28, 29, 32, 33, 35, 38, 41, 42, 44, 46, 49, 50, 52, 54, 57, 58, 60, 62, 65, 66, 69, 70, 72, 75, 78, 79, 82], [82, 83, 84, 87, 90, 91, 93, 95, 98, 99, 101, 103, 106, 107, 109, 111, 114, 115, 118]] (by decide +kernel)
theorem ok_X10_init : sm_OK sm_P pm_X10_init := ⟨om_X10_init, fun _ => ⟨sm_inw 0 81 rfl rfl, sm_inw 0 5 rfl rfl⟩⟩
theorem om_X10_partsOf : sm_okM sm_P pm_X10_partsOf = true := sm_okMf_of [[0, 1, 4, 5, 6, 7, 8, 9, 10]] (by decide +kernel)
theorem ok_X10_partsOf : sm_OK sm_P pm_X10_partsOf := ⟨om_X10_partsOf, fun _ => ⟨sm_inw 2 218 rfl rfl, sm_inw 0 5 rfl rfl⟩⟩
theorem om_X10_trustOf : sm_okM sm_P pm_X10_trustOf = true := sm_okMf_of [[0, 1, 2, 3, 4], [4, 5, 6, 9], [12, 13, 14, 15, 16, 17, 18, 19, 22, 23, 24, 25, 26, 27, 30], [33, 34]] (by decide +kernel)
theorem ok_X10_trustOf : sm_OK sm_P pm_X10_trustOf := ⟨om_X10_trustOf, fun _ => ⟨sm_inw 4 36 rfl rfl, sm_inw 0 5 rfl rfl⟩⟩
theorem om_X10_walkBetween : sm_okM sm_P pm_X10_walkBetween = true := sm_okMf_of [[0, 1], [4, 5, 7], [10, 11], [14, 15, 17], [20, 22], [23, 24, 27, 28, 30, 31, 32, 33, 34]] (by decide +kernel)
theorem ok_X10_walkBetween : sm_OK sm_P pm_X10_walkBetween := ⟨om_X10_walkBetween, fun _ => ⟨sm_inw 2 226 rfl rfl, sm_inw 0 5 rfl rfl⟩⟩
theorem om_X11_alone : sm_okM sm_P pm_X11_alone = true := sm_okMf_of [[0, 1, 2, 5], [8, 9, 10, 13], [16, 17], [18, 19, 20, 21, 22, 25]] (by decide +kernel)
theorem ok_X11_alone : sm_OK sm_P pm_X11_alone := ⟨om_X11_alone, fun _ => ⟨sm_inw 4 231 rfl rfl, sm_inw 0 1 rfl rfl⟩⟩
theorem om_X11_ask : sm_okM sm_P pm_X11_ask = true := sm_okMf_of [[0, 1], [4, 5, 6, 9, 12], [15, 16], [17, 18, 21], [24, 25, 28, 29, 32, 33, 34, 37], [40, 42], [42]] (by decide +kernel)
theorem ok_X11_ask : sm_OK sm_P pm_X11_ask := ⟨om_X11_ask, fun _ => ⟨sm_inw 4 97 rfl rfl, sm_inw 0 1 rfl rfl⟩⟩
theorem om_X11_back : sm_okM sm_P pm_X11_back = true := sm_okMf_of [[0, 1], [4, 5, 6, 9], [12, 13], [14, 15, 16, 19, 20, 21, 24, 25, 28]] (by decide +kernel)
theorem ok_X11_back : sm_OK sm_P pm_X11_back := ⟨om_X11_back, fun _ => ⟨sm_inw 2 70 rfl rfl, sm_inw 0 1 rfl rfl⟩⟩
theorem om_X11_bears : sm_okM sm_P pm_X11_bears = true := sm_okMf_of [[0, 1, 2, 5], [8, 9], [10, 12, 13, 14, 17, 20, 21, 22, 23, 24, 25], [25, 26], [29, 30, 33, 34, 35, 38, 40, 41, 43, 45, 47], [47, 49, 51, 52, 55, 56, 57, 60, 61], [64, 65, 68, 71, 73, 74, 77, 80, 83], [86, 88], [89, 91], [94, 95, 98, 101, 103, 104, 107, 110, 113], [116, 117], [120, 121], [121, 123, 126], [129, 131], [134, 135, 136], [136, 139], [142, 143]] (by decide +kernel)
theorem ok_X11_bears : sm_OK sm_P pm_X11_bears := ⟨om_X11_bears, fun _ => ⟨sm_inw 3 202 rfl rfl, sm_inw 0 1 rfl rfl⟩⟩
theorem om_X11_been : sm_okM sm_P pm_X11_been = true := sm_okMf_of [[0, 1, 2, 5], [8, 9, 10, 13], [16, 17], [18, 19, 20, 21, 22, 25, 28, 29, 32, 35], [38, 40], [41, 42, 45, 48], [51, 53], [54, 55], [58, 59, 62, 65], [68, 69, 72, 75], [75]] (by decide +kernel)
theorem ok_X11_been : sm_OK sm_P pm_X11_been := ⟨om_X11_been, fun _ => ⟨sm_inw 4 93 rfl rfl, sm_inw 0 1 rfl rfl⟩⟩
theorem om_X11_breaks : sm_okM sm_P pm_X11_breaks = true := sm_okMf_of [[0, 1, 2], [2, 3, 4, 7, 10], [13, 14, 17, 20, 21, 24, 27, 28, 29, 30, 31, 32, 35, 38, 39, 42, 45, 46, 47, 48, 49, 50, 53, 56, 57, 58, 60, 61, 62], [65, 66, 67], [70], [73, 75], [78, 79, 80, 81, 84, 86], [89, 90], [91, 94], [97, 99]] (by decide +kernel)
theorem ok_X11_breaks : sm_OK sm_P pm_X11_breaks := ⟨om_X11_breaks, fun _ => ⟨sm_inw 3 216 rfl rfl, sm_inw 0 1 rfl rfl⟩⟩
theorem om_X11_can : sm_okM sm_P pm_X11_can = true := sm_okMf_of [[0, 1, 2, 5], [8, 9, 12], [15, 16], [17, 18, 21], [24, 26], [27, 28, 29, 30, 32], [32, 34, 35, 38, 41], [44, 45, 47, 50, 52, 53, 56, 58, 59, 60, 63, 64], [67, 68, 69, 72, 74, 75, 76, 79], [82, 85], [85, 88], [91, 92]] (by decide +kernel)
theorem ok_X11_can : sm_OK sm_P pm_X11_can := ⟨om_X11_can, fun _ => ⟨sm_inw 3 187 rfl rfl, sm_inw 0 1 rfl rfl⟩⟩
theorem om_X11_cheapest : sm_okM sm_P pm_X11_cheapest = true := sm_okMf_of [[0, 1, 4, 5, 8, 9, 12, 15], [18, 20], [21, 22, 25, 26, 29, 32, 33, 34], [37, 39], [42, 43, 46, 49, 50, 51], [51]] (by decide +kernel)
theorem ok_X11_cheapest : sm_OK sm_P pm_X11_cheapest := ⟨om_X11_cheapest, fun _ => ⟨sm_inw 4 28 rfl rfl, sm_inw 0 1 rfl rfl⟩⟩
theorem om_X11_choice : sm_okM sm_P pm_X11_choice = true := sm_okMf_of [[0, 1, 2, 5], [8, 9], [10, 11, 12, 15, 16, 17], [20, 21], [22, 23, 24, 27], [30, 32], [35, 36, 39, 40, 41, 44], [44]] (by decide +kernel)
theorem ok_X11_choice : sm_OK sm_P pm_X11_choice := ⟨om_X11_choice, fun _ => ⟨sm_inw 3 137 rfl rfl, sm_inw 0 1 rfl rfl⟩⟩
theorem om_X11_could : sm_okM sm_P pm_X11_could = true := sm_okMf_of [[0, 1, 2, 5], [8, 9, 10, 13], [16, 17, 20], [23, 25, 28], [31, 32], [33, 34, 36], [39, 40], [41, 42, 43, 44, 45, 47, 50, 51, 54, 57], [60, 62], [63, 64, 67, 70], [73, 74], [77, 78], [78]] (by decide +kernel)
theorem ok_X11_could : sm_OK sm_P pm_X11_could := ⟨om_X11_could, fun _ => ⟨sm_inw 4 77 rfl rfl, sm_inw 0 1 rfl rfl⟩⟩
theorem om_X11_count : sm_okM sm_P pm_X11_count = true := sm_okMf_of [[0, 1], [48, 49, 52, 55], [56, 57, 60, 63], [64, 65, 68, 71], [72, 73, 76, 79], [80, 81, 84, 87], [88, 89, 92, 95], [96, 97, 100, 101, 102, 105, 108], [109, 110, 113], [114, 115, 117], [120, 121, 122, 124, 125, 128], [131, 132, 135, 138, 139, 141, 142, 143], [146, 147], [147]] (by decide +kernel)
theorem ok_X11_count : sm_OK sm_P pm_X11_count := ⟨om_X11_count, fun _ => ⟨sm_inw 5 11 rfl rfl, sm_inw 0 1 rfl rfl⟩⟩
theorem om_X11_doubt : sm_okM sm_P pm_X11_doubt = true := sm_okMf_of [[0, 1, 2, 5], [8, 9], [10, 11, 12, 13, 14, 15], [18, 19, 22, 23, 26, 27, 28, 31, 32, 35, 38, 39, 40, 41], [44, 45, 48, 49, 52, 53, 54, 55, 56, 59], [59, 60, 63, 64]] (by decide +kernel)
theorem ok_X11_doubt : sm_OK sm_P pm_X11_doubt := ⟨om_X11_doubt, fun _ => ⟨sm_inw 3 8 rfl rfl, sm_inw 0 1 rfl rfl⟩⟩
theorem om_X11_drawn : sm_okM sm_P pm_X11_drawn = true := sm_okMf_of [[0, 1, 2, 5], [8, 9, 12], [15, 16], [17, 18, 19, 22, 24, 26], [29, 31], [34, 35, 37, 38, 39, 42], [42]] (by decide +kernel)
theorem ok_X11_drawn : sm_OK sm_P pm_X11_drawn := ⟨om_X11_drawn, fun _ => ⟨sm_inw 4 211 rfl rfl, sm_inw 0 1 rfl rfl⟩⟩
theorem om_X11_ends : sm_okM sm_P pm_X11_ends = true := sm_okMf_of [[0, 1, 2, 5], [8, 9], [10, 11, 14], [17, 19], [20, 22, 23, 24, 26], [26, 28, 29, 32, 35], [38, 39, 42, 43, 45, 48, 49, 50, 53, 55, 56, 58], [61, 62], [65, 67, 68], [71], [74, 76, 77], [80, 82, 83], [83, 86], [89, 90]] (by decide +kernel)
theorem ok_X11_ends : sm_OK sm_P pm_X11_ends := ⟨om_X11_ends, fun _ => ⟨sm_inw 3 183 rfl rfl, sm_inw 0 1 rfl rfl⟩⟩
theorem om_X11_feed : sm_okM sm_P pm_X11_feed = true := sm_okMf_of [[0, 1, 4, 6, 7, 10], [13, 14], [15, 16, 17, 20, 21, 22, 25, 26, 27, 30, 31, 33, 36, 37, 39, 42, 43, 46]] (by decide +kernel)
theorem ok_X11_feed : sm_OK sm_P pm_X11_feed := ⟨om_X11_feed, fun _ => ⟨sm_inw 2 62 rfl rfl, sm_inw 0 1 rfl rfl⟩⟩
theorem om_X11_fewer : sm_okM sm_P pm_X11_fewer = true := sm_okMf_of [[0, 1, 4, 7], [10, 11], [12, 13, 16, 17, 20, 21, 22, 25, 26, 29, 30, 33, 36]] (by decide +kernel)
theorem ok_X11_fewer : sm_OK sm_P pm_X11_fewer := ⟨om_X11_fewer, fun _ => ⟨sm_inw 4 181 rfl rfl, sm_inw 0 1 rfl rfl⟩⟩
theorem om_X11_first : sm_okM sm_P pm_X11_first = true := sm_okMf_of [[0, 1, 2, 5, 6, 7], [10, 11], [14, 15, 18, 19, 22, 25], [25]] (by decide +kernel)
theorem ok_X11_first : sm_OK sm_P pm_X11_first := ⟨om_X11_first, fun _ => ⟨sm_inw 4 166 rfl rfl, sm_inw 0 1 rfl rfl⟩⟩
theorem om_X11_forced : sm_okM sm_P pm_X11_forced = true := sm_okMf_of [[0, 1, 2, 5], [8, 9, 10, 13], [16, 17], [18, 19, 22], [25, 27], [28, 30, 31, 32, 33], [33, 34, 35, 38, 41], [44, 45, 48, 49, 50, 53, 55, 56], [59, 61, 62], [65, 67], [68, 70, 71, 74], [77, 78]] (by decide +kernel)
theorem ok_X11_forced : sm_OK sm_P pm_X11_forced := ⟨om_X11_forced, fun _ => ⟨sm_inw 3 194 rfl rfl, sm_inw 0 1 rfl rfl⟩⟩
theorem om_X11_gap : sm_okM sm_P pm_X11_gap = true := sm_okMf_of [[0, 1, 2, 5], [8, 9, 10, 13], [16, 19], [20, 21, 22, 25, 27, 29], [32, 35], [38, 39, 42, 44, 45, 46, 48, 51], [51]] (by decide +kernel)
theorem ok_X11_gap : sm_OK sm_P pm_X11_gap := ⟨om_X11_gap, fun _ => ⟨sm_inw 3 178 rfl rfl, sm_inw 0 1 rfl rfl⟩⟩
theorem om_X11_give : sm_okM sm_P pm_X11_give = true := sm_okMf_of [[0, 1, 2, 5, 8, 9, 12, 15, 16, 17, 18, 19, 22, 25, 26, 27, 28, 31]] (by decide +kernel)
theorem ok_X11_give : sm_OK sm_P pm_X11_give := ⟨om_X11_give, fun _ => ⟨sm_inw 4 219 rfl rfl, sm_inw 0 1 rfl rfl⟩⟩
theorem om_X11_givingUp : sm_okM sm_P pm_X11_givingUp = true := sm_okMf_of [[0, 1, 4, 5, 8, 9, 12, 15], [18, 20], [21, 22], [25, 26, 27, 30, 33], [36, 37, 40, 43, 44, 45], [48, 49], [49]] (by decide +kernel)
theorem ok_X11_givingUp : sm_OK sm_P pm_X11_givingUp := ⟨om_X11_givingUp, fun _ => ⟨sm_inw 4 24 rfl rfl, sm_inw 0 1 rfl rfl⟩⟩
theorem om_X11_givingUps : sm_okM sm_P pm_X11_givingUps = true := sm_okMf_of [[0, 1, 4, 5, 8, 9, 12, 15], [18, 19, 22, 25], [28, 30], [30]] (by decide +kernel)
theorem ok_X11_givingUps : sm_OK sm_P pm_X11_givingUps := ⟨om_X11_givingUps, fun _ => ⟨sm_inw 4 20 rfl rfl, sm_inw 0 1 rfl rfl⟩⟩
theorem om_X11_goWithGuest : sm_okM sm_P pm_X11_goWithGuest = true := sm_okMf_of [[0, 1, 4, 5, 8, 9, 12, 13, 16, 19, 20, 23, 26, 27, 28, 29, 30, 33, 34, 37, 38, 39, 40, 42, 45, 46, 49, 50, 51, 54]] (by decide +kernel)
theorem ok_X11_goWithGuest : sm_OK sm_P pm_X11_goWithGuest := ⟨om_X11_goWithGuest, fun _ => ⟨sm_inw 4 85 rfl rfl, sm_inw 0 1 rfl rfl⟩⟩
theorem om_X11_goes : sm_okM sm_P pm_X11_goes = true := sm_okMf_of [[0, 1], [4, 5, 6, 9, 12], [15, 16], [17, 18, 19, 22, 23, 24], [27, 28], [31, 32, 35, 36, 38, 39, 40, 43], [43]] (by decide +kernel)
theorem ok_X11_goes : sm_OK sm_P pm_X11_goes := ⟨om_X11_goes, fun _ => ⟨sm_inw 3 158 rfl rfl, sm_inw 0 1 rfl rfl⟩⟩
theorem om_X11_hand : sm_okM sm_P pm_X11_hand = true := sm_okMf_of [[0, 1, 2, 5], [8, 9], [10, 11, 12, 15, 16, 17], [20, 21], [22, 23, 24, 27], [30, 31], [32, 33, 36, 39, 42, 43, 44, 45], [48, 50], [53, 54, 57, 58, 61, 64, 65, 66, 69], [69]] (by decide +kernel)
theorem ok_X11_hand : sm_OK sm_P pm_X11_hand := ⟨om_X11_hand, fun _ => ⟨sm_inw 5 7 rfl rfl, sm_inw 0 1 rfl rfl⟩⟩
theorem om_X11_hour : sm_okM sm_P pm_X11_hour = true := sm_okMf_of [[0, 1, 2, 5], [8, 9], [10, 11, 12, 15, 17, 19], [22, 24], [27, 28, 31, 33, 34, 35, 38], [38]] (by decide +kernel)
theorem ok_X11_hour : sm_OK sm_P pm_X11_hour := ⟨om_X11_hour, fun _ => ⟨sm_inw 3 162 rfl rfl, sm_inw 0 1 rfl rfl⟩⟩
theorem om_X11_init : sm_okM sm_P pm_X11_init = true := sm_okMf_of [[0, 1, 4, 5, 8, 10, 13, 14, 17, 18, 21, 24, 25, 28, 29, 32, 35, 36, 39, 40, 43, 46, 47, 50, 51, 54, 57, 58, 59, 62, 63, 64, 67, 68, 69, 72, 73, 74, 77, 78, 81], [81, 82, 84, 86, 87, 88, 91, 92, 95, 98, 101, 102, 105, 106, 108, 110, 111, 112, 115, 116, 119, 122, 125, 126, 129, 130, 132, 134, 135, 136, 139, 140, 143, 146, 149, 150, 153, 154, 155, 158, 161], [161, 164, 165, 168, 169, 170, 173, 174, 177, 180, 183]] (by decide +kernel)
theorem ok_X11_init : sm_OK sm_P pm_X11_init := ⟨om_X11_init, fun _ => ⟨sm_inw 0 22 rfl rfl, sm_inw 0 1 rfl rfl⟩⟩
theorem om_X11_isDoubted : sm_okM sm_P pm_X11_isDoubted = true := sm_okMf_of [[0, 1, 4, 7, 8, 9, 10, 11], [14, 15], [18, 19], [19]] (by decide +kernel)
theorem ok_X11_isDoubted : sm_OK sm_P pm_X11_isDoubted := ⟨om_X11_isDoubted, fun _ => ⟨sm_inw 3 153 rfl rfl, sm_inw 0 1 rfl rfl⟩⟩
theorem om_X11_isGoneThrough : sm_okM sm_P pm_X11_isGoneThrough = true := sm_okMf_of [[0, 1, 4], [7, 8, 11, 12, 15, 16, 19, 20, 23, 26, 27, 30, 33, 34, 35, 36, 37, 40, 41, 44, 45, 48, 49, 52, 53, 54, 57], [57, 58, 61, 64], [67, 68], [71, 72], [72]] (by decide +kernel)
theorem ok_X11_isGoneThrough : sm_OK sm_P pm_X11_isGoneThrough := ⟨om_X11_isGoneThrough, fun _ => ⟨sm_inw 3 37 rfl rfl, sm_inw 0 1 rfl rfl⟩⟩
theorem om_X11_isKept : sm_okM sm_P pm_X11_isKept = true := sm_okMf_of [[0, 1, 4], [7, 8, 11, 12, 15, 16, 19, 20, 23, 26, 27, 30, 33, 34, 35, 36, 37, 40, 41, 42, 45], [45, 46, 49, 52], [55, 56, 59, 60, 63, 64, 67], [70, 71], [74, 75], [75]] (by decide +kernel)
theorem ok_X11_isKept : sm_OK sm_P pm_X11_isKept := ⟨om_X11_isKept, fun _ => ⟨sm_inw 4 239 rfl rfl, sm_inw 0 1 rfl rfl⟩⟩
theorem om_X11_isMinute : sm_okM sm_P pm_X11_isMinute = true := sm_okMf_of [[0, 1], [4, 5, 8], [11, 12], [15, 16], [16]] (by decide +kernel)
theorem ok_X11_isMinute : sm_OK sm_P pm_X11_isMinute := ⟨om_X11_isMinute, fun _ => ⟨sm_inw 3 190 rfl rfl, sm_inw 0 1 rfl rfl⟩⟩
theorem om_X11_isPerson : sm_okM sm_P pm_X11_isPerson = true := sm_okMf_of [[0, 1], [4, 5, 6, 9, 12], [15, 16], [19, 20], [20]] (by decide +kernel)
theorem ok_X11_isPerson : sm_OK sm_P pm_X11_isPerson := ⟨om_X11_isPerson, fun _ => ⟨sm_inw 4 81 rfl rfl, sm_inw 0 1 rfl rfl⟩⟩
theorem om_X11_isPlace : sm_okM sm_P pm_X11_isPlace = true := sm_okMf_of [[0, 1], [4, 5, 6, 9, 12], [15, 16], [19, 20], [20]] (by decide +kernel)
theorem ok_X11_isPlace : sm_OK sm_P pm_X11_isPlace := ⟨om_X11_isPlace, fun _ => ⟨sm_inw 3 24 rfl rfl, sm_inw 0 1 rfl rfl⟩⟩
theorem om_X11_isSay : sm_okM sm_P pm_X11_isSay = true := sm_okMf_of [[0, 1, 2, 5], [8, 9, 12, 15, 16, 17, 18, 19], [22, 23], [26, 27], [27]] (by decide +kernel)
theorem ok_X11_isSay : sm_OK sm_P pm_X11_isSay := ⟨om_X11_isSay, fun _ => ⟨sm_inw 3 12 rfl rfl, sm_inw 0 1 rfl rfl⟩⟩
theorem om_X11_isSaying : sm_okM sm_P pm_X11_isSaying = true := sm_okMf_of [[0, 1], [4, 5, 6, 9, 12], [15, 16], [19, 20], [20]] (by decide +kernel)
theorem ok_X11_isSaying : sm_OK sm_P pm_X11_isSaying := ⟨om_X11_isSaying, fun _ => ⟨sm_inw 3 16 rfl rfl, sm_inw 0 1 rfl rfl⟩⟩
theorem om_X11_isTime : sm_okM sm_P pm_X11_isTime = true := sm_okMf_of [[0, 1], [4, 5, 6, 9, 12], [15, 16], [19, 20], [20]] (by decide +kernel)
theorem ok_X11_isTime : sm_OK sm_P pm_X11_isTime := ⟨om_X11_isTime, fun _ => ⟨sm_inw 3 166 rfl rfl, sm_inw 0 1 rfl rfl⟩⟩
theorem om_X11_keep : sm_okM sm_P pm_X11_keep = true := sm_okMf_of [[0, 1, 4], [7, 9], [10, 11, 12], [12, 13, 14, 17, 20], [23, 24, 25, 28], [31, 32], [33, 36], [39, 41]] (by decide +kernel)
theorem ok_X11_keep : sm_OK sm_P pm_X11_keep := ⟨om_X11_keep, fun _ => ⟨sm_inw 5 3 rfl rfl, sm_inw 0 1 rfl rfl⟩⟩
theorem om_X11_kept : sm_okM sm_P pm_X11_kept = true := sm_okMf_of [[0, 1, 2, 5, 6, 7], [10, 11], [12, 13, 14, 17], [20, 21], [24, 25], [25]] (by decide +kernel)
theorem ok_X11_kept : sm_OK sm_P pm_X11_kept := ⟨om_X11_kept, fun _ => ⟨sm_inw 4 235 rfl rfl, sm_inw 0 1 rfl rfl⟩⟩
end
section
/-! the tables are in order -/
theorem om_X11_leastGive : sm_okM sm_P pm_X11_leastGive = true := sm_okMf_of [[0, 1, 2, 5, 6, 7, 9], [9, 11, 14], [17, 18, 19], [22, 23, 24, 25, 26, 27, 29, 30, 33, 34, 37, 38, 41, 42, 45, 48, 49, 52, 55, 56, 57, 58, 59, 62, 63, 66, 67, 69, 72, 73, 76, 77, 78, 81, 82, 85, 88], [91, 93], [94, 95, 98, 101], [104, 106, 107], [110, 112, 113, 114, 115], [115, 118], [121, 122]] (by decide +kernel)
theorem ok_X11_leastGive : sm_OK sm_P pm_X11_leastGive := ⟨om_X11_leastGive, fun _ => ⟨sm_inw 4 223 rfl rfl, sm_inw 0 1 rfl rfl⟩⟩
theorem om_X11_left : sm_okM sm_P pm_X11_left = true := sm_okMf_of [[0, 1, 2, 5, 8, 9, 10, 11, 12, 13, 14, 15], [18, 19, 20, 21], [24, 25], [26, 27, 30], [33, 34, 37, 38, 41, 42, 43, 46], [49, 51], [51]] (by decide +kernel)
theorem ok_X11_left : sm_OK sm_P pm_X11_left := ⟨om_X11_left, fun _ => ⟨sm_inw 4 112 rfl rfl, sm_inw 0 1 rfl rfl⟩⟩
theorem om_X11_levelOf : sm_okM sm_P pm_X11_levelOf = true := sm_okMf_of [[0, 1, 4], [7, 9], [10, 11], [14, 15, 16, 19, 22], [25, 26], [27, 28, 31, 32, 35, 36, 39, 40, 41, 44, 47]] (by decide +kernel)
theorem ok_X11_levelOf : sm_OK sm_P pm_X11_levelOf := ⟨om_X11_levelOf, fun _ => ⟨sm_inw 3 141 rfl rfl, sm_inw 0 1 rfl rfl⟩⟩
theorem om_X11_more : sm_okM sm_P pm_X11_more = true := sm_okMf_of [[0, 1, 2, 5], [8, 9, 10], [13, 14, 15, 18], [21, 22], [25, 26], [26, 28, 30], [33, 34, 36, 39, 42], [45, 46, 48, 51, 54], [57, 58], [59, 60, 63, 66, 68], [71, 72], [73, 74, 77, 80, 81, 84, 87, 88, 89, 92, 93, 96, 99, 100, 103, 106, 107, 109, 112, 113, 116, 117, 120, 121, 122, 125, 126, 129, 130, 133, 136]] (by decide +kernel)
theorem ok_X11_more : sm_OK sm_P pm_X11_more := ⟨om_X11_more, fun _ => ⟨sm_inw 4 174 rfl rfl, sm_inw 0 1 rfl rfl⟩⟩
theorem om_X11_move : sm_okM sm_P pm_X11_move = true := sm_okMf_of [[0, 1], [4, 5, 6, 9, 12], [15, 16], [17, 18], [44, 45, 48, 51, 52, 53], [54, 55, 58, 61, 62, 63], [64, 65, 68, 71, 72, 73], [74, 75]] (by decide +kernel)
theorem ok_X11_move : sm_OK sm_P pm_X11_move := ⟨om_X11_move, fun _ => ⟨sm_inw 3 29 rfl rfl, sm_inw 0 1 rfl rfl⟩⟩
theorem om_X11_next : sm_okM sm_P pm_X11_next = true := sm_okMf_of [[0, 1, 4, 7], [10, 12], [13, 14, 17], [20, 22], [23, 24, 25, 26, 27, 28, 29], [29, 30, 31, 34, 37], [40, 41, 44, 45, 48, 49, 50, 53, 54, 57, 58, 61, 62, 63, 66, 69, 71, 72, 73], [76, 78, 79], [82, 83, 84, 86, 87], [87, 90], [93, 94]] (by decide +kernel)
theorem ok_X11_next : sm_OK sm_P pm_X11_next := ⟨om_X11_next, fun _ => ⟨sm_inw 4 107 rfl rfl, sm_inw 0 1 rfl rfl⟩⟩
theorem om_X11_pick : sm_okM sm_P pm_X11_pick = true := sm_okMf_of [[0, 1, 2, 5], [8, 9, 10, 13], [16, 17, 18, 19, 22, 25, 26, 27, 29], [32, 33, 35], [38, 39, 41, 42, 43, 46, 49], [52, 54, 55, 56, 58, 59, 60, 61, 64, 67, 68, 70, 71, 72], [75, 76], [79, 80], [80, 82], [85, 86], [87, 88, 89], [92, 93, 95], [98, 99], [100, 101, 104, 107, 108, 109, 110, 111, 114, 115, 118, 119]] (by decide +kernel)
theorem ok_X11_pick : sm_OK sm_P pm_X11_pick := ⟨om_X11_pick, fun _ => ⟨sm_inw 4 45 rfl rfl, sm_inw 0 1 rfl rfl⟩⟩
theorem om_X11_place : sm_okM sm_P pm_X11_place = true := sm_okMf_of [[0, 1, 4]] (by decide +kernel)
theorem ok_X11_place : sm_OK sm_P pm_X11_place := ⟨om_X11_place, fun _ => ⟨sm_inw 3 4 rfl rfl, sm_inw 0 1 rfl rfl⟩⟩
theorem om_X11_plan : sm_okM sm_P pm_X11_plan = true := sm_okMf_of [[0, 1, 2, 5, 6, 7], [10, 11], [14, 15, 18, 21, 22, 23], [23]] (by decide +kernel)
theorem ok_X11_plan : sm_OK sm_P pm_X11_plan := ⟨om_X11_plan, fun _ => ⟨sm_inw 4 131 rfl rfl, sm_inw 0 1 rfl rfl⟩⟩
theorem om_X11_planTo : sm_okM sm_P pm_X11_planTo = true := sm_okMf_of [[0, 1], [4, 5, 8], [11, 12], [13, 14, 17], [20, 21, 24, 27, 29], [32, 34], [35, 36, 39, 40, 43, 46, 47, 50, 51, 54, 55, 58, 59, 62, 65, 66, 67, 68], [71, 73], [76, 77], [77]] (by decide +kernel)
theorem ok_X11_planTo : sm_OK sm_P pm_X11_planTo := ⟨om_X11_planTo, fun _ => ⟨sm_inw 4 135 rfl rfl, sm_inw 0 1 rfl rfl⟩⟩
theorem om_X11_price : sm_okM sm_P pm_X11_price = true := sm_okMf_of [[0, 1, 4, 5, 8, 9, 12, 15], [18, 20], [21, 22, 25, 26, 29, 32, 33, 34], [37, 39], [42, 43, 46, 47, 50, 53, 54, 55, 58], [58]] (by decide +kernel)
theorem ok_X11_price : sm_OK sm_P pm_X11_price := ⟨om_X11_price, fun _ => ⟨sm_inw 4 40 rfl rfl, sm_inw 0 1 rfl rfl⟩⟩
theorem om_X11_putFour : sm_okM sm_P pm_X11_putFour = true := sm_okMf_of [[0, 2, 3], [3, 4], [7, 8, 11, 14], [17, 18, 21, 22, 25, 26, 27, 28, 29, 30, 31, 32, 35, 36, 37, 40], [40, 43], [46]] (by decide +kernel)
theorem ok_X11_putFour : sm_OK sm_P pm_X11_putFour := ⟨om_X11_putFour, fun _ => ⟨sm_inw 2 66 rfl rfl, sm_inw 0 1 rfl rfl⟩⟩
theorem om_X11_quarrel : sm_okM sm_P pm_X11_quarrel = true := sm_okMf_of [[0, 1, 4, 5, 8, 9, 12, 15], [18, 20], [21, 22], [25, 26, 27, 30, 33], [36, 37, 40, 43, 44, 45], [48, 49], [49]] (by decide +kernel)
theorem ok_X11_quarrel : sm_OK sm_P pm_X11_quarrel := ⟨om_X11_quarrel, fun _ => ⟨sm_inw 4 16 rfl rfl, sm_inw 0 1 rfl rfl⟩⟩
theorem om_X11_quarrels : sm_okM sm_P pm_X11_quarrels = true := sm_okMf_of [[0, 1, 4, 5, 8, 9, 12, 15], [18, 19, 22, 25], [28, 30], [30]] (by decide +kernel)
theorem ok_X11_quarrels : sm_OK sm_P pm_X11_quarrels := ⟨om_X11_quarrels, fun _ => ⟨sm_inw 3 223 rfl rfl, sm_inw 0 1 rfl rfl⟩⟩
theorem om_X11_read : sm_okM sm_P pm_X11_read = true := sm_okMf_of [[0, 1, 4, 5, 8, 9, 12, 15, 16, 17, 18, 21, 22, 23], [26, 27], [30, 31, 34, 37], [37, 40, 41], [44, 45, 46, 49, 50, 53, 56, 59, 60, 63, 66, 67, 70], [70, 71]] (by decide +kernel)
theorem ok_X11_read : sm_OK sm_P pm_X11_read := ⟨om_X11_read, fun _ => ⟨sm_inw 2 74 rfl rfl, sm_inw 0 1 rfl rfl⟩⟩
theorem om_X11_ring : sm_okM sm_P pm_X11_ring = true := sm_okMf_of [[0, 1, 4, 5, 8, 9, 12, 15], [18, 19, 22, 25], [28, 30], [30]] (by decide +kernel)
theorem ok_X11_ring : sm_OK sm_P pm_X11_ring := ⟨om_X11_ring, fun _ => ⟨sm_inw 4 69 rfl rfl, sm_inw 0 1 rfl rfl⟩⟩
theorem om_X11_ringAt : sm_okM sm_P pm_X11_ringAt = true := sm_okMf_of [[0, 1, 4, 5, 8, 9, 12, 15], [18, 19], [22, 23, 24, 27, 30], [33, 34, 37, 40, 41, 42], [45, 46], [46]] (by decide +kernel)
theorem ok_X11_ringAt : sm_OK sm_P pm_X11_ringAt := ⟨om_X11_ringAt, fun _ => ⟨sm_inw 4 73 rfl rfl, sm_inw 0 1 rfl rfl⟩⟩
theorem om_X11_set : sm_okM sm_P pm_X11_set = true := sm_okMf_of [[0, 1, 2, 5], [8, 9, 10], [13, 14, 17], [20, 21], [22, 23, 26, 29, 30, 31, 32, 33]] (by decide +kernel)
theorem ok_X11_set : sm_OK sm_P pm_X11_set := ⟨om_X11_set, fun _ => ⟨sm_inw 3 198 rfl rfl, sm_inw 0 1 rfl rfl⟩⟩
theorem om_X11_setWays : sm_okM sm_P pm_X11_setWays = true := sm_okMf_of [[0, 1, 4], [7, 9], [10, 11, 12, 13, 14], [14, 15, 16, 19, 22], [25, 26, 29, 30, 31, 34, 35, 38, 41, 44], [47, 50], [50, 53], [56, 57]] (by decide +kernel)
theorem ok_X11_setWays : sm_OK sm_P pm_X11_setWays := ⟨om_X11_setWays, fun _ => ⟨sm_inw 4 193 rfl rfl, sm_inw 0 1 rfl rfl⟩⟩
theorem om_X11_slack : sm_okM sm_P pm_X11_slack = true := sm_okMf_of [[0, 1, 2, 5], [8, 9], [10, 11, 12, 15, 17, 19], [22, 24], [25, 26, 29, 31, 32, 35, 38, 41], [44, 45, 48, 50, 51, 52, 55, 58, 59, 62], [65, 67], [67]] (by decide +kernel)
theorem ok_X11_slack : sm_OK sm_P pm_X11_slack := ⟨om_X11_slack, fun _ => ⟨sm_inw 4 206 rfl rfl, sm_inw 0 1 rfl rfl⟩⟩
theorem om_X11_stale : sm_okM sm_P pm_X11_stale = true := sm_okMf_of [[0, 1, 2, 5, 6, 7, 10, 11, 14, 15, 18, 19, 22, 23, 26, 27, 30, 31, 34]] (by decide +kernel)
theorem ok_X11_stale : sm_OK sm_P pm_X11_stale := ⟨om_X11_stale, fun _ => ⟨sm_inw 3 0 rfl rfl, sm_inw 0 1 rfl rfl⟩⟩
theorem om_X11_stands : sm_okM sm_P pm_X11_stands = true := sm_okMf_of [[0, 1, 4, 5, 8, 9, 12, 15], [18, 19], [22, 23], [23]] (by decide +kernel)
theorem ok_X11_stands : sm_OK sm_P pm_X11_stands := ⟨om_X11_stands, fun _ => ⟨sm_inw 4 49 rfl rfl, sm_inw 0 1 rfl rfl⟩⟩
theorem om_X11_tried : sm_okM sm_P pm_X11_tried = true := sm_okMf_of [[0, 1, 4, 5, 6], [9, 10, 11, 14, 17, 20, 23], [26, 27], [28, 29, 32, 33, 34, 37]] (by decide +kernel)
theorem ok_X11_tried : sm_OK sm_P pm_X11_tried := ⟨om_X11_tried, fun _ => ⟨sm_inw 4 185 rfl rfl, sm_inw 0 1 rfl rfl⟩⟩
theorem om_X11_walk : sm_okM sm_P pm_X11_walk = true := sm_okMf_of [[0, 1, 2, 5], [8, 9, 10, 13], [16, 17, 20, 21, 22, 25], [28, 29], [29]] (by decide +kernel)
theorem ok_X11_walk : sm_OK sm_P pm_X11_walk := ⟨om_X11_walk, fun _ => ⟨sm_inw 3 20 rfl rfl, sm_inw 0 1 rfl rfl⟩⟩
theorem om_X11_ways : sm_okM sm_P pm_X11_ways = true := sm_okMf_of [[0, 1, 4], [7, 8, 11, 14], [17, 19], [19]] (by decide +kernel)
theorem ok_X11_ways : sm_OK sm_P pm_X11_ways := ⟨om_X11_ways, fun _ => ⟨sm_inw 3 33 rfl rfl, sm_inw 0 1 rfl rfl⟩⟩
theorem om_X11_whereAt : sm_okM sm_P pm_X11_whereAt = true := sm_okMf_of [[0, 1, 3, 4, 6, 7, 9, 10, 12, 13, 15], [15, 17, 18, 21, 24], [27, 28, 31, 34, 36, 37, 38], [41], [44, 45, 48, 49, 51, 52, 55, 57, 59, 60], [63, 64, 67, 70, 72, 73], [74, 76, 77], [80, 82, 84], [87, 89, 91, 93, 95], [95, 97, 98], [101, 103, 104], [107, 109, 111], [114, 116, 118, 120, 122], [122, 125], [128, 130, 131], [134, 136], [137, 139, 140], [143, 144, 147, 150, 152, 153], [154, 155, 158, 159, 162, 165, 167, 168, 169, 172, 175, 177, 178, 181, 183, 185], [188, 189, 191, 193, 194], [197, 198, 201, 204, 206, 207], [210, 212], [212]] (by decide +kernel)
theorem ok_X11_whereAt : sm_OK sm_P pm_X11_whereAt := ⟨om_X11_whereAt, fun _ => ⟨sm_inw 4 215 rfl rfl, sm_inw 0 1 rfl rfl⟩⟩
theorem om_X12_alone : sm_okM sm_P pm_X12_alone = true := sm_okMf_of [[0, 1, 2, 5], [8, 9, 12, 14, 15, 18, 19, 20, 21, 22], [25, 26, 29, 30, 31], [34, 35], [36, 37, 38, 39, 40, 43]] (by decide +kernel)
theorem ok_X12_alone : sm_OK sm_P pm_X12_alone := ⟨om_X12_alone, fun _ => ⟨sm_inw 8 47 rfl rfl, sm_inw 0 14 rfl rfl⟩⟩
theorem om_X12_answers : sm_okM sm_P pm_X12_answers = true := sm_okMf_of [[0, 3, 5, 6, 9, 10, 11, 12, 13, 14, 15, 18, 19, 20, 21, 22, 24, 25, 28, 29, 30, 31, 32, 34, 35], [38, 39, 41, 43, 44, 47, 48, 49, 50, 53, 54, 55, 58], [61, 62, 63], [66, 67, 69, 71, 72, 75, 76, 77, 78, 79, 82], [85, 86, 88, 90, 91, 94, 95, 96, 97, 98, 99, 102], [102]] (by decide +kernel)
theorem ok_X12_answers : sm_OK sm_P pm_X12_answers := ⟨om_X12_answers, fun _ => ⟨sm_inw 7 231 rfl rfl, sm_inw 0 14 rfl rfl⟩⟩
theorem om_X12_appends : sm_okM sm_P pm_X12_appends = true := sm_okMf_of [[0, 1], [4, 5], [8, 11, 12, 13, 14, 16, 17, 18, 19, 20, 21], [21]] (by decide +kernel)
theorem ok_X12_appends : sm_OK sm_P pm_X12_appends := ⟨om_X12_appends, fun _ => ⟨sm_inw 5 24 rfl rfl, sm_inw 0 14 rfl rfl⟩⟩
theorem om_X12_ask : sm_okM sm_P pm_X12_ask = true := sm_okMf_of [[0, 1, 2, 3, 6, 7, 10, 11, 12, 13, 16], [19, 20], [21, 22, 25, 26, 29], [32, 34], [37, 38, 39], [42, 43, 44, 45], [48, 49], [49, 50], [53, 54], [57, 58, 59, 60], [60, 63], [63]] (by decide +kernel)
theorem ok_X12_ask : sm_OK sm_P pm_X12_ask := ⟨om_X12_ask, fun _ => ⟨sm_inw 7 219 rfl rfl, sm_inw 0 14 rfl rfl⟩⟩
theorem om_X12_asks : sm_okM sm_P pm_X12_asks = true := sm_okMf_of [[0, 1], [4, 5], [6, 7, 10, 11, 14], [17, 19], [22, 23, 24, 27], [30, 31], [34, 35], [35]] (by decide +kernel)
theorem ok_X12_asks : sm_OK sm_P pm_X12_asks := ⟨om_X12_asks, fun _ => ⟨sm_inw 7 59 rfl rfl, sm_inw 0 14 rfl rfl⟩⟩
theorem om_X12_atMost : sm_okM sm_P pm_X12_atMost = true := sm_okMf_of [[0, 1, 4], [7, 8, 9], [12, 13, 14, 15, 16, 19], [20, 21, 22, 25, 27, 28, 29, 32, 34, 35, 37, 38], [41, 42], [45, 46, 49, 51, 52], [52, 53, 55, 56], [59, 60], [63, 64, 67, 69, 70], [70, 71, 73, 74, 76, 77], [80, 81], [84, 85, 88, 90, 91, 92, 93], [93, 95, 96], [99, 100], [103, 104, 107, 109, 110, 111, 112], [112, 114, 117]] (by decide +kernel)
theorem ok_X12_atMost : sm_OK sm_P pm_X12_atMost := ⟨om_X12_atMost, fun _ => ⟨sm_inw 7 27 rfl rfl, sm_inw 0 14 rfl rfl⟩⟩
theorem om_X12_back : sm_okM sm_P pm_X12_back = true := sm_okMf_of [[0, 1], [4, 5, 6, 9], [12, 13], [14, 15, 16, 19, 20, 21, 24, 25, 28]] (by decide +kernel)
theorem ok_X12_back : sm_OK sm_P pm_X12_back := ⟨om_X12_back, fun _ => ⟨sm_inw 6 87 rfl rfl, sm_inw 0 14 rfl rfl⟩⟩
theorem om_X12_bears : sm_okM sm_P pm_X12_bears = true := sm_okMf_of [[0, 1, 2, 5], [8, 9], [10, 12, 13, 16, 17, 18, 19, 20, 22, 23, 24, 26], [26, 28, 29, 32, 33, 34], [37, 38, 40, 41, 43], [43, 45, 46, 49, 50, 51, 52, 54, 55, 56], [59, 60, 61, 62, 63, 64, 66, 67, 68, 70, 71, 74, 76, 78, 80], [83, 85], [86, 88], [91, 93, 94], [97, 98], [101, 102], [102, 104, 107], [110, 112], [115, 116, 118], [121, 123, 124], [124, 127], [130, 131]] (by decide +kernel)
theorem ok_X12_bears : sm_OK sm_P pm_X12_bears := ⟨om_X12_bears, fun _ => ⟨sm_inw 7 107 rfl rfl, sm_inw 0 14 rfl rfl⟩⟩
theorem om_X12_bearsSpan : sm_okM sm_P pm_X12_bearsSpan = true := sm_okMf_of [[0, 1, 4, 5, 8, 9, 10, 11, 12, 13, 16, 17, 18, 19], [22, 23], [26, 27, 30, 31, 34, 35, 36, 37], [37, 38, 39, 40], [43, 44, 45], [48, 50], [51, 52, 53, 54, 55, 58, 59, 60, 61, 64, 65, 66, 69], [72, 73], [76, 77], [77]] (by decide +kernel)
theorem ok_X12_bearsSpan : sm_OK sm_P pm_X12_bearsSpan := ⟨om_X12_bearsSpan, fun _ => ⟨sm_inw 7 111 rfl rfl, sm_inw 0 14 rfl rfl⟩⟩
theorem om_X12_been : sm_okM sm_P pm_X12_been = true := sm_okMf_of [[0, 1, 2, 5], [8, 9, 10, 11, 14, 15, 18, 19, 20, 21, 24], [27, 28], [29, 30, 31, 32, 35, 36, 37, 40, 41, 42, 45, 46, 49, 50, 51, 52, 55], [58, 59, 62], [62, 63, 66], [69, 71], [74, 75, 78], [81, 83], [86, 87], [90, 91, 94], [97, 98, 101], [101]] (by decide +kernel)
theorem ok_X12_been : sm_OK sm_P pm_X12_been := ⟨om_X12_been, fun _ => ⟨sm_inw 7 207 rfl rfl, sm_inw 0 14 rfl rfl⟩⟩
theorem om_X12_begins : sm_okM sm_P pm_X12_begins = true := sm_okMf_of [[0, 1, 2, 5, 6, 7, 10, 11, 12], [12, 13, 16], [19, 20, 23, 24, 25, 27, 28, 29, 31, 32], [35, 36, 38, 39], [42, 43], [46, 49], [49, 50, 53], [56, 57, 58, 61, 62, 63, 66, 67, 68, 69], [69, 70, 73, 74, 75, 78, 79, 80, 81, 84, 85, 88, 89, 90], [93, 94], [97, 98, 101], [104, 105, 106, 109, 110, 111, 112, 113, 114, 115, 118, 119, 120, 123], [126, 127, 128, 129, 132, 133, 134, 135, 136, 139, 140, 143, 144, 145, 146, 149], [152, 153], [156, 157], [157, 158], [161, 162, 163, 164, 167, 168], [168, 171], [174, 175, 176], [176, 177, 178, 181], [184, 185], [188, 189, 190, 193, 194, 195, 196, 197, 198, 201, 202, 203, 204, 205, 206, 209, 210, 211, 212, 215, 216, 217, 220, 221, 224], [227, 228]] (by decide +kernel)
theorem ok_X12_begins : sm_OK sm_P pm_X12_begins := ⟨om_X12_begins, fun _ => ⟨sm_inw 7 11 rfl rfl, sm_inw 0 14 rfl rfl⟩⟩
theorem om_X12_between : sm_okM sm_P pm_X12_between = true := sm_okMf_of [[0, 1, 2, 3, 5, 8], [11, 12, 13, 14, 15, 16, 19], [22, 23], [26, 27], [27]] (by decide +kernel)
theorem ok_X12_between : sm_OK sm_P pm_X12_between := ⟨om_X12_between, fun _ => ⟨sm_inw 7 23 rfl rfl, sm_inw 0 14 rfl rfl⟩⟩
theorem om_X12_bits : sm_okM sm_P pm_X12_bits = true := sm_okMf_of [[0, 1, 2, 3, 4], [4, 5, 7], [10, 11, 12, 13, 14, 15, 16, 17, 18, 21], [24, 25]] (by decide +kernel)
theorem ok_X12_bits : sm_OK sm_P pm_X12_bits := ⟨om_X12_bits, fun _ => ⟨sm_inw 7 134 rfl rfl, sm_inw 0 14 rfl rfl⟩⟩
theorem om_X12_bound : sm_okM sm_P pm_X12_bound = true := sm_okMf_of [[0, 3, 4, 7, 8, 10, 11, 14, 16, 18, 19, 20, 21, 22, 23, 24, 25, 26], [29, 30], [31, 32, 33, 36, 38, 40, 41, 42, 43, 44, 45, 46], [49, 50], [51, 52, 54], [54, 56, 57, 60], [63, 64, 66], [66, 68, 69, 72], [75, 76, 79, 81, 83, 85, 86, 87, 88, 89, 90, 91, 92, 93, 96, 98, 100, 101, 102, 103, 105, 106, 107, 108, 110, 112, 113, 116, 118, 120, 122, 123, 124, 126, 127, 128], [131, 132, 135, 137, 139, 141, 142, 143, 145, 146, 148, 149], [149, 152], [155, 158], [161, 162]] (by decide +kernel)
theorem ok_X12_bound : sm_OK sm_P pm_X12_bound := ⟨om_X12_bound, fun _ => ⟨sm_inw 7 15 rfl rfl, sm_inw 0 14 rfl rfl⟩⟩
theorem om_X12_breaks : sm_okM sm_P pm_X12_breaks = true := sm_okMf_of [[0, 1, 2], [2, 3, 4, 7], [10, 11, 14, 15, 18, 19, 20, 21, 22, 23, 26, 27, 30, 31, 32, 33, 34, 35, 36], [39, 40, 41], [44], [47, 48, 49], [52, 53, 54, 55], [58, 59, 60, 61], [61, 63, 64, 67, 68, 69, 70], [73, 75, 76, 79, 80, 81], [84, 85], [86, 89], [92, 94]] (by decide +kernel)
theorem ok_X12_breaks : sm_OK sm_P pm_X12_breaks := ⟨om_X12_breaks, fun _ => ⟨sm_inw 7 115 rfl rfl, sm_inw 0 14 rfl rfl⟩⟩
theorem om_X12_byteAt : sm_okM sm_P pm_X12_byteAt = true := sm_okMf_of [[0, 1, 2, 5], [8, 9, 12, 13, 14, 17, 18], [21, 22], [22]] (by decide +kernel)
theorem ok_X12_byteAt : sm_OK sm_P pm_X12_byteAt := ⟨om_X12_byteAt, fun _ => ⟨sm_inw 6 99 rfl rfl, sm_inw 0 14 rfl rfl⟩⟩
theorem om_X12_can : sm_okM sm_P pm_X12_can = true := sm_okMf_of [[0, 1, 2, 5], [8, 9, 10, 13], [16, 17], [18, 19, 22, 23, 26], [29, 31], [32, 33, 34, 35, 37], [37, 39, 40, 43], [46, 47, 49, 50, 53], [56, 57, 58, 59, 60, 61, 62, 65, 66], [69, 70, 71, 72, 73, 74, 75, 78, 79], [82, 85], [85, 88], [91, 92]] (by decide +kernel)
theorem ok_X12_can : sm_OK sm_P pm_X12_can := ⟨om_X12_can, fun _ => ⟨sm_inw 7 91 rfl rfl, sm_inw 0 14 rfl rfl⟩⟩
theorem om_X12_changes : sm_okM sm_P pm_X12_changes = true := sm_okMf_of [[0, 1, 2, 5, 6, 7, 10]] (by decide +kernel)
theorem ok_X12_changes : sm_OK sm_P pm_X12_changes := ⟨om_X12_changes, fun _ => ⟨sm_inw 6 196 rfl rfl, sm_inw 0 14 rfl rfl⟩⟩
theorem om_X12_cheapest : sm_okM sm_P pm_X12_cheapest = true := sm_okMf_of [[0, 1, 4, 5, 8], [11, 13], [14, 16, 17, 18, 19], [19, 20, 21, 24], [27, 28, 30], [33, 34, 35, 38, 39, 40, 43, 44, 45, 48], [51, 52, 55, 56, 57, 58], [58, 61], [64, 65]] (by decide +kernel)
theorem ok_X12_cheapest : sm_OK sm_P pm_X12_cheapest := ⟨om_X12_cheapest, fun _ => ⟨sm_inw 7 150 rfl rfl, sm_inw 0 14 rfl rfl⟩⟩
theorem om_X12_choice : sm_okM sm_P pm_X12_choice = true := sm_okMf_of [[0, 1, 2, 5], [8, 9], [10, 11, 12, 15, 16, 17], [20, 21], [22, 23, 26, 27, 28], [31, 33], [34, 35, 36, 39, 42, 43, 44, 45, 48]] (by decide +kernel)
theorem ok_X12_choice : sm_OK sm_P pm_X12_choice := ⟨om_X12_choice, fun _ => ⟨sm_inw 7 55 rfl rfl, sm_inw 0 14 rfl rfl⟩⟩
theorem om_X12_choiceOf : sm_okM sm_P pm_X12_choiceOf = true := sm_okMf_of [[0, 1, 2, 3, 5], [5, 7, 8, 11], [14, 15, 18, 20, 21, 22], [25, 26, 29, 31, 32, 33, 35, 36, 37, 38], [38, 41], [44, 45]] (by decide +kernel)
theorem ok_X12_choiceOf : sm_OK sm_P pm_X12_choiceOf := ⟨om_X12_choiceOf, fun _ => ⟨sm_inw 7 63 rfl rfl, sm_inw 0 14 rfl rfl⟩⟩
theorem om_X12_choices : sm_okM sm_P pm_X12_choices = true := sm_okMf_of [[0, 1, 3], [6, 7, 10, 12, 13, 16, 17, 18, 19, 20], [21, 22, 24], [27, 28, 31, 32, 34, 35, 36], [39, 40, 43, 44, 46, 47, 48], [48, 49, 50, 51], [54, 55], [58, 59], [59]] (by decide +kernel)
theorem ok_X12_choices : sm_OK sm_P pm_X12_choices := ⟨om_X12_choices, fun _ => ⟨sm_inw 7 39 rfl rfl, sm_inw 0 14 rfl rfl⟩⟩
theorem om_X12_chooses : sm_okM sm_P pm_X12_chooses = true := sm_okMf_of [[0, 1, 3], [6, 7, 9, 10, 13, 14, 15, 16, 17, 18, 19, 20, 21, 24, 25, 26, 27, 28, 29], [32, 33, 36], [39, 40], [40, 42, 43, 44, 45, 47], [47, 49, 50, 51, 52, 53, 56, 57, 58, 59], [62, 63, 65, 67, 70], [73, 74], [75, 78], [81, 82], [83, 84, 86], [89, 90, 93, 94, 96, 97, 98], [101, 102, 105, 106, 108, 109, 110], [110, 111, 112, 114], [117, 118, 121, 122, 124, 125, 126, 127, 128], [131, 132, 135, 136, 138, 139, 140, 141, 142], [142, 144, 145, 147], [150, 151, 154, 155, 157, 158, 159, 160, 161], [164, 165, 168, 169, 172, 173, 174, 175], [175, 177, 178], [181, 182, 184, 186, 187, 188, 191], [194, 195, 197, 199, 200, 201, 204], [204]] (by decide +kernel)
theorem ok_X12_chooses : sm_OK sm_P pm_X12_chooses := ⟨om_X12_chooses, fun _ => ⟨sm_inw 7 47 rfl rfl, sm_inw 0 14 rfl rfl⟩⟩
theorem om_X12_copies : sm_okM sm_P pm_X12_copies = true := sm_okMf_of [[0, 1, 2], [2, 3, 6], [9, 10, 13, 16, 17, 18, 19, 20, 21, 24, 27, 28, 29, 30, 31, 32, 33, 36], [39]] (by decide +kernel)
theorem ok_X12_copies : sm_OK sm_P pm_X12_copies := ⟨om_X12_copies, fun _ => ⟨sm_inw 7 43 rfl rfl, sm_inw 0 14 rfl rfl⟩⟩
theorem om_X12_could : sm_okM sm_P pm_X12_could = true := sm_okMf_of [[0, 1, 2, 5], [8, 9, 10, 11, 14, 15, 18, 19, 20, 21, 24], [27, 28, 29, 32], [35, 36, 38, 41], [44, 45], [46, 47, 49], [52, 53], [54, 55, 56, 57, 60, 61, 64, 65, 68, 69, 70, 71, 73, 74, 76, 77, 78, 81], [84, 85, 87, 88, 89, 91, 94], [97, 98, 99, 102], [105, 106], [109, 110], [110, 112, 113, 116], [119, 121], [124, 126], [129, 130], [133, 134], [134]] (by decide +kernel)
theorem ok_X12_could : sm_OK sm_P pm_X12_could := ⟨om_X12_could, fun _ => ⟨sm_inw 7 195 rfl rfl, sm_inw 0 14 rfl rfl⟩⟩
theorem om_X12_count : sm_okM sm_P pm_X12_count = true := sm_okMf_of [[0, 1], [48, 49, 52, 53, 56, 57], [58, 59, 62, 63, 66, 67], [68, 69, 72, 73, 76, 77], [78, 79, 82, 83, 86, 87], [88, 89, 92, 93, 96, 97], [98, 99, 102], [103, 104, 107, 108, 111], [112, 113, 116], [117, 118, 119, 121, 122, 125], [128, 129, 132, 134, 135, 138, 139, 140, 141, 143, 144, 145], [148, 149], [149]] (by decide +kernel)
theorem ok_X12_count : sm_OK sm_P pm_X12_count := ⟨om_X12_count, fun _ => ⟨sm_inw 8 63 rfl rfl, sm_inw 0 14 rfl rfl⟩⟩
theorem bk_X12_cut_0 : sm_okL sm_P pm_X12_cut pb_X12_cut_0.2.2.1 pb_X12_cut_0.2.2.2 pb_X12_cut_0.1 = true := sm_okLf_of _ 0 [1, 2, 5, 6, 7] (by decide +kernel)
theorem bk_X12_cut_1 : sm_okL sm_P pm_X12_cut pb_X12_cut_1.2.2.1 pb_X12_cut_1.2.2.2 pb_X12_cut_1.1 = true := sm_okLf_of _ 7 [8, 11, 14] (by decide +kernel)
theorem bk_X12_cut_2 : sm_okL sm_P pm_X12_cut pb_X12_cut_2.2.2.1 pb_X12_cut_2.2.2.2 pb_X12_cut_2.1 = true := sm_okLf_of _ 17 [18, 19, 22, 23, 24, 25, 28] (by decide +kernel)
theorem bk_X12_cut_3 : sm_okL sm_P pm_X12_cut pb_X12_cut_3.2.2.1 pb_X12_cut_3.2.2.2 pb_X12_cut_3.1 = true := sm_okLf_of _ 31 [32, 33, 34, 37, 38, 39, 42] (by decide +kernel)
theorem bk_X12_cut_4 : sm_okL sm_P pm_X12_cut pb_X12_cut_4.2.2.1 pb_X12_cut_4.2.2.2 pb_X12_cut_4.1 = true := sm_okLf_of _ 43 [44, 46] (by decide +kernel)
theorem bk_X12_cut_5 : sm_okL sm_P pm_X12_cut pb_X12_cut_5.2.2.1 pb_X12_cut_5.2.2.2 pb_X12_cut_5.1 = true := sm_okLf_of _ 49 [50, 52] (by decide +kernel)
theorem bk_X12_cut_6 : sm_okL sm_P pm_X12_cut pb_X12_cut_6.2.2.1 pb_X12_cut_6.2.2.2 pb_X12_cut_6.1 = true := sm_okLf_of _ 55 [56, 58] (by decide +kernel)
theorem bk_X12_cut_7 : sm_okL sm_P pm_X12_cut pb_X12_cut_7.2.2.1 pb_X12_cut_7.2.2.2 pb_X12_cut_7.1 = true := sm_okLf_of _ 61 [62, 64] (by decide +kernel)
theorem bk_X12_cut_8 : sm_okL sm_P pm_X12_cut pb_X12_cut_8.2.2.1 pb_X12_cut_8.2.2.2 pb_X12_cut_8.1 = true := sm_okLf_of _ 67 [70] (by decide +kernel)
theorem bk_X12_cut_9 : sm_okL sm_P pm_X12_cut pb_X12_cut_9.2.2.1 pb_X12_cut_9.2.2.2 pb_X12_cut_9.1 = true := sm_okLf_of _ 73 [74, 77] (by decide +kernel)
theorem bk_X12_cut_10 : sm_okL sm_P pm_X12_cut pb_X12_cut_10.2.2.1 pb_X12_cut_10.2.2.2 pb_X12_cut_10.1 = true := sm_okLf_of _ 80 [81, 82, 83, 85] (by decide +kernel)
theorem bk_X12_cut_11 : sm_okL sm_P pm_X12_cut pb_X12_cut_11.2.2.1 pb_X12_cut_11.2.2.2 pb_X12_cut_11.1 = true := sm_okLf_of _ 85 [86, 87, 88, 89, 92, 95] (by decide +kernel)
theorem bk_X12_cut_12 : sm_okL sm_P pm_X12_cut pb_X12_cut_12.2.2.1 pb_X12_cut_12.2.2.2 pb_X12_cut_12.1 = true := sm_okLf_of _ 98 [99, 101] (by decide +kernel)
theorem bk_X12_cut_13 : sm_okL sm_P pm_X12_cut pb_X12_cut_13.2.2.1 pb_X12_cut_13.2.2.2 pb_X12_cut_13.1 = true := sm_okLf_of _ 104 [106, 107, 108, 109, 110, 113, 116, 118] (by decide +kernel)
theorem bk_X12_cut_14 : sm_okL sm_P pm_X12_cut pb_X12_cut_14.2.2.1 pb_X12_cut_14.2.2.2 pb_X12_cut_14.1 = true := sm_okLf_of _ 118 [121] (by decide +kernel)
theorem bk_X12_cut_15 : sm_okL sm_P pm_X12_cut pb_X12_cut_15.2.2.1 pb_X12_cut_15.2.2.2 pb_X12_cut_15.1 = true := sm_okLf_of _ 124 [125, 127] (by decide +kernel)
theorem bk_X12_cut_16 : sm_okL sm_P pm_X12_cut pb_X12_cut_16.2.2.1 pb_X12_cut_16.2.2.2 pb_X12_cut_16.1 = true := sm_okLf_of _ 130 [131] (by decide +kernel)
theorem bk_X12_cut_17 : sm_okL sm_P pm_X12_cut pb_X12_cut_17.2.2.1 pb_X12_cut_17.2.2.2 pb_X12_cut_17.1 = true := sm_okLf_of _ 134 [135] (by decide +kernel)
theorem bk_X12_cut_18 : sm_okL sm_P pm_X12_cut pb_X12_cut_18.2.2.1 pb_X12_cut_18.2.2.2 pb_X12_cut_18.1 = true := sm_okLf_of _ 135 [137, 138, 140] (by decide +kernel)
theorem bk_X12_cut_19 : sm_okL sm_P pm_X12_cut pb_X12_cut_19.2.2.1 pb_X12_cut_19.2.2.2 pb_X12_cut_19.1 = true := sm_okLf_of _ 143 [144, 146] (by decide +kernel)
theorem bk_X12_cut_20 : sm_okL sm_P pm_X12_cut pb_X12_cut_20.2.2.1 pb_X12_cut_20.2.2.2 pb_X12_cut_20.1 = true := sm_okLf_of _ 146 [148, 150] (by decide +kernel)
theorem bk_X12_cut_21 : sm_okL sm_P pm_X12_cut pb_X12_cut_21.2.2.1 pb_X12_cut_21.2.2.2 pb_X12_cut_21.1 = true := sm_okLf_of _ 153 [154, 157, 159, 160, 162, 163] (by decide +kernel)
theorem bk_X12_cut_22 : sm_okL sm_P pm_X12_cut pb_X12_cut_22.2.2.1 pb_X12_cut_22.2.2.2 pb_X12_cut_22.1 = true := sm_okLf_of _ 166 [168, 170, 171, 173] (by decide +kernel)
theorem bk_X12_cut_23 : sm_okL sm_P pm_X12_cut pb_X12_cut_23.2.2.1 pb_X12_cut_23.2.2.2 pb_X12_cut_23.1 = true := sm_okLf_of _ 173 [176] (by decide +kernel)
theorem bk_X12_cut_24 : sm_okL sm_P pm_X12_cut pb_X12_cut_24.2.2.1 pb_X12_cut_24.2.2.2 pb_X12_cut_24.1 = true := sm_okLf_of _ 179 [180, 182, 183, 184, 186, 189, 190, 191, 192, 193] (by decide +kernel)
theorem bk_X12_cut_25 : sm_okL sm_P pm_X12_cut pb_X12_cut_25.2.2.1 pb_X12_cut_25.2.2.2 pb_X12_cut_25.1 = true := sm_okLf_of _ 196 [197, 200] (by decide +kernel)
theorem bk_X12_cut_26 : sm_okL sm_P pm_X12_cut pb_X12_cut_26.2.2.1 pb_X12_cut_26.2.2.2 pb_X12_cut_26.1 = true := sm_okLf_of _ 203 [204, 205, 206, 208] (by decide +kernel)
theorem bk_X12_cut_27 : sm_okL sm_P pm_X12_cut pb_X12_cut_27.2.2.1 pb_X12_cut_27.2.2.2 pb_X12_cut_27.1 = true := sm_okLf_of _ 208 [209, 210, 211, 212, 215, 218] (by decide +kernel)
theorem bk_X12_cut_28 : sm_okL sm_P pm_X12_cut pb_X12_cut_28.2.2.1 pb_X12_cut_28.2.2.2 pb_X12_cut_28.1 = true := sm_okLf_of _ 221 [222, 223] (by decide +kernel)
theorem bk_X12_cut_29 : sm_okL sm_P pm_X12_cut pb_X12_cut_29.2.2.1 pb_X12_cut_29.2.2.2 pb_X12_cut_29.1 = true := sm_okLf_of _ 226 [228, 230, 231, 232, 233, 234, 235, 238, 239, 241, 242, 244] (by decide +kernel)
theorem bk_X12_cut_30 : sm_okL sm_P pm_X12_cut pb_X12_cut_30.2.2.1 pb_X12_cut_30.2.2.2 pb_X12_cut_30.1 = true := sm_okLf_of _ 244 [247] (by decide +kernel)
theorem bk_X12_cut_31 : sm_okL sm_P pm_X12_cut pb_X12_cut_31.2.2.1 pb_X12_cut_31.2.2.2 pb_X12_cut_31.1 = true := sm_okLf_of _ 250 [251, 252, 253] (by decide +kernel)
theorem bk_X12_cut_32 : sm_okL sm_P pm_X12_cut pb_X12_cut_32.2.2.1 pb_X12_cut_32.2.2.2 pb_X12_cut_32.1 = true := sm_okLf_of _ 256 [257] (by decide +kernel)
theorem bk_X12_cut_33 : sm_okL sm_P pm_X12_cut pb_X12_cut_33.2.2.1 pb_X12_cut_33.2.2.2 pb_X12_cut_33.1 = true := sm_okLf_of _ 260 [261] (by decide +kernel)
theorem bk_X12_cut_34 : sm_okL sm_P pm_X12_cut pb_X12_cut_34.2.2.1 pb_X12_cut_34.2.2.2 pb_X12_cut_34.1 = true := sm_okLf_of _ 261 [262, 264, 265, 268, 269, 270, 271, 272] (by decide +kernel)
theorem bk_X12_cut_35 : sm_okL sm_P pm_X12_cut pb_X12_cut_35.2.2.1 pb_X12_cut_35.2.2.2 pb_X12_cut_35.1 = true := sm_okLf_of _ 275 [276, 277, 280, 281, 282, 283, 286, 289] (by decide +kernel)
theorem bk_X12_cut_36 : sm_okL sm_P pm_X12_cut pb_X12_cut_36.2.2.1 pb_X12_cut_36.2.2.2 pb_X12_cut_36.1 = true := sm_okLf_of _ 289 [] (by decide +kernel)
theorem bk_X12_cut_37 : sm_okL sm_P pm_X12_cut pb_X12_cut_37.2.2.1 pb_X12_cut_37.2.2.2 pb_X12_cut_37.1 = true := sm_okLf_of _ 292 [] (by decide +kernel)
theorem om_X12_cut : sm_okM sm_P pm_X12_cut = true := sm_okMg_of (by decide +kernel) (List.forall_mem_cons.mpr ⟨bk_X12_cut_0, List.forall_mem_cons.mpr ⟨bk_X12_cut_1, List.forall_mem_cons.mpr ⟨bk_X12_cut_2, List.forall_mem_cons.mpr ⟨bk_X12_cut_3, List.forall_mem_cons.mpr ⟨bk_X12_cut_4, List.forall_mem_cons.mpr ⟨bk_X12_cut_5, List.forall_mem_cons.mpr ⟨bk_X12_cut_6, List.forall_mem_cons.mpr ⟨bk_X12_cut_7, List.forall_mem_cons.mpr ⟨bk_X12_cut_8, List.forall_mem_cons.mpr ⟨bk_X12_cut_9, List.forall_mem_cons.mpr ⟨bk_X12_cut_10, List.forall_mem_cons.mpr ⟨bk_X12_cut_11, List.forall_mem_cons.mpr ⟨bk_X12_cut_12, List.forall_mem_cons.mpr ⟨bk_X12_cut_13, List.forall_mem_cons.mpr ⟨bk_X12_cut_14, List.forall_mem_cons.mpr ⟨bk_X12_cut_15, List.forall_mem_cons.mpr ⟨bk_X12_cut_16, List.forall_mem_cons.mpr ⟨bk_X12_cut_17, List.forall_mem_cons.mpr ⟨bk_X12_cut_18, List.forall_mem_cons.mpr ⟨bk_X12_cut_19, List.forall_mem_cons.mpr ⟨bk_X12_cut_20, List.forall_mem_cons.mpr ⟨bk_X12_cut_21, List.forall_mem_cons.mpr ⟨bk_X12_cut_22, List.forall_mem_cons.mpr ⟨bk_X12_cut_23, List.forall_mem_cons.mpr ⟨bk_X12_cut_24, List.forall_mem_cons.mpr ⟨bk_X12_cut_25, List.forall_mem_cons.mpr ⟨bk_X12_cut_26, List.forall_mem_cons.mpr ⟨bk_X12_cut_27, List.forall_mem_cons.mpr ⟨bk_X12_cut_28, List.forall_mem_cons.mpr ⟨bk_X12_cut_29, List.forall_mem_cons.mpr ⟨bk_X12_cut_30, List.forall_mem_cons.mpr ⟨bk_X12_cut_31, List.forall_mem_cons.mpr ⟨bk_X12_cut_32, List.forall_mem_cons.mpr ⟨bk_X12_cut_33, List.forall_mem_cons.mpr ⟨bk_X12_cut_34, List.forall_mem_cons.mpr ⟨bk_X12_cut_35, List.forall_mem_cons.mpr ⟨bk_X12_cut_36, List.forall_mem_cons.mpr ⟨bk_X12_cut_37, fun _ h => absurd h List.not_mem_nil⟩⟩⟩⟩⟩⟩⟩⟩⟩⟩⟩⟩⟩⟩⟩⟩⟩⟩⟩⟩⟩⟩⟩⟩⟩⟩⟩⟩⟩⟩⟩⟩⟩⟩⟩⟩⟩⟩)
theorem ok_X12_cut : sm_OK sm_P pm_X12_cut := ⟨om_X12_cut, fun _ => ⟨sm_inw 6 95 rfl rfl, sm_inw 0 14 rfl rfl⟩⟩
theorem om_X12_doubt : sm_okM sm_P pm_X12_doubt = true := sm_okMf_of [[0, 1, 2, 5], [8, 9, 12, 14, 15, 18, 19, 20, 21, 22], [25, 26], [27, 28, 31, 32, 33, 34, 35], [38, 39, 42, 43, 44, 45], [45, 46, 49, 50]] (by decide +kernel)
theorem ok_X12_doubt : sm_OK sm_P pm_X12_doubt := ⟨om_X12_doubt, fun _ => ⟨sm_inw 6 219 rfl rfl, sm_inw 0 14 rfl rfl⟩⟩
theorem bk_X12_drawn_0 : sm_okL sm_P pm_X12_drawn pb_X12_drawn_0.2.2.1 pb_X12_drawn_0.2.2.2 pb_X12_drawn_0.1 = true := sm_okLf_of _ 0 [1, 2, 5] (by decide +kernel)
theorem bk_X12_drawn_1 : sm_okL sm_P pm_X12_drawn pb_X12_drawn_1.2.2.1 pb_X12_drawn_1.2.2.2 pb_X12_drawn_1.1 = true := sm_okLf_of _ 8 [9, 10, 13] (by decide +kernel)
theorem bk_X12_drawn_2 : sm_okL sm_P pm_X12_drawn pb_X12_drawn_2.2.2.1 pb_X12_drawn_2.2.2.2 pb_X12_drawn_2.1 = true := sm_okLf_of _ 16 [17] (by decide +kernel)
theorem bk_X12_drawn_3 : sm_okL sm_P pm_X12_drawn pb_X12_drawn_3.2.2.1 pb_X12_drawn_3.2.2.2 pb_X12_drawn_3.1 = true := sm_okLf_of _ 18 [19, 20, 23, 25, 27] (by decide +kernel)
theorem bk_X12_drawn_4 : sm_okL sm_P pm_X12_drawn pb_X12_drawn_4.2.2.1 pb_X12_drawn_4.2.2.2 pb_X12_drawn_4.1 = true := sm_okLf_of _ 30 [32] (by decide +kernel)
theorem bk_X12_drawn_5 : sm_okL sm_P pm_X12_drawn pb_X12_drawn_5.2.2.1 pb_X12_drawn_5.2.2.2 pb_X12_drawn_5.1 = true := sm_okLf_of _ 33 [34, 35, 36, 39] (by decide +kernel)
theorem bk_X12_drawn_6 : sm_okL sm_P pm_X12_drawn pb_X12_drawn_6.2.2.1 pb_X12_drawn_6.2.2.2 pb_X12_drawn_6.1 = true := sm_okLf_of _ 42 [43] (by decide +kernel)
theorem bk_X12_drawn_7 : sm_okL sm_P pm_X12_drawn pb_X12_drawn_7.2.2.1 pb_X12_drawn_7.2.2.2 pb_X12_drawn_7.1 = true := sm_okLf_of _ 44 [45, 47, 48, 50, 51, 53] (by decide +kernel)
theorem bk_X12_drawn_8 : sm_okL sm_P pm_X12_drawn pb_X12_drawn_8.2.2.1 pb_X12_drawn_8.2.2.2 pb_X12_drawn_8.1 = true := sm_okLf_of _ 53 [55, 56, 59, 60, 63, 64] (by decide +kernel)
theorem bk_X12_drawn_9 : sm_okL sm_P pm_X12_drawn pb_X12_drawn_9.2.2.1 pb_X12_drawn_9.2.2.2 pb_X12_drawn_9.1 = true := sm_okLf_of _ 67 [68, 71, 73, 74, 77, 78, 80, 81, 82, 83] (by decide +kernel)
theorem bk_X12_drawn_10 : sm_okL sm_P pm_X12_drawn pb_X12_drawn_10.2.2.1 pb_X12_drawn_10.2.2.2 pb_X12_drawn_10.1 = true := sm_okLf_of _ 86 [] (by decide +kernel)
theorem bk_X12_drawn_11 : sm_okL sm_P pm_X12_drawn pb_X12_drawn_11.2.2.1 pb_X12_drawn_11.2.2.2 pb_X12_drawn_11.1 = true := sm_okLf_of _ 89 [90, 92, 93, 94, 95, 96, 99, 101, 103, 104] (by decide +kernel)
theorem bk_X12_drawn_12 : sm_okL sm_P pm_X12_drawn pb_X12_drawn_12.2.2.1 pb_X12_drawn_12.2.2.2 pb_X12_drawn_12.1 = true := sm_okLf_of _ 107 [108, 111, 113, 114, 117, 118, 120, 121, 122] (by decide +kernel)
theorem bk_X12_drawn_13 : sm_okL sm_P pm_X12_drawn pb_X12_drawn_13.2.2.1 pb_X12_drawn_13.2.2.2 pb_X12_drawn_13.1 = true := sm_okLf_of _ 123 [125, 126] (by decide +kernel)
theorem bk_X12_drawn_14 : sm_okL sm_P pm_X12_drawn pb_X12_drawn_14.2.2.1 pb_X12_drawn_14.2.2.2 pb_X12_drawn_14.1 = true := sm_okLf_of _ 129 [131, 132] (by decide +kernel)
theorem bk_X12_drawn_15 : sm_okL sm_P pm_X12_drawn pb_X12_drawn_15.2.2.1 pb_X12_drawn_15.2.2.2 pb_X12_drawn_15.1 = true := sm_okLf_of _ 135 [137, 138, 140, 141, 142, 143, 144, 147] (by decide +kernel)
theorem bk_X12_drawn_16 : sm_okL sm_P pm_X12_drawn pb_X12_drawn_16.2.2.1 pb_X12_drawn_16.2.2.2 pb_X12_drawn_16.1 = true := sm_okLf_of _ 150 [152, 154] (by decide +kernel)
theorem bk_X12_drawn_17 : sm_okL sm_P pm_X12_drawn pb_X12_drawn_17.2.2.1 pb_X12_drawn_17.2.2.2 pb_X12_drawn_17.1 = true := sm_okLf_of _ 154 [156, 157] (by decide +kernel)
theorem bk_X12_drawn_18 : sm_okL sm_P pm_X12_drawn pb_X12_drawn_18.2.2.1 pb_X12_drawn_18.2.2.2 pb_X12_drawn_18.1 = true := sm_okLf_of _ 160 [162, 163] (by decide +kernel)
theorem bk_X12_drawn_19 : sm_okL sm_P pm_X12_drawn pb_X12_drawn_19.2.2.1 pb_X12_drawn_19.2.2.2 pb_X12_drawn_19.1 = true := sm_okLf_of _ 166 [168, 169, 171, 172, 173, 174, 175, 178] (by decide +kernel)
theorem bk_X12_drawn_20 : sm_okL sm_P pm_X12_drawn pb_X12_drawn_20.2.2.1 pb_X12_drawn_20.2.2.2 pb_X12_drawn_20.1 = true := sm_okLf_of _ 181 [183, 185] (by decide +kernel)
theorem bk_X12_drawn_21 : sm_okL sm_P pm_X12_drawn pb_X12_drawn_21.2.2.1 pb_X12_drawn_21.2.2.2 pb_X12_drawn_21.1 = true := sm_okLf_of _ 185 [188] (by decide +kernel)
theorem bk_X12_drawn_22 : sm_okL sm_P pm_X12_drawn pb_X12_drawn_22.2.2.1 pb_X12_drawn_22.2.2.2 pb_X12_drawn_22.1 = true := sm_okLf_of _ 191 [193, 194] (by decide +kernel)
theorem bk_X12_drawn_23 : sm_okL sm_P pm_X12_drawn pb_X12_drawn_23.2.2.1 pb_X12_drawn_23.2.2.2 pb_X12_drawn_23.1 = true := sm_okLf_of _ 197 [199] (by decide +kernel)
theorem bk_X12_drawn_24 : sm_okL sm_P pm_X12_drawn pb_X12_drawn_24.2.2.1 pb_X12_drawn_24.2.2.2 pb_X12_drawn_24.1 = true := sm_okLf_of _ 200 [201, 204, 206, 207, 210, 211, 213, 214, 215, 217, 219, 220] (by decide +kernel)
theorem bk_X12_drawn_25 : sm_okL sm_P pm_X12_drawn pb_X12_drawn_25.2.2.1 pb_X12_drawn_25.2.2.2 pb_X12_drawn_25.1 = true := sm_okLf_of _ 223 [225] (by decide +kernel)
theorem bk_X12_drawn_26 : sm_okL sm_P pm_X12_drawn pb_X12_drawn_26.2.2.1 pb_X12_drawn_26.2.2.2 pb_X12_drawn_26.1 = true := sm_okLf_of _ 226 [227, 230, 232, 234, 235, 236, 239, 241, 242, 245, 246, 248, 249, 250, 251, 252, 254, 256, 257] (by decide +kernel)
theorem bk_X12_drawn_27 : sm_okL sm_P pm_X12_drawn pb_X12_drawn_27.2.2.1 pb_X12_drawn_27.2.2.2 pb_X12_drawn_27.1 = true := sm_okLf_of _ 260 [261, 262, 264, 265, 266, 267, 268, 271, 273, 274] (by decide +kernel)
theorem bk_X12_drawn_28 : sm_okL sm_P pm_X12_drawn pb_X12_drawn_28.2.2.1 pb_X12_drawn_28.2.2.2 pb_X12_drawn_28.1 = true := sm_okLf_of _ 277 [279] (by decide +kernel)
theorem bk_X12_drawn_29 : sm_okL sm_P pm_X12_drawn pb_X12_drawn_29.2.2.1 pb_X12_drawn_29.2.2.2 pb_X12_drawn_29.1 = true := sm_okLf_of _ 282 [284] (by decide +kernel)
theorem bk_X12_drawn_30 : sm_okL sm_P pm_X12_drawn pb_X12_drawn_30.2.2.1 pb_X12_drawn_30.2.2.2 pb_X12_drawn_30.1 = true := sm_okLf_of _ 284 [] (by decide +kernel)
theorem om_X12_drawn : sm_okM sm_P pm_X12_drawn = true := sm_okMg_of (by decide +kernel) (List.forall_mem_cons.mpr ⟨bk_X12_drawn_0, List.forall_mem_cons.mpr ⟨bk_X12_drawn_1, List.forall_mem_cons.mpr ⟨bk_X12_drawn_2, List.forall_mem_cons.mpr ⟨bk_X12_drawn_3, List.forall_mem_cons.mpr ⟨bk_X12_drawn_4, List.forall_mem_cons.mpr ⟨bk_X12_drawn_5, List.forall_mem_cons.mpr ⟨bk_X12_drawn_6, List.forall_mem_cons.mpr ⟨bk_X12_drawn_7, List.forall_mem_cons.mpr ⟨bk_X12_drawn_8, List.forall_mem_cons.mpr ⟨bk_X12_drawn_9, List.forall_mem_cons.mpr ⟨bk_X12_drawn_10, List.forall_mem_cons.mpr ⟨bk_X12_drawn_11, List.forall_mem_cons.mpr ⟨bk_X12_drawn_12, List.forall_mem_cons.mpr ⟨bk_X12_drawn_13, List.forall_mem_cons.mpr ⟨bk_X12_drawn_14, List.forall_mem_cons.mpr ⟨bk_X12_drawn_15, List.forall_mem_cons.mpr ⟨bk_X12_drawn_16, List.forall_mem_cons.mpr ⟨bk_X12_drawn_17, List.forall_mem_cons.mpr ⟨bk_X12_drawn_18, List.forall_mem_cons.mpr ⟨bk_X12_drawn_19, List.forall_mem_cons.mpr ⟨bk_X12_drawn_20, List.forall_mem_cons.mpr ⟨bk_X12_drawn_21, List.forall_mem_cons.mpr ⟨bk_X12_drawn_22, List.forall_mem_cons.mpr ⟨bk_X12_drawn_23, List.forall_mem_cons.mpr ⟨bk_X12_drawn_24, List.forall_mem_cons.mpr ⟨bk_X12_drawn_25, List.forall_mem_cons.mpr ⟨bk_X12_drawn_26, List.forall_mem_cons.mpr ⟨bk_X12_drawn_27, List.forall_mem_cons.mpr ⟨bk_X12_drawn_28, List.forall_mem_cons.mpr ⟨bk_X12_drawn_29, List.forall_mem_cons.mpr ⟨bk_X12_drawn_30, fun _ h => absurd h List.not_mem_nil⟩⟩⟩⟩⟩⟩⟩⟩⟩⟩⟩⟩⟩⟩⟩⟩⟩⟩⟩⟩⟩⟩⟩⟩⟩⟩⟩⟩⟩⟩⟩)
theorem ok_X12_drawn : sm_OK sm_P pm_X12_drawn := ⟨om_X12_drawn, fun _ => ⟨sm_inw 8 35 rfl rfl, sm_inw 0 14 rfl rfl⟩⟩
theorem om_X12_ends : sm_okM sm_P pm_X12_ends = true := sm_okMf_of [[0, 1, 2, 5], [8, 9], [10, 11, 14, 15, 18], [21, 23], [24, 26, 27, 28, 30], [30, 32, 33, 36], [39, 40, 42, 43, 46], [49], [52, 53, 54, 55, 56, 57, 58, 61, 63, 64, 66], [69, 70], [73, 75, 76], [79], [82, 84, 85], [88, 90, 91], [91, 94], [97, 98]] (by decide +kernel)
theorem ok_X12_ends : sm_OK sm_P pm_X12_ends := ⟨om_X12_ends, fun _ => ⟨sm_inw 7 87 rfl rfl, sm_inw 0 14 rfl rfl⟩⟩
theorem om_X12_fail : sm_okM sm_P pm_X12_fail = true := sm_okMf_of [[0, 1, 4], [7], [8, 9, 10, 13, 14, 15, 18, 19, 22, 23, 26]] (by decide +kernel)
theorem ok_X12_fail : sm_OK sm_P pm_X12_fail := ⟨om_X12_fail, fun _ => ⟨sm_inw 6 124 rfl rfl, sm_inw 0 14 rfl rfl⟩⟩
theorem om_X12_feed : sm_okM sm_P pm_X12_feed = true := sm_okMf_of [[0, 1, 4, 6, 7, 10], [13, 14], [15, 16, 17, 20, 21, 22, 25, 26, 27, 30, 31, 33, 36, 37, 39, 42, 43, 46]] (by decide +kernel)
theorem ok_X12_feed : sm_OK sm_P pm_X12_feed := ⟨om_X12_feed, fun _ => ⟨sm_inw 6 79 rfl rfl, sm_inw 0 14 rfl rfl⟩⟩
theorem om_X12_fewer : sm_okM sm_P pm_X12_fewer = true := sm_okMf_of [[0, 1, 4], [7, 8], [9, 10, 11, 14, 15, 16, 19, 20, 23, 24, 27]] (by decide +kernel)
theorem ok_X12_fewer : sm_OK sm_P pm_X12_fewer := ⟨om_X12_fewer, fun _ => ⟨sm_inw 6 215 rfl rfl, sm_inw 0 14 rfl rfl⟩⟩
theorem om_X12_first : sm_okM sm_P pm_X12_first = true := sm_okMf_of [[0, 1, 2, 3, 6]] (by decide +kernel)
theorem ok_X12_first : sm_OK sm_P pm_X12_first := ⟨om_X12_first, fun _ => ⟨sm_inw 8 15 rfl rfl, sm_inw 0 14 rfl rfl⟩⟩
end
section
/-! the tables are in order -/
theorem om_X12_forced : sm_okM sm_P pm_X12_forced = true := sm_okMf_of [[0, 1, 2, 5], [8, 9, 12, 13, 14], [17, 18], [19, 20, 23, 24, 27], [30, 32], [33, 34, 35, 38, 39, 40, 43, 46, 48, 49, 50, 51], [51, 52, 53, 56], [59, 60, 61, 62, 65, 67, 68], [71, 73, 74], [77, 79], [80, 82, 83, 86], [89, 90]] (by decide +kernel)
theorem ok_X12_forced : sm_OK sm_P pm_X12_forced := ⟨om_X12_forced, fun _ => ⟨sm_inw 7 99 rfl rfl, sm_inw 0 14 rfl rfl⟩⟩
theorem om_X12_gap : sm_okM sm_P pm_X12_gap = true := sm_okMf_of [[0, 1, 2, 5], [8, 9, 10, 13], [16, 17, 18, 21], [24, 25, 26, 27, 30], [33, 36], [37, 38, 39, 40, 41, 42, 43, 44, 46, 49]] (by decide +kernel)
theorem ok_X12_gap : sm_OK sm_P pm_X12_gap := ⟨om_X12_gap, fun _ => ⟨sm_inw 7 83 rfl rfl, sm_inw 0 14 rfl rfl⟩⟩
theorem om_X12_gapNow : sm_okM sm_P pm_X12_gapNow = true := sm_okMf_of [[0, 1], [4, 5, 8, 11, 13, 14, 15, 16, 17, 18, 19], [22, 23, 26, 29, 31, 32, 33, 34, 35, 36, 37, 38], [38]] (by decide +kernel)
theorem ok_X12_gapNow : sm_OK sm_P pm_X12_gapNow := ⟨om_X12_gapNow, fun _ => ⟨sm_inw 7 79 rfl rfl, sm_inw 0 14 rfl rfl⟩⟩
theorem om_X12_give : sm_okM sm_P pm_X12_give = true := sm_okMf_of [[0, 1, 2, 5, 6, 9, 10, 11, 12, 15]] (by decide +kernel)
theorem ok_X12_give : sm_OK sm_P pm_X12_give := ⟨om_X12_give, fun _ => ⟨sm_inw 8 39 rfl rfl, sm_inw 0 14 rfl rfl⟩⟩
theorem om_X12_gives : sm_okM sm_P pm_X12_gives = true := sm_okMf_of [[0, 1, 2, 5, 6, 7, 10, 11, 12, 15, 16], [16, 17, 18], [21, 22, 23, 24, 25, 26, 28, 29, 31, 34, 35, 36, 39, 42, 44, 45, 48], [51, 53], [54, 56], [59, 61, 62], [65, 67, 68, 69, 70], [70], [73, 74]] (by decide +kernel)
theorem ok_X12_gives : sm_OK sm_P pm_X12_gives := ⟨om_X12_gives, fun _ => ⟨sm_inw 8 43 rfl rfl, sm_inw 0 14 rfl rfl⟩⟩
theorem om_X12_givingUp : sm_okM sm_P pm_X12_givingUp = true := sm_okMf_of [[0, 1], [4, 5], [6, 7, 10, 11, 14], [17, 19], [22, 23, 24, 27], [30, 31, 34, 35, 36], [39, 40], [40]] (by decide +kernel)
theorem ok_X12_givingUp : sm_OK sm_P pm_X12_givingUp := ⟨om_X12_givingUp, fun _ => ⟨sm_inw 7 146 rfl rfl, sm_inw 0 14 rfl rfl⟩⟩
theorem om_X12_givingUps : sm_okM sm_P pm_X12_givingUps = true := sm_okMf_of [[0, 1, 4, 5, 8], [11, 13], [16, 17, 20], [20]] (by decide +kernel)
theorem ok_X12_givingUps : sm_OK sm_P pm_X12_givingUps := ⟨om_X12_givingUps, fun _ => ⟨sm_inw 7 142 rfl rfl, sm_inw 0 14 rfl rfl⟩⟩
theorem om_X12_goes : sm_okM sm_P pm_X12_goes = true := sm_okMf_of [[0, 1, 2, 3, 6, 7, 8, 11], [14, 15], [16, 17, 18, 21, 22, 23], [26, 27], [28, 29, 30, 33, 34, 35, 38, 41, 42, 43, 45, 46, 47, 50]] (by decide +kernel)
theorem ok_X12_goes : sm_OK sm_P pm_X12_goes := ⟨om_X12_goes, fun _ => ⟨sm_inw 7 67 rfl rfl, sm_inw 0 14 rfl rfl⟩⟩
theorem om_X12_goesAll : sm_okM sm_P pm_X12_goesAll = true := sm_okMf_of [[0, 1, 4], [7], [8, 9, 10, 13, 14, 15, 18, 19, 20, 23, 24, 25, 28, 31, 32, 33, 36, 39, 40, 41, 44, 45, 46, 49, 50, 51, 54, 55, 56, 59, 60, 63, 64, 65, 66, 69], [72, 73, 74, 75, 78, 81], [81, 82, 83, 86, 89, 90, 91, 94, 97, 98, 99, 102]] (by decide +kernel)
theorem ok_X12_goesAll : sm_OK sm_P pm_X12_goesAll := ⟨om_X12_goesAll, fun _ => ⟨sm_inw 6 239 rfl rfl, sm_inw 0 14 rfl rfl⟩⟩
theorem om_X12_goesOn : sm_okM sm_P pm_X12_goesOn = true := sm_okMf_of [[0, 1, 4, 7], [10, 11, 12, 15], [18, 19, 20, 23, 24, 25, 28], [28]] (by decide +kernel)
theorem ok_X12_goesOn : sm_OK sm_P pm_X12_goesOn := ⟨om_X12_goesOn, fun _ => ⟨sm_inw 6 132 rfl rfl, sm_inw 0 14 rfl rfl⟩⟩
theorem om_X12_hand : sm_okM sm_P pm_X12_hand = true := sm_okMf_of [[0, 1, 2, 5], [8, 9], [10, 11, 12, 15, 16, 17], [20, 21], [22, 23, 24, 25, 28], [31, 32], [33, 34, 37, 39, 40, 43, 44, 45, 46, 47, 48], [51, 53], [56, 57, 58, 59, 60, 61, 62, 65], [65]] (by decide +kernel)
theorem ok_X12_hand : sm_OK sm_P pm_X12_hand := ⟨om_X12_hand, fun _ => ⟨sm_inw 8 59 rfl rfl, sm_inw 0 14 rfl rfl⟩⟩
theorem om_X12_hasWay : sm_okM sm_P pm_X12_hasWay = true := sm_okMf_of [[0, 1, 2, 5, 6, 7, 10, 11, 12, 15, 16, 17, 20, 21, 22, 25, 26, 29, 30, 31, 32, 35], [38, 39, 40, 43], [46, 47], [50, 51], [51]] (by decide +kernel)
theorem ok_X12_hasWay : sm_OK sm_P pm_X12_hasWay := ⟨om_X12_hasWay, fun _ => ⟨sm_inw 7 131 rfl rfl, sm_inw 0 14 rfl rfl⟩⟩
theorem om_X12_holdsSpan : sm_okM sm_P pm_X12_holdsSpan = true := sm_okMf_of [[0, 1, 2, 5, 6, 7, 8, 9, 10, 13, 14, 15, 16, 17, 18, 21, 22, 23, 24, 25, 26, 29, 30, 31, 32, 33, 36]] (by decide +kernel)
theorem ok_X12_holdsSpan : sm_OK sm_P pm_X12_holdsSpan := ⟨om_X12_holdsSpan, fun _ => ⟨sm_inw 7 19 rfl rfl, sm_inw 0 14 rfl rfl⟩⟩
theorem om_X12_hour : sm_okM sm_P pm_X12_hour = true := sm_okMf_of [[0, 1, 2, 5], [8, 9], [10, 11, 12, 15, 17, 19], [22, 24], [25, 26, 27, 28, 31], [34, 35, 36, 37, 38, 39, 40, 43], [46, 47], [47]] (by decide +kernel)
theorem ok_X12_hour : sm_OK sm_P pm_X12_hour := ⟨om_X12_hour, fun _ => ⟨sm_inw 7 71 rfl rfl, sm_inw 0 14 rfl rfl⟩⟩
theorem om_X12_in : sm_okM sm_P pm_X12_in = true := sm_okMf_of [[0, 1, 2], [5, 6, 7], [10, 11], [14, 15], [15]] (by decide +kernel)
theorem ok_X12_in : sm_OK sm_P pm_X12_in := ⟨om_X12_in, fun _ => ⟨sm_inw 6 211 rfl rfl, sm_inw 0 14 rfl rfl⟩⟩
theorem bk_X12_init_0 : sm_okL sm_P pm_X12_init pb_X12_init_0.2.2.1 pb_X12_init_0.2.2.2 pb_X12_init_0.1 = true := sm_okLf_of _ 0 [1, 4, 5, 8, 10, 13, 14, 17, 19, 22, 23, 26, 28, 31, 32, 35, 37, 40, 41, 44, 46, 49, 50, 53, 55, 58, 59, 61, 63, 66, 67, 68, 71, 72, 74, 76, 79, 80, 82, 84] (by decide +kernel)
theorem bk_X12_init_1 : sm_okL sm_P pm_X12_init pb_X12_init_1.2.2.1 pb_X12_init_1.2.2.2 pb_X12_init_1.1 = true := sm_okLf_of _ 84 [87, 88, 90, 92, 95, 96, 97, 99, 102, 103, 104, 106, 109, 110, 111, 113, 116, 117, 119, 121, 124, 125, 126, 128, 131, 132, 134, 136, 139, 140, 142, 144, 147, 148, 149, 151, 154, 155, 157, 159] (by decide +kernel)
theorem bk_X12_init_2 : sm_okL sm_P pm_X12_init pb_X12_init_2.2.2.1 pb_X12_init_2.2.2.2 pb_X12_init_2.1 = true := sm_okLf_of _ 159 [162, 163, 165, 167, 170, 171, 173, 175, 178, 179, 181, 183, 186, 187, 190, 192, 195, 196, 199, 201, 204, 205, 208, 210, 213, 214, 217, 219, 222, 223, 224, 226, 229, 230, 232, 234, 237, 238, 239, 241] (by decide +kernel)
theorem bk_X12_init_3 : sm_okL sm_P pm_X12_init pb_X12_init_3.2.2.1 pb_X12_init_3.2.2.2 pb_X12_init_3.1 = true := sm_okLf_of _ 241 [244, 245, 247, 249, 252, 253, 255, 257, 260, 261, 263, 265, 268, 269, 271, 273, 276, 277, 279, 281, 284, 285, 287, 289, 292, 293, 296, 298, 301, 302, 304, 306, 309, 310, 312, 314, 317, 318, 320, 322] (by decide +kernel)
theorem bk_X12_init_4 : sm_okL sm_P pm_X12_init pb_X12_init_4.2.2.1 pb_X12_init_4.2.2.2 pb_X12_init_4.1 = true := sm_okLf_of _ 322 [325, 326, 328, 330, 333, 334, 336, 338, 341, 342, 344, 346, 349, 350, 352, 354, 357, 358, 360, 362, 365, 366, 368, 370, 373, 374, 376, 378, 381, 382, 385, 387, 390, 391, 394, 396, 399, 400, 403, 405] (by decide +kernel)
theorem bk_X12_init_5 : sm_okL sm_P pm_X12_init pb_X12_init_5.2.2.1 pb_X12_init_5.2.2.2 pb_X12_init_5.1 = true := sm_okLf_of _ 405 [408, 409, 412, 414, 417, 418, 421, 423, 426, 427, 430, 432, 435, 436, 438, 440, 443, 444, 446, 448, 451, 452, 454, 456, 459, 460, 463, 465, 468, 469, 472, 474, 477, 478, 480, 482, 483, 484, 485, 486] (by decide +kernel)
theorem bk_X12_init_6 : sm_okL sm_P pm_X12_init pb_X12_init_6.2.2.1 pb_X12_init_6.2.2.2 pb_X12_init_6.1 = true := sm_okLf_of _ 486 [487, 488, 489, 490, 491, 492, 494, 495, 496, 497, 499, 500, 501, 502, 504, 505, 506, 507, 510, 511, 514, 515, 518, 519, 521, 523, 525, 526, 527, 528, 529, 532, 533, 534, 537, 538, 540, 542, 544, 546] (by decide +kernel)
theorem bk_X12_init_7 : sm_okL sm_P pm_X12_init pb_X12_init_7.2.2.1 pb_X12_init_7.2.2.2 pb_X12_init_7.1 = true := sm_okLf_of _ 546 [548, 549, 550, 553, 554, 555, 558, 559, 561, 563, 565, 566, 567, 568, 569, 572, 573, 574, 577, 578, 580, 582, 584, 586, 587, 588, 589, 592, 593, 594, 597, 598, 600, 602, 603, 604, 605, 606, 607, 610] (by decide +kernel)
theorem bk_X12_init_8 : sm_okL sm_P pm_X12_init pb_X12_init_8.2.2.1 pb_X12_init_8.2.2.2 pb_X12_init_8.1 = true := sm_okLf_of _ 610 [611, 612, 615, 616, 618, 620, 621, 622, 623, 624, 625, 628, 629, 630, 633, 635, 637, 639, 641, 642, 643, 644, 645, 648, 649, 650, 653, 655, 657, 659, 661, 663, 664, 665, 666, 669, 670, 671, 674, 676] (by decide +kernel)
theorem bk_X12_init_9 : sm_okL sm_P pm_X12_init pb_X12_init_9.2.2.1 pb_X12_init_9.2.2.2 pb_X12_init_9.1 = true := sm_okLf_of _ 676 [678, 680, 681, 682, 683, 684, 685, 688, 689, 690, 693, 695, 697, 699, 701, 702, 703, 704, 705, 708, 709, 710, 713, 715, 717, 719, 720, 721, 722, 723, 724, 727, 728, 729, 732, 734, 736, 738, 740, 742] (by decide +kernel)
theorem bk_X12_init_10 : sm_okL sm_P pm_X12_init pb_X12_init_10.2.2.1 pb_X12_init_10.2.2.2 pb_X12_init_10.1 = true := sm_okLf_of _ 742 [744, 746, 747, 750, 751, 752, 755, 757, 759, 761, 763, 765, 766, 767, 768, 771, 772, 773, 776, 778, 780, 782, 784, 785, 786, 787, 788, 791, 792, 793, 796, 798, 800, 802, 804, 806, 808, 809, 810, 813] (by decide +kernel)
theorem bk_X12_init_11 : sm_okL sm_P pm_X12_init pb_X12_init_11.2.2.1 pb_X12_init_11.2.2.2 pb_X12_init_11.1 = true := sm_okLf_of _ 813 [814, 815, 816] (by decide +kernel)
theorem bk_X12_init_12 : sm_okL sm_P pm_X12_init pb_X12_init_12.2.2.1 pb_X12_init_12.2.2.2 pb_X12_init_12.1 = true := sm_okLf_of _ 816 [817, 819] (by decide +kernel)
theorem bk_X12_init_13 : sm_okL sm_P pm_X12_init pb_X12_init_13.2.2.1 pb_X12_init_13.2.2.2 pb_X12_init_13.1 = true := sm_okLf_of _ 822 [823, 826, 827, 828, 829, 832] (by decide +kernel)
theorem bk_X12_init_14 : sm_okL sm_P pm_X12_init pb_X12_init_14.2.2.1 pb_X12_init_14.2.2.2 pb_X12_init_14.1 = true := sm_okLf_of _ 835 [836, 837] (by decide +kernel)
theorem bk_X12_init_15 : sm_okL sm_P pm_X12_init pb_X12_init_15.2.2.1 pb_X12_init_15.2.2.2 pb_X12_init_15.1 = true := sm_okLf_of _ 837 [838, 840] (by decide +kernel)
theorem bk_X12_init_16 : sm_okL sm_P pm_X12_init pb_X12_init_16.2.2.1 pb_X12_init_16.2.2.2 pb_X12_init_16.1 = true := sm_okLf_of _ 843 [844, 847, 848, 849, 850, 853] (by decide +kernel)
theorem bk_X12_init_17 : sm_okL sm_P pm_X12_init pb_X12_init_17.2.2.1 pb_X12_init_17.2.2.2 pb_X12_init_17.1 = true := sm_okLf_of _ 856 [] (by decide +kernel)
theorem om_X12_init : sm_okM sm_P pm_X12_init = true := sm_okMg_of (by decide +kernel) (List.forall_mem_cons.mpr ⟨bk_X12_init_0, List.forall_mem_cons.mpr ⟨bk_X12_init_1, List.forall_mem_cons.mpr ⟨bk_X12_init_2, List.forall_mem_cons.mpr ⟨bk_X12_init_3, List.forall_mem_cons.mpr ⟨bk_X12_init_4, List.forall_mem_cons.mpr ⟨bk_X12_init_5, List.forall_mem_cons.mpr ⟨bk_X12_init_6, List.forall_mem_cons.mpr ⟨bk_X12_init_7, List.forall_mem_cons.mpr ⟨bk_X12_init_8, List.forall_mem_cons.mpr ⟨bk_X12_init_9, List.forall_mem_cons.mpr ⟨bk_X12_init_10, List.forall_mem_cons.mpr ⟨bk_X12_init_11, List.forall_mem_cons.mpr ⟨bk_X12_init_12, List.forall_mem_cons.mpr ⟨bk_X12_init_13, List.forall_mem_cons.mpr ⟨bk_X12_init_14, List.forall_mem_cons.mpr ⟨bk_X12_init_15, List.forall_mem_cons.mpr ⟨bk_X12_init_16, List.forall_mem_cons.mpr ⟨bk_X12_init_17, fun _ h => absurd h List.not_mem_nil⟩⟩⟩⟩⟩⟩⟩⟩⟩⟩⟩⟩⟩⟩⟩⟩⟩⟩)
theorem ok_X12_init : sm_OK sm_P pm_X12_init := ⟨om_X12_init, fun _ => ⟨sm_inw 5 16 rfl rfl, sm_inw 0 14 rfl rfl⟩⟩
theorem om_X12_is : sm_okM sm_P pm_X12_is = true := sm_okMf_of [[0, 1, 4], [7, 8, 11, 12, 15, 16, 17], [20, 21], [24, 25], [25]] (by decide +kernel)
theorem ok_X12_is : sm_OK sm_P pm_X12_is := ⟨om_X12_is, fun _ => ⟨sm_inw 6 116 rfl rfl, sm_inw 0 14 rfl rfl⟩⟩
theorem om_X12_isDigit : sm_okM sm_P pm_X12_isDigit = true := sm_okMf_of [[0, 1, 3], [6, 7, 9], [12, 13], [16, 17], [17]] (by decide +kernel)
theorem ok_X12_isDigit : sm_OK sm_P pm_X12_isDigit := ⟨om_X12_isDigit, fun _ => ⟨sm_inw 6 109 rfl rfl, sm_inw 0 14 rfl rfl⟩⟩
theorem om_X12_isLeft : sm_okM sm_P pm_X12_isLeft = true := sm_okMf_of [[0, 1, 2], [2, 3, 5], [8, 9, 10, 11, 12, 13], [16], [19, 20, 21, 22, 25, 26, 27, 30, 31, 33, 34, 36], [36, 38, 39, 42, 43, 46, 47], [50, 52], [55, 56, 58, 59, 60, 61, 62], [65, 66, 68, 69, 72, 74], [77, 78, 80, 81, 82, 83, 84], [87, 88, 90, 91, 92, 94, 95, 96, 97, 98, 101, 103], [103, 106], [109, 111], [114, 115], [116, 119], [122, 123]] (by decide +kernel)
theorem ok_X12_isLeft : sm_OK sm_P pm_X12_isLeft := ⟨om_X12_isLeft, fun _ => ⟨sm_inw 7 227 rfl rfl, sm_inw 0 14 rfl rfl⟩⟩
theorem om_X12_isLetter : sm_okM sm_P pm_X12_isLetter = true := sm_okMf_of [[0, 1, 3], [6, 7, 9], [12, 13], [16, 17], [17]] (by decide +kernel)
theorem ok_X12_isLetter : sm_OK sm_P pm_X12_isLetter := ⟨om_X12_isLetter, fun _ => ⟨sm_inw 6 106 rfl rfl, sm_inw 0 14 rfl rfl⟩⟩
theorem om_X12_isMinute : sm_okM sm_P pm_X12_isMinute = true := sm_okMf_of [[0, 1, 2, 5, 8]] (by decide +kernel)
theorem ok_X12_isMinute : sm_OK sm_P pm_X12_isMinute := ⟨om_X12_isMinute, fun _ => ⟨sm_inw 7 95 rfl rfl, sm_inw 0 14 rfl rfl⟩⟩
theorem om_X12_isPerson : sm_okM sm_P pm_X12_isPerson = true := sm_okMf_of [[0, 1, 2, 3, 6, 7, 10, 11, 12, 13, 16]] (by decide +kernel)
theorem ok_X12_isPerson : sm_OK sm_P pm_X12_isPerson := ⟨om_X12_isPerson, fun _ => ⟨sm_inw 7 199 rfl rfl, sm_inw 0 14 rfl rfl⟩⟩
theorem om_X12_isSaying : sm_okM sm_P pm_X12_isSaying = true := sm_okMf_of [[0, 1, 2, 3, 6, 7, 10, 11, 12, 13, 16]] (by decide +kernel)
theorem ok_X12_isSaying : sm_OK sm_P pm_X12_isSaying := ⟨om_X12_isSaying, fun _ => ⟨sm_inw 6 223 rfl rfl, sm_inw 0 14 rfl rfl⟩⟩
theorem om_X12_isTime : sm_okM sm_P pm_X12_isTime = true := sm_okMf_of [[0, 1, 2, 3, 6, 7, 10, 11, 12, 13, 16]] (by decide +kernel)
theorem ok_X12_isTime : sm_OK sm_P pm_X12_isTime := ⟨om_X12_isTime, fun _ => ⟨sm_inw 6 208 rfl rfl, sm_inw 0 14 rfl rfl⟩⟩
theorem om_X12_itemAt : sm_okM sm_P pm_X12_itemAt = true := sm_okMf_of [[0, 1, 2, 5], [8, 9, 12, 13, 14], [17, 18], [21, 22], [25, 26, 28, 29, 30, 31, 34, 35, 36, 39], [42, 43, 45, 46], [49, 50], [50]] (by decide +kernel)
theorem ok_X12_itemAt : sm_OK sm_P pm_X12_itemAt := ⟨om_X12_itemAt, fun _ => ⟨sm_inw 7 167 rfl rfl, sm_inw 0 14 rfl rfl⟩⟩
theorem om_X12_keep : sm_okM sm_P pm_X12_keep = true := sm_okMf_of [[0, 1, 4, 5, 8], [11, 13], [14, 15, 16], [16, 17, 18, 21], [24, 25, 26, 27, 30], [33, 34], [35, 38], [41, 43]] (by decide +kernel)
theorem ok_X12_keep : sm_OK sm_P pm_X12_keep := ⟨om_X12_keep, fun _ => ⟨sm_inw 8 55 rfl rfl, sm_inw 0 14 rfl rfl⟩⟩
theorem om_X12_kept : sm_okM sm_P pm_X12_kept = true := sm_okMf_of [[0, 1, 2, 5, 6, 7], [10, 11], [12, 13, 14, 15, 18], [21, 22], [25, 26], [26]] (by decide +kernel)
theorem ok_X12_kept : sm_OK sm_P pm_X12_kept := ⟨om_X12_kept, fun _ => ⟨sm_inw 8 51 rfl rfl, sm_inw 0 14 rfl rfl⟩⟩
theorem om_X12_known : sm_okM sm_P pm_X12_known = true := sm_okMf_of [[0, 1, 4, 5, 6, 7, 10, 11, 14], [17, 18], [19, 20, 21, 22, 24], [24, 26, 27, 30], [33, 34, 35], [38, 39, 42, 44, 45, 46, 49, 50, 51, 52], [55, 56, 59, 61, 62, 63], [66, 67, 70, 72, 73, 74], [74, 77], [80, 81, 82], [85, 86, 87, 88, 91], [91, 92]] (by decide +kernel)
theorem ok_X12_known : sm_OK sm_P pm_X12_known := ⟨om_X12_known, fun _ => ⟨sm_inw 6 156 rfl rfl, sm_inw 0 14 rfl rfl⟩⟩
theorem om_X12_knows : sm_okM sm_P pm_X12_knows = true := sm_okMf_of [[0, 1, 4, 5, 8, 9, 12, 13, 14, 15, 16, 19, 20, 23, 24, 25, 26, 29, 30, 33, 34, 35, 36, 37, 40, 41, 42, 45]] (by decide +kernel)
theorem ok_X12_knows : sm_OK sm_P pm_X12_knows := ⟨om_X12_knows, fun _ => ⟨sm_inw 6 148 rfl rfl, sm_inw 0 14 rfl rfl⟩⟩
theorem om_X12_lays : sm_okM sm_P pm_X12_lays = true := sm_okMf_of [[0, 1, 2, 5, 6, 7, 10, 11, 12, 15, 16, 17, 20, 23, 24, 25, 28, 29, 32, 33, 34, 35, 38], [41, 42], [43, 44, 45, 46, 49, 50, 51, 54, 55, 56], [56, 57, 58, 61], [64, 65, 66, 69, 70, 71, 72, 75, 77, 78, 79, 80, 81, 82, 85], [88, 89], [90, 93], [96, 97]] (by decide +kernel)
theorem ok_X12_lays : sm_OK sm_P pm_X12_lays := ⟨om_X12_lays, fun _ => ⟨sm_inw 7 75 rfl rfl, sm_inw 0 14 rfl rfl⟩⟩
theorem om_X12_laysSet : sm_okM sm_P pm_X12_laysSet = true := sm_okMf_of [[0, 1, 2, 3, 6], [9, 10], [11, 12, 13], [13, 14, 15, 18, 19, 22, 23], [26, 27, 30, 31, 32, 33], [36, 37, 38, 39, 40, 41, 42, 45, 46, 47, 48, 51, 52, 53, 56], [59, 60], [61, 64], [67, 68]] (by decide +kernel)
theorem ok_X12_laysSet : sm_OK sm_P pm_X12_laysSet := ⟨om_X12_laysSet, fun _ => ⟨sm_inw 8 27 rfl rfl, sm_inw 0 14 rfl rfl⟩⟩
theorem om_X12_left : sm_okM sm_P pm_X12_left = true := sm_okMf_of [[0, 1, 2, 5, 6, 9, 10, 11, 12, 13, 14, 15, 16, 17, 18, 19], [22, 23, 24, 25, 26, 27], [30, 31, 32, 33], [36, 37], [38, 39, 42, 43, 46], [49, 51], [54, 55, 56, 57, 60], [60]] (by decide +kernel)
theorem ok_X12_left : sm_OK sm_P pm_X12_left := ⟨om_X12_left, fun _ => ⟨sm_inw 7 239 rfl rfl, sm_inw 0 14 rfl rfl⟩⟩
theorem om_X12_leftOf : sm_okM sm_P pm_X12_leftOf = true := sm_okMf_of [[0, 1, 2, 3, 5], [5, 7, 8, 11], [14, 15, 17, 18, 21], [24, 25, 26, 27, 30], [33, 36], [36, 39], [42, 43]] (by decide +kernel)
theorem ok_X12_leftOf : sm_OK sm_P pm_X12_leftOf := ⟨om_X12_leftOf, fun _ => ⟨sm_inw 7 223 rfl rfl, sm_inw 0 14 rfl rfl⟩⟩
theorem om_X12_lists : sm_okM sm_P pm_X12_lists = true := sm_okMf_of [[0, 1, 2, 5, 6, 7], [7, 8, 9, 12, 13, 16, 17], [20, 21, 22, 23, 24, 25], [28], [31, 32, 35, 36, 39, 40, 41, 42, 43, 46, 47, 48, 51], [51, 54], [57, 58, 59], [59, 60, 61, 64], [67, 68, 71, 72, 75, 77, 78, 79, 80, 81, 82, 85, 86, 87, 90, 93], [96, 97, 98], [98, 99, 100, 103], [106, 107, 110, 111, 114, 116, 117, 118, 119, 120, 121, 124, 125, 126, 129, 132], [135]] (by decide +kernel)
theorem ok_X12_lists : sm_OK sm_P pm_X12_lists := ⟨om_X12_lists, fun _ => ⟨sm_inw 7 7 rfl rfl, sm_inw 0 14 rfl rfl⟩⟩
theorem om_X12_meets : sm_okM sm_P pm_X12_meets = true := sm_okMf_of [[0, 1, 2, 5, 6, 7], [7, 8, 9, 12, 13, 16, 17], [20, 21, 22, 23, 24], [24, 25, 26, 29, 30, 33, 34], [37, 39, 40, 43, 44, 45, 46, 47, 49, 50, 53, 54, 55, 56, 58, 59, 62, 63, 64, 65], [68, 69, 72, 73, 74, 75, 78, 80, 81], [84, 85, 88, 89, 90, 91, 94, 96, 97], [100], [103, 104, 107, 108, 111, 112, 113, 114, 117, 118, 121, 122, 123, 124, 127, 128, 131, 132, 135, 137, 138, 141, 142, 143, 144, 145, 148, 150, 151, 152, 153, 154, 155, 156, 159, 160, 161, 164], [164, 167], [170, 173], [176]] (by decide +kernel)
theorem ok_X12_meets : sm_OK sm_P pm_X12_meets := ⟨om_X12_meets, fun _ => ⟨sm_inw 6 192 rfl rfl, sm_inw 0 14 rfl rfl⟩⟩
theorem om_X12_meetsAll : sm_okM sm_P pm_X12_meetsAll = true := sm_okMf_of [[0, 1, 2, 3, 6, 7, 8, 9, 10, 13], [16, 17, 18, 21], [21, 22], [25, 26, 29], [32, 33, 36, 37, 38, 39, 40, 43, 44, 45, 48], [51, 54], [57, 58, 61, 62, 63, 64, 65, 68, 69, 70, 71, 72, 73, 74, 75, 76, 79, 80, 81, 84, 85, 88, 91], [94, 95, 96, 99], [100, 101, 102, 103, 104, 105, 108, 109, 110, 111, 112, 115, 116, 117, 120, 121, 122, 123, 126], [129], [132, 133, 134, 135, 136, 139], [142, 143, 144, 147, 150], [153, 156, 157, 160, 161, 162, 163], [166]] (by decide +kernel)
theorem ok_X12_meetsAll : sm_OK sm_P pm_X12_meetsAll := ⟨om_X12_meetsAll, fun _ => ⟨sm_inw 7 211 rfl rfl, sm_inw 0 14 rfl rfl⟩⟩
theorem om_X12_more : sm_okM sm_P pm_X12_more = true := sm_okMf_of [[0, 1, 4, 6], [9, 10, 11, 14], [17, 18, 19], [22, 23, 24, 27], [30, 31, 34, 37, 40], [43, 45, 48, 51, 54], [57, 58], [59, 60, 63, 64, 67, 68, 69, 70, 73, 74, 77, 78, 79, 80, 83, 84, 87, 88, 89, 90, 93, 94, 97, 99, 100, 101, 102, 105, 106, 107, 110, 111, 114, 115, 118]] (by decide +kernel)
theorem ok_X12_more : sm_OK sm_P pm_X12_more := ⟨om_X12_more, fun _ => ⟨sm_inw 6 204 rfl rfl, sm_inw 0 14 rfl rfl⟩⟩
theorem om_X12_move : sm_okM sm_P pm_X12_move = true := sm_okMf_of [[0, 1, 2, 3, 6, 7, 8, 11], [14, 15, 16, 17, 20], [23, 24], [25, 26], [29, 30, 33, 34, 35], [38, 39, 40], [43, 44, 47, 48, 49], [52, 53, 56, 57, 58, 59], [62, 64], [67, 68, 71, 72, 73], [73]] (by decide +kernel)
theorem ok_X12_move : sm_OK sm_P pm_X12_move := ⟨om_X12_move, fun _ => ⟨sm_inw 6 231 rfl rfl, sm_inw 0 14 rfl rfl⟩⟩
theorem om_X12_must : sm_okM sm_P pm_X12_must = true := sm_okMf_of [[0, 1, 2, 5], [8, 9, 12], [15, 16, 17, 20], [20]] (by decide +kernel)
theorem ok_X12_must : sm_OK sm_P pm_X12_must := ⟨om_X12_must, fun _ => ⟨sm_inw 6 140 rfl rfl, sm_inw 0 14 rfl rfl⟩⟩
theorem om_X12_named : sm_okM sm_P pm_X12_named = true := sm_okMf_of [[0, 1, 4, 5, 6, 7, 10, 11, 12], [12, 13, 14, 17], [20, 21, 24], [27, 28, 31, 32, 33, 34, 37, 38, 39, 40], [43, 44, 45, 46, 49], [49, 52], [55, 56]] (by decide +kernel)
theorem ok_X12_named : sm_OK sm_P pm_X12_named := ⟨om_X12_named, fun _ => ⟨sm_inw 6 136 rfl rfl, sm_inw 0 14 rfl rfl⟩⟩
theorem om_X12_next : sm_okM sm_P pm_X12_next = true := sm_okMf_of [[0, 1, 4, 5, 8, 9], [12, 14], [15, 16, 19, 20, 23], [26, 28], [29, 30, 31, 32, 33, 34, 35], [35, 36, 37, 40, 41, 44, 45], [48, 49, 50, 51, 52, 53, 56, 58, 59, 60, 61, 62, 63, 66, 68, 70, 72], [75, 77], [80, 82], [82, 84, 85, 86], [89, 91, 92], [95], [98, 99, 100, 102, 103], [103, 106], [109, 110]] (by decide +kernel)
theorem ok_X12_next : sm_OK sm_P pm_X12_next := ⟨om_X12_next, fun _ => ⟨sm_inw 7 235 rfl rfl, sm_inw 0 14 rfl rfl⟩⟩
theorem om_X12_notes : sm_okM sm_P pm_X12_notes = true := sm_okMf_of [[0, 1, 4, 5, 8, 9, 10, 11, 12, 13, 14, 17, 18, 21, 22, 23, 24, 25, 26, 27, 30, 31, 34, 35, 36, 37, 38]] (by decide +kernel)
theorem ok_X12_notes : sm_OK sm_P pm_X12_notes := ⟨om_X12_notes, fun _ => ⟨sm_inw 7 51 rfl rfl, sm_inw 0 14 rfl rfl⟩⟩
theorem om_X12_number : sm_okM sm_P pm_X12_number = true := sm_okMf_of [[0, 1], [4, 5, 7, 10], [13, 14], [17, 18], [18, 19, 20], [23, 24, 26, 29], [32, 33, 36], [36, 37, 40, 41, 42, 43, 46], [49, 50, 53, 54, 57, 58], [61, 62], [62, 64, 65, 66, 69, 70, 73], [76, 78, 81], [84, 85, 86, 87, 90], [90, 91, 93, 94]] (by decide +kernel)
theorem ok_X12_number : sm_OK sm_P pm_X12_number := ⟨om_X12_number, fun _ => ⟨sm_inw 6 160 rfl rfl, sm_inw 0 14 rfl rfl⟩⟩
theorem om_X12_oneMore : sm_okM sm_P pm_X12_oneMore = true := sm_okMf_of [[0, 1, 2, 5, 6, 7, 10, 11, 12, 15, 16, 17], [17, 18, 19, 22, 23, 26, 27], [30, 32, 33, 36, 37, 38, 39, 41, 42, 45, 47, 48, 49], [52, 53, 56, 58, 59, 60], [63], [66, 67, 70, 71, 74, 75, 76, 77, 80, 81, 84, 85, 88, 90, 91, 94, 96, 97, 98, 99, 100, 101, 102, 103, 104, 107, 108, 109, 112], [112, 115], [118, 119, 120, 123, 126, 127, 128, 131, 132, 133, 136]] (by decide +kernel)
theorem ok_X12_oneMore : sm_OK sm_P pm_X12_oneMore := ⟨om_X12_oneMore, fun _ => ⟨sm_inw 7 203 rfl rfl, sm_inw 0 14 rfl rfl⟩⟩
theorem om_X12_openAt : sm_okM sm_P pm_X12_openAt = true := sm_okMf_of [[0, 1], [4, 5, 6, 9, 10, 13, 14], [17, 18], [21, 22, 25, 27, 28, 31, 32, 33, 34, 35, 36, 37], [37]] (by decide +kernel)
theorem ok_X12_openAt : sm_OK sm_P pm_X12_openAt := ⟨om_X12_openAt, fun _ => ⟨sm_inw 7 31 rfl rfl, sm_inw 0 14 rfl rfl⟩⟩
theorem om_X12_pick : sm_okM sm_P pm_X12_pick = true := sm_okMf_of [[0, 1, 2, 5, 6, 7, 8], [11, 12, 13], [16, 17, 18, 19, 20, 23, 24, 25, 28], [31, 32], [33, 34, 37, 38, 39, 40, 41]] (by decide +kernel)
theorem ok_X12_pick : sm_OK sm_P pm_X12_pick := ⟨om_X12_pick, fun _ => ⟨sm_inw 7 163 rfl rfl, sm_inw 0 14 rfl rfl⟩⟩
theorem om_X12_pickedStands : sm_okM sm_P pm_X12_pickedStands = true := sm_okMf_of [[0, 1, 2, 5, 6, 7, 10, 11, 12, 15, 16, 19, 20, 21, 22, 25], [28, 29], [30, 31, 32], [32, 33, 35, 36, 39, 40], [43, 44, 47, 48, 49, 50], [53, 54, 57, 58, 59], [62, 63, 64, 65, 68, 69, 70, 73], [76, 77], [78, 81], [84, 85]] (by decide +kernel)
theorem ok_X12_pickedStands : sm_OK sm_P pm_X12_pickedStands := ⟨om_X12_pickedStands, fun _ => ⟨sm_inw 7 175 rfl rfl, sm_inw 0 14 rfl rfl⟩⟩
theorem om_X12_place : sm_okM sm_P pm_X12_place = true := sm_okMf_of [[0, 1, 4]] (by decide +kernel)
theorem ok_X12_place : sm_OK sm_P pm_X12_place := ⟨om_X12_place, fun _ => ⟨sm_inw 6 200 rfl rfl, sm_inw 0 14 rfl rfl⟩⟩
theorem om_X12_plan : sm_okM sm_P pm_X12_plan = true := sm_okMf_of [[0, 1, 2, 3, 6]] (by decide +kernel)
theorem ok_X12_plan : sm_OK sm_P pm_X12_plan := ⟨om_X12_plan, fun _ => ⟨sm_inw 8 3 rfl rfl, sm_inw 0 14 rfl rfl⟩⟩
theorem om_X12_planOf : sm_okM sm_P pm_X12_planOf = true := sm_okMf_of [[0, 1, 2, 5, 8], [11, 12], [13, 14, 17, 18, 21], [24, 25, 28, 30], [33, 35], [36, 37, 38, 41, 42, 43, 45], [48, 50], [51, 52], [55, 56], [59, 60], [63, 65], [68, 69, 72], [72]] (by decide +kernel)
theorem ok_X12_planOf : sm_OK sm_P pm_X12_planOf := ⟨om_X12_planOf, fun _ => ⟨sm_inw 8 7 rfl rfl, sm_inw 0 14 rfl rfl⟩⟩
theorem bk_X12_plans_0 : sm_okL sm_P pm_X12_plans pb_X12_plans_0.2.2.1 pb_X12_plans_0.2.2.2 pb_X12_plans_0.1 = true := sm_okLf_of _ 0 [1, 4, 5, 8, 9, 10, 11, 14, 15, 16, 17, 18, 20] (by decide +kernel)
theorem bk_X12_plans_1 : sm_okL sm_P pm_X12_plans pb_X12_plans_1.2.2.1 pb_X12_plans_1.2.2.2 pb_X12_plans_1.1 = true := sm_okLf_of _ 20 [22, 23] (by decide +kernel)
theorem bk_X12_plans_2 : sm_okL sm_P pm_X12_plans pb_X12_plans_2.2.2.1 pb_X12_plans_2.2.2.2 pb_X12_plans_2.1 = true := sm_okLf_of _ 26 [27, 30, 32, 33, 34, 37] (by decide +kernel)
theorem bk_X12_plans_3 : sm_okL sm_P pm_X12_plans pb_X12_plans_3.2.2.1 pb_X12_plans_3.2.2.2 pb_X12_plans_3.1 = true := sm_okLf_of _ 40 [41, 43] (by decide +kernel)
theorem bk_X12_plans_4 : sm_okL sm_P pm_X12_plans pb_X12_plans_4.2.2.1 pb_X12_plans_4.2.2.2 pb_X12_plans_4.1 = true := sm_okLf_of _ 43 [45, 46, 49] (by decide +kernel)
theorem bk_X12_plans_5 : sm_okL sm_P pm_X12_plans pb_X12_plans_5.2.2.1 pb_X12_plans_5.2.2.2 pb_X12_plans_5.1 = true := sm_okLf_of _ 52 [53, 55, 56, 59] (by decide +kernel)
theorem bk_X12_plans_6 : sm_okL sm_P pm_X12_plans pb_X12_plans_6.2.2.1 pb_X12_plans_6.2.2.2 pb_X12_plans_6.1 = true := sm_okLf_of _ 62 [] (by decide +kernel)
theorem bk_X12_plans_7 : sm_okL sm_P pm_X12_plans pb_X12_plans_7.2.2.1 pb_X12_plans_7.2.2.2 pb_X12_plans_7.1 = true := sm_okLf_of _ 65 [66, 68] (by decide +kernel)
theorem bk_X12_plans_8 : sm_okL sm_P pm_X12_plans pb_X12_plans_8.2.2.1 pb_X12_plans_8.2.2.2 pb_X12_plans_8.1 = true := sm_okLf_of _ 68 [70, 71] (by decide +kernel)
theorem bk_X12_plans_9 : sm_okL sm_P pm_X12_plans pb_X12_plans_9.2.2.1 pb_X12_plans_9.2.2.2 pb_X12_plans_9.1 = true := sm_okLf_of _ 74 [75, 77, 78, 80, 81, 83] (by decide +kernel)
theorem bk_X12_plans_10 : sm_okL sm_P pm_X12_plans pb_X12_plans_10.2.2.1 pb_X12_plans_10.2.2.2 pb_X12_plans_10.1 = true := sm_okLf_of _ 83 [85, 86] (by decide +kernel)
theorem bk_X12_plans_11 : sm_okL sm_P pm_X12_plans pb_X12_plans_11.2.2.1 pb_X12_plans_11.2.2.2 pb_X12_plans_11.1 = true := sm_okLf_of _ 89 [91, 92, 95, 97, 98, 99, 100, 101, 103, 105, 106] (by decide +kernel)
theorem bk_X12_plans_12 : sm_okL sm_P pm_X12_plans pb_X12_plans_12.2.2.1 pb_X12_plans_12.2.2.2 pb_X12_plans_12.1 = true := sm_okLf_of _ 109 [111, 112, 114, 115, 116, 118] (by decide +kernel)
theorem bk_X12_plans_13 : sm_okL sm_P pm_X12_plans pb_X12_plans_13.2.2.1 pb_X12_plans_13.2.2.2 pb_X12_plans_13.1 = true := sm_okLf_of _ 118 [120, 121] (by decide +kernel)
theorem bk_X12_plans_14 : sm_okL sm_P pm_X12_plans pb_X12_plans_14.2.2.1 pb_X12_plans_14.2.2.2 pb_X12_plans_14.1 = true := sm_okLf_of _ 124 [126, 127, 129, 130, 131, 133] (by decide +kernel)
theorem bk_X12_plans_15 : sm_okL sm_P pm_X12_plans pb_X12_plans_15.2.2.1 pb_X12_plans_15.2.2.2 pb_X12_plans_15.1 = true := sm_okLf_of _ 133 [136] (by decide +kernel)
theorem bk_X12_plans_16 : sm_okL sm_P pm_X12_plans pb_X12_plans_16.2.2.1 pb_X12_plans_16.2.2.2 pb_X12_plans_16.1 = true := sm_okLf_of _ 139 [140, 142, 144, 147] (by decide +kernel)
theorem bk_X12_plans_17 : sm_okL sm_P pm_X12_plans pb_X12_plans_17.2.2.1 pb_X12_plans_17.2.2.2 pb_X12_plans_17.1 = true := sm_okLf_of _ 150 [151, 154, 156, 157, 158, 159, 160, 161] (by decide +kernel)
theorem bk_X12_plans_18 : sm_okL sm_P pm_X12_plans pb_X12_plans_18.2.2.1 pb_X12_plans_18.2.2.2 pb_X12_plans_18.1 = true := sm_okLf_of _ 161 [164] (by decide +kernel)
theorem bk_X12_plans_19 : sm_okL sm_P pm_X12_plans pb_X12_plans_19.2.2.1 pb_X12_plans_19.2.2.2 pb_X12_plans_19.1 = true := sm_okLf_of _ 167 [170] (by decide +kernel)
theorem bk_X12_plans_20 : sm_okL sm_P pm_X12_plans pb_X12_plans_20.2.2.1 pb_X12_plans_20.2.2.2 pb_X12_plans_20.1 = true := sm_okLf_of _ 173 [174, 175, 178, 179, 180, 181, 183] (by decide +kernel)
theorem bk_X12_plans_21 : sm_okL sm_P pm_X12_plans pb_X12_plans_21.2.2.1 pb_X12_plans_21.2.2.2 pb_X12_plans_21.1 = true := sm_okLf_of _ 183 [185] (by decide +kernel)
theorem bk_X12_plans_22 : sm_okL sm_P pm_X12_plans pb_X12_plans_22.2.2.1 pb_X12_plans_22.2.2.2 pb_X12_plans_22.1 = true := sm_okLf_of _ 188 [189, 192, 194, 195, 198, 200, 201, 202] (by decide +kernel)
theorem bk_X12_plans_23 : sm_okL sm_P pm_X12_plans pb_X12_plans_23.2.2.1 pb_X12_plans_23.2.2.2 pb_X12_plans_23.1 = true := sm_okLf_of _ 205 [206] (by decide +kernel)
theorem bk_X12_plans_24 : sm_okL sm_P pm_X12_plans pb_X12_plans_24.2.2.1 pb_X12_plans_24.2.2.2 pb_X12_plans_24.1 = true := sm_okLf_of _ 209 [211] (by decide +kernel)
theorem bk_X12_plans_25 : sm_okL sm_P pm_X12_plans pb_X12_plans_25.2.2.1 pb_X12_plans_25.2.2.2 pb_X12_plans_25.1 = true := sm_okLf_of _ 211 [212, 213, 215] (by decide +kernel)
theorem bk_X12_plans_26 : sm_okL sm_P pm_X12_plans pb_X12_plans_26.2.2.1 pb_X12_plans_26.2.2.2 pb_X12_plans_26.1 = true := sm_okLf_of _ 215 [217, 218] (by decide +kernel)
theorem bk_X12_plans_27 : sm_okL sm_P pm_X12_plans pb_X12_plans_27.2.2.1 pb_X12_plans_27.2.2.2 pb_X12_plans_27.1 = true := sm_okLf_of _ 221 [222, 225, 227, 228, 229] (by decide +kernel)
theorem bk_X12_plans_28 : sm_okL sm_P pm_X12_plans pb_X12_plans_28.2.2.1 pb_X12_plans_28.2.2.2 pb_X12_plans_28.1 = true := sm_okLf_of _ 232 [234, 235, 238, 240, 241, 242, 243, 244] (by decide +kernel)
theorem bk_X12_plans_29 : sm_okL sm_P pm_X12_plans pb_X12_plans_29.2.2.1 pb_X12_plans_29.2.2.2 pb_X12_plans_29.1 = true := sm_okLf_of _ 247 [] (by decide +kernel)
theorem bk_X12_plans_30 : sm_okL sm_P pm_X12_plans pb_X12_plans_30.2.2.1 pb_X12_plans_30.2.2.2 pb_X12_plans_30.1 = true := sm_okLf_of _ 250 [251, 254, 256, 257, 260, 262, 263, 264, 265, 267, 268, 271, 273, 274, 275, 278, 280, 281, 282, 283, 284, 286, 288, 290] (by decide +kernel)
theorem bk_X12_plans_31 : sm_okL sm_P pm_X12_plans pb_X12_plans_31.2.2.1 pb_X12_plans_31.2.2.2 pb_X12_plans_31.1 = true := sm_okLf_of _ 293 [295] (by decide +kernel)
theorem bk_X12_plans_32 : sm_okL sm_P pm_X12_plans pb_X12_plans_32.2.2.1 pb_X12_plans_32.2.2.2 pb_X12_plans_32.1 = true := sm_okLf_of _ 298 [300] (by decide +kernel)
theorem bk_X12_plans_33 : sm_okL sm_P pm_X12_plans pb_X12_plans_33.2.2.1 pb_X12_plans_33.2.2.2 pb_X12_plans_33.1 = true := sm_okLf_of _ 300 [301, 302, 304, 306, 307, 310, 312, 313] (by decide +kernel)
theorem bk_X12_plans_34 : sm_okL sm_P pm_X12_plans pb_X12_plans_34.2.2.1 pb_X12_plans_34.2.2.2 pb_X12_plans_34.1 = true := sm_okLf_of _ 316 [] (by decide +kernel)
theorem bk_X12_plans_35 : sm_okL sm_P pm_X12_plans pb_X12_plans_35.2.2.1 pb_X12_plans_35.2.2.2 pb_X12_plans_35.1 = true := sm_okLf_of _ 319 [320, 323, 325, 327, 328, 330] (by decide +kernel)
theorem bk_X12_plans_36 : sm_okL sm_P pm_X12_plans pb_X12_plans_36.2.2.1 pb_X12_plans_36.2.2.2 pb_X12_plans_36.1 = true := sm_okLf_of _ 333 [334, 336, 339] (by decide +kernel)
theorem bk_X12_plans_37 : sm_okL sm_P pm_X12_plans pb_X12_plans_37.2.2.1 pb_X12_plans_37.2.2.2 pb_X12_plans_37.1 = true := sm_okLf_of _ 339 [342] (by decide +kernel)
theorem bk_X12_plans_38 : sm_okL sm_P pm_X12_plans pb_X12_plans_38.2.2.1 pb_X12_plans_38.2.2.2 pb_X12_plans_38.1 = true := sm_okLf_of _ 345 [348] (by decide +kernel)
theorem bk_X12_plans_39 : sm_okL sm_P pm_X12_plans pb_X12_plans_39.2.2.1 pb_X12_plans_39.2.2.2 pb_X12_plans_39.1 = true := sm_okLf_of _ 351 [352, 355, 356, 357] (by decide +kernel)
theorem om_X12_plans : sm_okM sm_P pm_X12_plans = true := sm_okMg_of (by decide +kernel) (List.forall_mem_cons.mpr ⟨bk_X12_plans_0, List.forall_mem_cons.mpr ⟨bk_X12_plans_1, List.forall_mem_cons.mpr ⟨bk_X12_plans_2, List.forall_mem_cons.mpr ⟨bk_X12_plans_3, List.forall_mem_cons.mpr ⟨bk_X12_plans_4, List.forall_mem_cons.mpr ⟨bk_X12_plans_5, List.forall_mem_cons.mpr ⟨bk_X12_plans_6, List.forall_mem_cons.mpr ⟨bk_X12_plans_7, List.forall_mem_cons.mpr ⟨bk_X12_plans_8, List.forall_mem_cons.mpr ⟨bk_X12_plans_9, List.forall_mem_cons.mpr ⟨bk_X12_plans_10, List.forall_mem_cons.mpr ⟨bk_X12_plans_11, List.forall_mem_cons.mpr ⟨bk_X12_plans_12, List.forall_mem_cons.mpr ⟨bk_X12_plans_13, List.forall_mem_cons.mpr ⟨bk_X12_plans_14, List.forall_mem_cons.mpr ⟨bk_X12_plans_15, List.forall_mem_cons.mpr ⟨bk_X12_plans_16, List.forall_mem_cons.mpr ⟨bk_X12_plans_17, List.forall_mem_cons.mpr ⟨bk_X12_plans_18, List.forall_mem_cons.mpr ⟨bk_X12_plans_19, List.forall_mem_cons.mpr ⟨bk_X12_plans_20, List.forall_mem_cons.mpr ⟨bk_X12_plans_21, List.forall_mem_cons.mpr ⟨bk_X12_plans_22, List.forall_mem_cons.mpr ⟨bk_X12_plans_23, List.forall_mem_cons.mpr ⟨bk_X12_plans_24, List.forall_mem_cons.mpr ⟨bk_X12_plans_25, List.forall_mem_cons.mpr ⟨bk_X12_plans_26, List.forall_mem_cons.mpr ⟨bk_X12_plans_27, List.forall_mem_cons.mpr ⟨bk_X12_plans_28, List.forall_mem_cons.mpr ⟨bk_X12_plans_29, List.forall_mem_cons.mpr ⟨bk_X12_plans_30, List.forall_mem_cons.mpr ⟨bk_X12_plans_31, List.forall_mem_cons.mpr ⟨bk_X12_plans_32, List.forall_mem_cons.mpr ⟨bk_X12_plans_33, List.forall_mem_cons.mpr ⟨bk_X12_plans_34, List.forall_mem_cons.mpr ⟨bk_X12_plans_35, List.forall_mem_cons.mpr ⟨bk_X12_plans_36, List.forall_mem_cons.mpr ⟨bk_X12_plans_37, List.forall_mem_cons.mpr ⟨bk_X12_plans_38, List.forall_mem_cons.mpr ⟨bk_X12_plans_39, fun _ h => absurd h List.not_mem_nil⟩⟩⟩⟩⟩⟩⟩⟩⟩⟩⟩⟩⟩⟩⟩⟩⟩⟩⟩⟩⟩⟩⟩⟩⟩⟩⟩⟩⟩⟩⟩⟩⟩⟩⟩⟩⟩⟩⟩⟩)
theorem ok_X12_plans : sm_OK sm_P pm_X12_plans := ⟨om_X12_plans, fun _ => ⟨sm_inw 8 11 rfl rfl, sm_inw 0 14 rfl rfl⟩⟩
theorem om_X12_price : sm_okM sm_P pm_X12_price = true := sm_okMf_of [[0, 1, 4, 5, 6], [9, 10], [13, 14, 15, 18], [18]] (by decide +kernel)
theorem ok_X12_price : sm_OK sm_P pm_X12_price := ⟨om_X12_price, fun _ => ⟨sm_inw 7 158 rfl rfl, sm_inw 0 14 rfl rfl⟩⟩
theorem om_X12_put : sm_okM sm_P pm_X12_put = true := sm_okMf_of [[0, 2, 3], [3, 4], [7, 8, 11, 12, 15, 16, 17, 18, 19, 20, 21, 22, 25, 26, 27, 30, 33], [36]] (by decide +kernel)
theorem ok_X12_put : sm_OK sm_P pm_X12_put := ⟨om_X12_put, fun _ => ⟨sm_inw 6 83 rfl rfl, sm_inw 0 14 rfl rfl⟩⟩
theorem om_X12_quarrel : sm_okM sm_P pm_X12_quarrel = true := sm_okMf_of [[0, 1], [4, 5], [6, 7, 10, 11, 14], [17, 19], [22, 23, 24, 27], [30, 31, 34, 35, 36], [39, 40], [40]] (by decide +kernel)
theorem ok_X12_quarrel : sm_OK sm_P pm_X12_quarrel := ⟨om_X12_quarrel, fun _ => ⟨sm_inw 7 138 rfl rfl, sm_inw 0 14 rfl rfl⟩⟩
theorem om_X12_quarrels : sm_okM sm_P pm_X12_quarrels = true := sm_okMf_of [[0, 1, 4, 5, 8], [11, 13], [16, 17, 20], [20]] (by decide +kernel)
theorem ok_X12_quarrels : sm_OK sm_P pm_X12_quarrels := ⟨om_X12_quarrels, fun _ => ⟨sm_inw 7 119 rfl rfl, sm_inw 0 14 rfl rfl⟩⟩
theorem bk_X12_read_0 : sm_okL sm_P pm_X12_read pb_X12_read_0.2.2.1 pb_X12_read_0.2.2.2 pb_X12_read_0.1 = true := sm_okLf_of _ 0 [1, 2, 5, 8, 9, 10] (by decide +kernel)
theorem bk_X12_read_1 : sm_okL sm_P pm_X12_read pb_X12_read_1.2.2.1 pb_X12_read_1.2.2.2 pb_X12_read_1.1 = true := sm_okLf_of _ 10 [11, 12, 15] (by decide +kernel)
theorem bk_X12_read_2 : sm_okL sm_P pm_X12_read pb_X12_read_2.2.2.1 pb_X12_read_2.2.2.2 pb_X12_read_2.1 = true := sm_okLf_of _ 18 [19, 22, 23, 24, 27, 28, 29, 30, 33] (by decide +kernel)
theorem bk_X12_read_3 : sm_okL sm_P pm_X12_read pb_X12_read_3.2.2.1 pb_X12_read_3.2.2.2 pb_X12_read_3.1 = true := sm_okLf_of _ 36 [37, 38, 41, 42, 45, 46, 47, 50, 51, 52, 55, 56, 57, 60, 61, 62, 63, 66, 67, 70, 71, 72, 75, 76, 79, 80, 83, 84, 85, 86, 89, 90, 93, 94, 95, 96, 99, 100, 103, 104] (by decide +kernel)
theorem bk_X12_read_4 : sm_okL sm_P pm_X12_read pb_X12_read_4.2.2.1 pb_X12_read_4.2.2.2 pb_X12_read_4.1 = true := sm_okLf_of _ 104 [105, 106, 109, 110, 113, 114, 115, 116, 119, 120, 123, 124, 125, 126, 129, 130, 133, 134, 135, 136, 139, 140, 143, 144, 145, 146, 147] (by decide +kernel)
theorem bk_X12_read_5 : sm_okL sm_P pm_X12_read pb_X12_read_5.2.2.1 pb_X12_read_5.2.2.2 pb_X12_read_5.1 = true := sm_okLf_of _ 147 [148, 150] (by decide +kernel)
theorem bk_X12_read_6 : sm_okL sm_P pm_X12_read pb_X12_read_6.2.2.1 pb_X12_read_6.2.2.2 pb_X12_read_6.1 = true := sm_okLf_of _ 153 [154, 157, 159, 160, 163, 164, 165, 166, 167, 169, 170] (by decide +kernel)
theorem bk_X12_read_7 : sm_okL sm_P pm_X12_read pb_X12_read_7.2.2.1 pb_X12_read_7.2.2.2 pb_X12_read_7.1 = true := sm_okLf_of _ 173 [174] (by decide +kernel)
theorem bk_X12_read_8 : sm_okL sm_P pm_X12_read pb_X12_read_8.2.2.1 pb_X12_read_8.2.2.2 pb_X12_read_8.1 = true := sm_okLf_of _ 177 [178] (by decide +kernel)
theorem bk_X12_read_9 : sm_okL sm_P pm_X12_read pb_X12_read_9.2.2.1 pb_X12_read_9.2.2.2 pb_X12_read_9.1 = true := sm_okLf_of _ 178 [179, 182] (by decide +kernel)
theorem bk_X12_read_10 : sm_okL sm_P pm_X12_read pb_X12_read_10.2.2.1 pb_X12_read_10.2.2.2 pb_X12_read_10.1 = true := sm_okLf_of _ 185 [186, 187] (by decide +kernel)
theorem bk_X12_read_11 : sm_okL sm_P pm_X12_read pb_X12_read_11.2.2.1 pb_X12_read_11.2.2.2 pb_X12_read_11.1 = true := sm_okLf_of _ 187 [188, 190] (by decide +kernel)
theorem bk_X12_read_12 : sm_okL sm_P pm_X12_read pb_X12_read_12.2.2.1 pb_X12_read_12.2.2.2 pb_X12_read_12.1 = true := sm_okLf_of _ 193 [194, 197, 199, 200, 203, 204, 205, 206, 207, 208, 211] (by decide +kernel)
theorem bk_X12_read_13 : sm_okL sm_P pm_X12_read pb_X12_read_13.2.2.1 pb_X12_read_13.2.2.2 pb_X12_read_13.1 = true := sm_okLf_of _ 214 [215, 218] (by decide +kernel)
theorem bk_X12_read_14 : sm_okL sm_P pm_X12_read pb_X12_read_14.2.2.1 pb_X12_read_14.2.2.2 pb_X12_read_14.1 = true := sm_okLf_of _ 221 [222, 223, 226] (by decide +kernel)
theorem bk_X12_read_15 : sm_okL sm_P pm_X12_read pb_X12_read_15.2.2.1 pb_X12_read_15.2.2.2 pb_X12_read_15.1 = true := sm_okLf_of _ 229 [230, 233] (by decide +kernel)
theorem bk_X12_read_16 : sm_okL sm_P pm_X12_read pb_X12_read_16.2.2.1 pb_X12_read_16.2.2.2 pb_X12_read_16.1 = true := sm_okLf_of _ 236 [237, 238, 241] (by decide +kernel)
theorem bk_X12_read_17 : sm_okL sm_P pm_X12_read pb_X12_read_17.2.2.1 pb_X12_read_17.2.2.2 pb_X12_read_17.1 = true := sm_okLf_of _ 244 [245, 248] (by decide +kernel)
theorem bk_X12_read_18 : sm_okL sm_P pm_X12_read pb_X12_read_18.2.2.1 pb_X12_read_18.2.2.2 pb_X12_read_18.1 = true := sm_okLf_of _ 251 [252, 255] (by decide +kernel)
theorem bk_X12_read_19 : sm_okL sm_P pm_X12_read pb_X12_read_19.2.2.1 pb_X12_read_19.2.2.2 pb_X12_read_19.1 = true := sm_okLf_of _ 258 [259, 262] (by decide +kernel)
theorem bk_X12_read_20 : sm_okL sm_P pm_X12_read pb_X12_read_20.2.2.1 pb_X12_read_20.2.2.2 pb_X12_read_20.1 = true := sm_okLf_of _ 265 [266] (by decide +kernel)
theorem bk_X12_read_21 : sm_okL sm_P pm_X12_read pb_X12_read_21.2.2.1 pb_X12_read_21.2.2.2 pb_X12_read_21.1 = true := sm_okLf_of _ 266 [269, 270, 273] (by decide +kernel)
theorem bk_X12_read_22 : sm_okL sm_P pm_X12_read pb_X12_read_22.2.2.1 pb_X12_read_22.2.2.2 pb_X12_read_22.1 = true := sm_okLf_of _ 276 [277, 280] (by decide +kernel)
theorem bk_X12_read_23 : sm_okL sm_P pm_X12_read pb_X12_read_23.2.2.1 pb_X12_read_23.2.2.2 pb_X12_read_23.1 = true := sm_okLf_of _ 281 [282, 285] (by decide +kernel)
theorem bk_X12_read_24 : sm_okL sm_P pm_X12_read pb_X12_read_24.2.2.1 pb_X12_read_24.2.2.2 pb_X12_read_24.1 = true := sm_okLf_of _ 288 [289, 292] (by decide +kernel)
theorem bk_X12_read_25 : sm_okL sm_P pm_X12_read pb_X12_read_25.2.2.1 pb_X12_read_25.2.2.2 pb_X12_read_25.1 = true := sm_okLf_of _ 293 [294, 295, 298, 301, 302, 303] (by decide +kernel)
theorem bk_X12_read_26 : sm_okL sm_P pm_X12_read pb_X12_read_26.2.2.1 pb_X12_read_26.2.2.2 pb_X12_read_26.1 = true := sm_okLf_of _ 303 [304, 306] (by decide +kernel)
theorem bk_X12_read_27 : sm_okL sm_P pm_X12_read pb_X12_read_27.2.2.1 pb_X12_read_27.2.2.2 pb_X12_read_27.1 = true := sm_okLf_of _ 309 [310, 313, 314, 315, 316, 317, 320, 321, 322, 323, 326] (by decide +kernel)
theorem bk_X12_read_28 : sm_okL sm_P pm_X12_read pb_X12_read_28.2.2.1 pb_X12_read_28.2.2.2 pb_X12_read_28.1 = true := sm_okLf_of _ 329 [330, 331] (by decide +kernel)
theorem bk_X12_read_29 : sm_okL sm_P pm_X12_read pb_X12_read_29.2.2.1 pb_X12_read_29.2.2.2 pb_X12_read_29.1 = true := sm_okLf_of _ 331 [332, 334] (by decide +kernel)
theorem bk_X12_read_30 : sm_okL sm_P pm_X12_read pb_X12_read_30.2.2.1 pb_X12_read_30.2.2.2 pb_X12_read_30.1 = true := sm_okLf_of _ 337 [338, 341, 342, 343, 344, 347] (by decide +kernel)
theorem bk_X12_read_31 : sm_okL sm_P pm_X12_read pb_X12_read_31.2.2.1 pb_X12_read_31.2.2.2 pb_X12_read_31.1 = true := sm_okLf_of _ 350 [351, 352, 355, 356, 359, 360, 363, 364, 367, 368] (by decide +kernel)
theorem om_X12_read : sm_okM sm_P pm_X12_read = true := sm_okMg_of (by decide +kernel) (List.forall_mem_cons.mpr ⟨bk_X12_read_0, List.forall_mem_cons.mpr ⟨bk_X12_read_1, List.forall_mem_cons.mpr ⟨bk_X12_read_2, List.forall_mem_cons.mpr ⟨bk_X12_read_3, List.forall_mem_cons.mpr ⟨bk_X12_read_4, List.forall_mem_cons.mpr ⟨bk_X12_read_5, List.forall_mem_cons.mpr ⟨bk_X12_read_6, List.forall_mem_cons.mpr ⟨bk_X12_read_7, List.forall_mem_cons.mpr ⟨bk_X12_read_8, List.forall_mem_cons.mpr ⟨bk_X12_read_9, List.forall_mem_cons.mpr ⟨bk_X12_read_10, List.forall_mem_cons.mpr ⟨bk_X12_read_11, List.forall_mem_cons.mpr ⟨bk_X12_read_12, List.forall_mem_cons.mpr ⟨bk_X12_read_13, List.forall_mem_cons.mpr ⟨bk_X12_read_14, List.forall_mem_cons.mpr ⟨bk_X12_read_15, List.forall_mem_cons.mpr ⟨bk_X12_read_16, List.forall_mem_cons.mpr ⟨bk_X12_read_17, List.forall_mem_cons.mpr ⟨bk_X12_read_18, List.forall_mem_cons.mpr ⟨bk_X12_read_19, List.forall_mem_cons.mpr ⟨bk_X12_read_20, List.forall_mem_cons.mpr ⟨bk_X12_read_21, List.forall_mem_cons.mpr ⟨bk_X12_read_22, List.forall_mem_cons.mpr ⟨bk_X12_read_23, List.forall_mem_cons.mpr ⟨bk_X12_read_24, List.forall_mem_cons.mpr ⟨bk_X12_read_25, List.forall_mem_cons.mpr ⟨bk_X12_read_26, List.forall_mem_cons.mpr ⟨bk_X12_read_27, List.forall_mem_cons.mpr ⟨bk_X12_read_28, List.forall_mem_cons.mpr ⟨bk_X12_read_29, List.forall_mem_cons.mpr ⟨bk_X12_read_30, List.forall_mem_cons.mpr ⟨bk_X12_read_31, fun _ h => absurd h List.not_mem_nil⟩⟩⟩⟩⟩⟩⟩⟩⟩⟩⟩⟩⟩⟩⟩⟩⟩⟩⟩⟩⟩⟩⟩⟩⟩⟩⟩⟩⟩⟩⟩⟩)
theorem ok_X12_read : sm_OK sm_P pm_X12_read := ⟨om_X12_read, fun _ => ⟨sm_inw 6 91 rfl rfl, sm_inw 0 14 rfl rfl⟩⟩
theorem om_X12_ring : sm_okM sm_P pm_X12_ring = true := sm_okMf_of [[0, 1, 4], [7, 8, 11], [14, 16], [16]] (by decide +kernel)
theorem ok_X12_ring : sm_OK sm_P pm_X12_ring := ⟨om_X12_ring, fun _ => ⟨sm_inw 7 179 rfl rfl, sm_inw 0 14 rfl rfl⟩⟩
theorem om_X12_ringAt : sm_okM sm_P pm_X12_ringAt = true := sm_okMf_of [[0, 1, 4], [7, 8, 9, 10, 13, 14, 15, 18], [21, 22, 25, 26, 27], [30, 31], [31]] (by decide +kernel)
theorem ok_X12_ringAt : sm_OK sm_P pm_X12_ringAt := ⟨om_X12_ringAt, fun _ => ⟨sm_inw 7 191 rfl rfl, sm_inw 0 14 rfl rfl⟩⟩
theorem om_X12_rings : sm_okM sm_P pm_X12_rings = true := sm_okMf_of [[0, 1, 2, 5, 6, 9, 10], [13, 14], [15, 16, 17], [17, 18, 20, 21, 24, 25], [28, 29, 32, 33, 34, 35], [38], [41, 42, 45, 46, 47, 48, 49, 52], [55], [58, 59, 62, 63, 64, 65, 66, 69, 70, 73, 74, 77, 78, 79, 80, 83, 84, 85, 88], [88, 91], [94, 95]] (by decide +kernel)
theorem ok_X12_rings : sm_OK sm_P pm_X12_rings := ⟨om_X12_rings, fun _ => ⟨sm_inw 7 183 rfl rfl, sm_inw 0 14 rfl rfl⟩⟩
theorem om_X12_searches : sm_okM sm_P pm_X12_searches = true := sm_okMf_of [[0, 1, 2, 5, 6, 7, 10, 11, 12, 13, 16], [19, 20], [21, 22, 23, 24, 27, 28, 29, 30], [30, 31], [34, 35, 38, 39, 40, 41, 42, 45, 46, 47, 50], [53, 56], [59, 60, 63, 64, 65, 67, 68, 71, 72, 73, 74, 75, 76, 77, 78, 79, 82, 83, 84, 87, 88, 91, 94], [97, 98, 99, 102, 103], [104, 105, 106, 107, 108, 109, 112, 113, 114, 115, 116, 119, 120, 121, 124, 125, 126, 128, 131, 133, 134], [137, 138, 139, 142, 143, 144, 146, 148, 151], [151, 153], [156], [159, 160, 163, 164, 166, 167, 168, 169, 170, 171, 174], [177, 180, 181, 184, 185, 186, 187], [190, 191], [194, 195], [196, 197, 199], [199, 201, 202, 205], [208, 209, 212, 214, 215, 216, 218, 219, 220, 223, 225, 226, 227, 228, 231], [234, 237], [240, 241]] (by decide +kernel)
theorem ok_X12_searches : sm_OK sm_P pm_X12_searches := ⟨om_X12_searches, fun _ => ⟨sm_inw 7 35 rfl rfl, sm_inw 0 14 rfl rfl⟩⟩
end
section
/-! the tables are in order -/
theorem om_X12_sees : sm_okM sm_P pm_X12_sees = true := sm_okMf_of [[0, 1, 4, 5, 8, 9, 10, 11, 12, 13, 16, 19, 20, 21, 23, 24, 25, 26, 27, 28, 29, 30, 33, 36, 37, 38, 39, 40, 41, 43, 44, 47], [50, 51, 52, 55], [58, 59, 60, 63], [63, 64, 67], [70, 72, 73, 76], [79, 80, 82, 85], [85, 86, 87, 90]] (by decide +kernel)
theorem ok_X12_sees : sm_OK sm_P pm_X12_sees := ⟨om_X12_sees, fun _ => ⟨sm_inw 7 215 rfl rfl, sm_inw 0 14 rfl rfl⟩⟩
theorem om_X12_set : sm_okM sm_P pm_X12_set = true := sm_okMf_of [[0, 1, 2, 5], [8, 9, 10], [13, 14, 15, 18], [21, 22], [23, 24, 27, 28, 29, 30, 31]] (by decide +kernel)
theorem ok_X12_set : sm_OK sm_P pm_X12_set := ⟨om_X12_set, fun _ => ⟨sm_inw 7 103 rfl rfl, sm_inw 0 14 rfl rfl⟩⟩
theorem om_X12_setWays : sm_okM sm_P pm_X12_setWays = true := sm_okMf_of [[0, 1, 4, 5, 8], [11, 13], [14, 15, 16, 17, 18], [18, 19, 20, 23], [26, 27, 28, 31], [34, 37], [37, 40], [43, 44]] (by decide +kernel)
theorem ok_X12_setWays : sm_OK sm_P pm_X12_setWays := ⟨om_X12_setWays, fun _ => ⟨sm_inw 8 23 rfl rfl, sm_inw 0 14 rfl rfl⟩⟩
theorem bk_X12_sets_0 : sm_okL sm_P pm_X12_sets pb_X12_sets_0.2.2.1 pb_X12_sets_0.2.2.2 pb_X12_sets_0.1 = true := sm_okLf_of _ 0 [1, 4] (by decide +kernel)
theorem bk_X12_sets_1 : sm_okL sm_P pm_X12_sets pb_X12_sets_1.2.2.1 pb_X12_sets_1.2.2.2 pb_X12_sets_1.1 = true := sm_okLf_of _ 7 [] (by decide +kernel)
theorem bk_X12_sets_2 : sm_okL sm_P pm_X12_sets pb_X12_sets_2.2.2.1 pb_X12_sets_2.2.2.2 pb_X12_sets_2.1 = true := sm_okLf_of _ 8 [9, 10, 13, 14, 15, 18, 19, 20, 23, 24, 25, 28, 29, 30, 33, 34, 35, 38, 39, 42, 43, 44, 47, 48, 49, 50, 51, 52, 53, 54] (by decide +kernel)
theorem bk_X12_sets_3 : sm_okL sm_P pm_X12_sets pb_X12_sets_3.2.2.1 pb_X12_sets_3.2.2.2 pb_X12_sets_3.1 = true := sm_okLf_of _ 54 [55, 58] (by decide +kernel)
theorem bk_X12_sets_4 : sm_okL sm_P pm_X12_sets pb_X12_sets_4.2.2.1 pb_X12_sets_4.2.2.2 pb_X12_sets_4.1 = true := sm_okLf_of _ 61 [62, 65] (by decide +kernel)
theorem bk_X12_sets_5 : sm_okL sm_P pm_X12_sets pb_X12_sets_5.2.2.1 pb_X12_sets_5.2.2.2 pb_X12_sets_5.1 = true := sm_okLf_of _ 68 [69, 70, 71, 72, 73] (by decide +kernel)
theorem bk_X12_sets_6 : sm_okL sm_P pm_X12_sets pb_X12_sets_6.2.2.1 pb_X12_sets_6.2.2.2 pb_X12_sets_6.1 = true := sm_okLf_of _ 76 [] (by decide +kernel)
theorem bk_X12_sets_7 : sm_okL sm_P pm_X12_sets pb_X12_sets_7.2.2.1 pb_X12_sets_7.2.2.2 pb_X12_sets_7.1 = true := sm_okLf_of _ 79 [80, 83, 84, 85, 86, 87, 88, 91, 92, 93, 94, 97, 100] (by decide +kernel)
theorem bk_X12_sets_8 : sm_okL sm_P pm_X12_sets pb_X12_sets_8.2.2.1 pb_X12_sets_8.2.2.2 pb_X12_sets_8.1 = true := sm_okLf_of _ 100 [103] (by decide +kernel)
theorem bk_X12_sets_9 : sm_okL sm_P pm_X12_sets pb_X12_sets_9.2.2.1 pb_X12_sets_9.2.2.2 pb_X12_sets_9.1 = true := sm_okLf_of _ 106 [107, 110] (by decide +kernel)
theorem bk_X12_sets_10 : sm_okL sm_P pm_X12_sets pb_X12_sets_10.2.2.1 pb_X12_sets_10.2.2.2 pb_X12_sets_10.1 = true := sm_okLf_of _ 113 [] (by decide +kernel)
theorem bk_X12_sets_11 : sm_okL sm_P pm_X12_sets pb_X12_sets_11.2.2.1 pb_X12_sets_11.2.2.2 pb_X12_sets_11.1 = true := sm_okLf_of _ 114 [115, 116] (by decide +kernel)
theorem bk_X12_sets_12 : sm_okL sm_P pm_X12_sets pb_X12_sets_12.2.2.1 pb_X12_sets_12.2.2.2 pb_X12_sets_12.1 = true := sm_okLf_of _ 116 [117, 118, 121] (by decide +kernel)
theorem bk_X12_sets_13 : sm_okL sm_P pm_X12_sets pb_X12_sets_13.2.2.1 pb_X12_sets_13.2.2.2 pb_X12_sets_13.1 = true := sm_okLf_of _ 124 [125, 127] (by decide +kernel)
theorem bk_X12_sets_14 : sm_okL sm_P pm_X12_sets pb_X12_sets_14.2.2.1 pb_X12_sets_14.2.2.2 pb_X12_sets_14.1 = true := sm_okLf_of _ 127 [129, 132] (by decide +kernel)
theorem bk_X12_sets_15 : sm_okL sm_P pm_X12_sets pb_X12_sets_15.2.2.1 pb_X12_sets_15.2.2.2 pb_X12_sets_15.1 = true := sm_okLf_of _ 135 [137, 138, 139, 140, 141] (by decide +kernel)
theorem bk_X12_sets_16 : sm_okL sm_P pm_X12_sets pb_X12_sets_16.2.2.1 pb_X12_sets_16.2.2.2 pb_X12_sets_16.1 = true := sm_okLf_of _ 144 [146, 149, 150] (by decide +kernel)
theorem bk_X12_sets_17 : sm_okL sm_P pm_X12_sets pb_X12_sets_17.2.2.1 pb_X12_sets_17.2.2.2 pb_X12_sets_17.1 = true := sm_okLf_of _ 153 [] (by decide +kernel)
theorem bk_X12_sets_18 : sm_okL sm_P pm_X12_sets pb_X12_sets_18.2.2.1 pb_X12_sets_18.2.2.2 pb_X12_sets_18.1 = true := sm_okLf_of _ 156 [157, 160, 162, 163] (by decide +kernel)
theorem bk_X12_sets_19 : sm_okL sm_P pm_X12_sets pb_X12_sets_19.2.2.1 pb_X12_sets_19.2.2.2 pb_X12_sets_19.1 = true := sm_okLf_of _ 166 [167] (by decide +kernel)
theorem bk_X12_sets_20 : sm_okL sm_P pm_X12_sets pb_X12_sets_20.2.2.1 pb_X12_sets_20.2.2.2 pb_X12_sets_20.1 = true := sm_okLf_of _ 170 [171] (by decide +kernel)
theorem bk_X12_sets_21 : sm_okL sm_P pm_X12_sets pb_X12_sets_21.2.2.1 pb_X12_sets_21.2.2.2 pb_X12_sets_21.1 = true := sm_okLf_of _ 171 [173, 174, 177, 178, 180, 181, 182, 183, 184, 186, 187, 189] (by decide +kernel)
theorem bk_X12_sets_22 : sm_okL sm_P pm_X12_sets pb_X12_sets_22.2.2.1 pb_X12_sets_22.2.2.2 pb_X12_sets_22.1 = true := sm_okLf_of _ 189 [191, 193] (by decide +kernel)
theorem bk_X12_sets_23 : sm_okL sm_P pm_X12_sets pb_X12_sets_23.2.2.1 pb_X12_sets_23.2.2.2 pb_X12_sets_23.1 = true := sm_okLf_of _ 196 [198, 200, 201, 202, 203] (by decide +kernel)
theorem bk_X12_sets_24 : sm_okL sm_P pm_X12_sets pb_X12_sets_24.2.2.1 pb_X12_sets_24.2.2.2 pb_X12_sets_24.1 = true := sm_okLf_of _ 206 [] (by decide +kernel)
theorem bk_X12_sets_25 : sm_okL sm_P pm_X12_sets pb_X12_sets_25.2.2.1 pb_X12_sets_25.2.2.2 pb_X12_sets_25.1 = true := sm_okLf_of _ 209 [211] (by decide +kernel)
theorem bk_X12_sets_26 : sm_okL sm_P pm_X12_sets pb_X12_sets_26.2.2.1 pb_X12_sets_26.2.2.2 pb_X12_sets_26.1 = true := sm_okLf_of _ 214 [215, 218, 220, 221, 223, 224, 225, 226, 227, 228] (by decide +kernel)
theorem bk_X12_sets_27 : sm_okL sm_P pm_X12_sets pb_X12_sets_27.2.2.1 pb_X12_sets_27.2.2.2 pb_X12_sets_27.1 = true := sm_okLf_of _ 231 [232] (by decide +kernel)
theorem bk_X12_sets_28 : sm_okL sm_P pm_X12_sets pb_X12_sets_28.2.2.1 pb_X12_sets_28.2.2.2 pb_X12_sets_28.1 = true := sm_okLf_of _ 235 [236] (by decide +kernel)
theorem bk_X12_sets_29 : sm_okL sm_P pm_X12_sets pb_X12_sets_29.2.2.1 pb_X12_sets_29.2.2.2 pb_X12_sets_29.1 = true := sm_okLf_of _ 236 [238, 240] (by decide +kernel)
theorem bk_X12_sets_30 : sm_okL sm_P pm_X12_sets pb_X12_sets_30.2.2.1 pb_X12_sets_30.2.2.2 pb_X12_sets_30.1 = true := sm_okLf_of _ 243 [244, 247, 248, 250, 251, 252, 253, 254, 256, 257, 258, 259] (by decide +kernel)
theorem bk_X12_sets_31 : sm_okL sm_P pm_X12_sets pb_X12_sets_31.2.2.1 pb_X12_sets_31.2.2.2 pb_X12_sets_31.1 = true := sm_okLf_of _ 262 [263] (by decide +kernel)
theorem bk_X12_sets_32 : sm_okL sm_P pm_X12_sets pb_X12_sets_32.2.2.1 pb_X12_sets_32.2.2.2 pb_X12_sets_32.1 = true := sm_okLf_of _ 266 [267] (by decide +kernel)
theorem bk_X12_sets_33 : sm_okL sm_P pm_X12_sets pb_X12_sets_33.2.2.1 pb_X12_sets_33.2.2.2 pb_X12_sets_33.1 = true := sm_okLf_of _ 267 [269] (by decide +kernel)
theorem bk_X12_sets_34 : sm_okL sm_P pm_X12_sets pb_X12_sets_34.2.2.1 pb_X12_sets_34.2.2.2 pb_X12_sets_34.1 = true := sm_okLf_of _ 269 [272] (by decide +kernel)
theorem bk_X12_sets_35 : sm_okL sm_P pm_X12_sets pb_X12_sets_35.2.2.1 pb_X12_sets_35.2.2.2 pb_X12_sets_35.1 = true := sm_okLf_of _ 275 [277] (by decide +kernel)
theorem bk_X12_sets_36 : sm_okL sm_P pm_X12_sets pb_X12_sets_36.2.2.1 pb_X12_sets_36.2.2.2 pb_X12_sets_36.1 = true := sm_okLf_of _ 280 [281, 284, 285, 288, 290, 291, 292, 293, 296, 297, 298, 301] (by decide +kernel)
theorem bk_X12_sets_37 : sm_okL sm_P pm_X12_sets pb_X12_sets_37.2.2.1 pb_X12_sets_37.2.2.2 pb_X12_sets_37.1 = true := sm_okLf_of _ 301 [303] (by decide +kernel)
theorem bk_X12_sets_38 : sm_okL sm_P pm_X12_sets pb_X12_sets_38.2.2.1 pb_X12_sets_38.2.2.2 pb_X12_sets_38.1 = true := sm_okLf_of _ 306 [307, 310, 311, 314, 316, 317, 318, 319, 322, 323, 324, 327] (by decide +kernel)
theorem bk_X12_sets_39 : sm_okL sm_P pm_X12_sets pb_X12_sets_39.2.2.1 pb_X12_sets_39.2.2.2 pb_X12_sets_39.1 = true := sm_okLf_of _ 327 [330] (by decide +kernel)
theorem bk_X12_sets_40 : sm_okL sm_P pm_X12_sets pb_X12_sets_40.2.2.1 pb_X12_sets_40.2.2.2 pb_X12_sets_40.1 = true := sm_okLf_of _ 333 [336] (by decide +kernel)
theorem bk_X12_sets_41 : sm_okL sm_P pm_X12_sets pb_X12_sets_41.2.2.1 pb_X12_sets_41.2.2.2 pb_X12_sets_41.1 = true := sm_okLf_of _ 339 [] (by decide +kernel)
theorem om_X12_sets : sm_okM sm_P pm_X12_sets = true := sm_okMg_of (by decide +kernel) (List.forall_mem_cons.mpr ⟨bk_X12_sets_0, List.forall_mem_cons.mpr ⟨bk_X12_sets_1, List.forall_mem_cons.mpr ⟨bk_X12_sets_2, List.forall_mem_cons.mpr ⟨bk_X12_sets_3, List.forall_mem_cons.mpr ⟨bk_X12_sets_4, List.forall_mem_cons.mpr ⟨bk_X12_sets_5, List.forall_mem_cons.mpr ⟨bk_X12_sets_6, List.forall_mem_cons.mpr ⟨bk_X12_sets_7, List.forall_mem_cons.mpr ⟨bk_X12_sets_8, List.forall_mem_cons.mpr ⟨bk_X12_sets_9, List.forall_mem_cons.mpr ⟨bk_X12_sets_10, List.forall_mem_cons.mpr ⟨bk_X12_sets_11, List.forall_mem_cons.mpr ⟨bk_X12_sets_12, List.forall_mem_cons.mpr ⟨bk_X12_sets_13, List.forall_mem_cons.mpr ⟨bk_X12_sets_14, List.forall_mem_cons.mpr ⟨bk_X12_sets_15, List.forall_mem_cons.mpr ⟨bk_X12_sets_16, List.forall_mem_cons.mpr ⟨bk_X12_sets_17, List.forall_mem_cons.mpr ⟨bk_X12_sets_18, List.forall_mem_cons.mpr ⟨bk_X12_sets_19, List.forall_mem_cons.mpr ⟨bk_X12_sets_20, List.forall_mem_cons.mpr ⟨bk_X12_sets_21, List.forall_mem_cons.mpr ⟨bk_X12_sets_22, List.forall_mem_cons.mpr ⟨bk_X12_sets_23, List.forall_mem_cons.mpr ⟨bk_X12_sets_24, List.forall_mem_cons.mpr ⟨bk_X12_sets_25, List.forall_mem_cons.mpr ⟨bk_X12_sets_26, List.forall_mem_cons.mpr ⟨bk_X12_sets_27, List.forall_mem_cons.mpr ⟨bk_X12_sets_28, List.forall_mem_cons.mpr ⟨bk_X12_sets_29, List.forall_mem_cons.mpr ⟨bk_X12_sets_30, List.forall_mem_cons.mpr ⟨bk_X12_sets_31, List.forall_mem_cons.mpr ⟨bk_X12_sets_32, List.forall_mem_cons.mpr ⟨bk_X12_sets_33, List.forall_mem_cons.mpr ⟨bk_X12_sets_34, List.forall_mem_cons.mpr ⟨bk_X12_sets_35, List.forall_mem_cons.mpr ⟨bk_X12_sets_36, List.forall_mem_cons.mpr ⟨bk_X12_sets_37, List.forall_mem_cons.mpr ⟨bk_X12_sets_38, List.forall_mem_cons.mpr ⟨bk_X12_sets_39, List.forall_mem_cons.mpr ⟨bk_X12_sets_40, List.forall_mem_cons.mpr ⟨bk_X12_sets_41, fun _ h => absurd h List.not_mem_nil⟩⟩⟩⟩⟩⟩⟩⟩⟩⟩⟩⟩⟩⟩⟩⟩⟩⟩⟩⟩⟩⟩⟩⟩⟩⟩⟩⟩⟩⟩⟩⟩⟩⟩⟩⟩⟩⟩⟩⟩⟩⟩)
theorem ok_X12_sets : sm_OK sm_P pm_X12_sets := ⟨om_X12_sets, fun _ => ⟨sm_inw 7 123 rfl rfl, sm_inw 0 14 rfl rfl⟩⟩
theorem om_X12_sign : sm_okM sm_P pm_X12_sign = true := sm_okMf_of [[0, 1, 3], [6, 7], [10, 11, 13], [16, 17], [20, 21, 23], [26, 28], [31, 32], [32]] (by decide +kernel)
theorem ok_X12_sign : sm_OK sm_P pm_X12_sign := ⟨om_X12_sign, fun _ => ⟨sm_inw 6 112 rfl rfl, sm_inw 0 14 rfl rfl⟩⟩
theorem om_X12_slack : sm_okM sm_P pm_X12_slack = true := sm_okMf_of [[0, 1, 2, 5], [8, 9], [10, 11, 12, 15, 17, 19], [22, 24], [25, 26, 27, 30], [33, 34, 35, 36, 37, 38, 39, 42], [45, 47], [47]] (by decide +kernel)
theorem ok_X12_slack : sm_OK sm_P pm_X12_slack := ⟨om_X12_slack, fun _ => ⟨sm_inw 8 31 rfl rfl, sm_inw 0 14 rfl rfl⟩⟩
theorem om_X12_stands : sm_okM sm_P pm_X12_stands = true := sm_okMf_of [[0, 1, 2], [2, 3, 5], [8, 9, 12, 13, 14, 15, 18], [21, 22, 25], [28, 29], [32, 33], [33]] (by decide +kernel)
theorem ok_X12_stands : sm_OK sm_P pm_X12_stands := ⟨om_X12_stands, fun _ => ⟨sm_inw 7 171 rfl rfl, sm_inw 0 14 rfl rfl⟩⟩
theorem om_X12_sureOnes : sm_okM sm_P pm_X12_sureOnes = true := sm_okMf_of [[0, 1, 2, 3, 4], [4, 5, 6, 9, 10, 13, 14], [17, 18, 21, 23, 24, 27, 28, 29, 30, 31], [34, 35, 36, 37, 38, 39, 40], [40, 43], [46, 47]] (by decide +kernel)
theorem ok_X12_sureOnes : sm_OK sm_P pm_X12_sureOnes := ⟨om_X12_sureOnes, fun _ => ⟨sm_inw 7 127 rfl rfl, sm_inw 0 14 rfl rfl⟩⟩
theorem om_X12_tell : sm_okM sm_P pm_X12_tell = true := sm_okMf_of [[0, 1, 4, 5, 8, 9], [80, 81, 84, 85, 88, 89, 90], [93, 94, 95, 98], [98, 99, 102], [105, 106, 107, 110], [113, 114, 117, 118, 121, 122, 124], [127, 128, 129, 132], [132, 133, 136], [139, 140, 141, 144], [147, 148, 151, 152, 155, 156, 158], [161, 162, 163, 166], [166, 167, 170], [173, 174, 177], [180, 181, 184, 185, 188, 189, 191], [194, 195, 196, 199], [199, 200, 203], [206, 207, 210], [213, 214, 217, 218, 221, 222, 224], [227, 228, 229, 232], [232, 233, 236], [239, 240, 243], [246, 247, 250, 251, 254, 255, 256], [259, 260, 261, 264], [264, 265, 268], [271, 272, 275], [278, 279, 282, 283, 286, 287, 288], [291, 292, 293, 296], [296, 297, 300], [303, 304, 307], [310, 311, 312, 315], [315]] (by decide +kernel)
theorem ok_X12_tell : sm_OK sm_P pm_X12_tell := ⟨om_X12_tell, fun _ => ⟨sm_inw 6 120 rfl rfl, sm_inw 0 14 rfl rfl⟩⟩
theorem om_X12_tellAll : sm_okM sm_P pm_X12_tellAll = true := sm_okMf_of [[0, 1, 4, 5, 6, 7, 8, 9], [9, 10], [13, 14, 17], [20, 21, 22, 23, 24, 25, 28, 29, 30, 31, 34, 35, 38], [41], [42, 43, 46, 47, 48, 49, 50, 51, 52, 53, 55, 58, 59, 60], [63, 64, 67, 68, 69, 70], [73, 74, 75, 78], [78, 79], [82, 83, 86], [89]] (by decide +kernel)
theorem ok_X12_tellAll : sm_OK sm_P pm_X12_tellAll := ⟨om_X12_tellAll, fun _ => ⟨sm_inw 6 172 rfl rfl, sm_inw 0 14 rfl rfl⟩⟩
theorem om_X12_tellName : sm_okM sm_P pm_X12_tellName = true := sm_okMf_of [[0, 1, 4, 5, 8, 9, 10, 11, 14, 15, 18], [21], [22, 23, 24, 25, 26], [29, 30, 33, 34, 37, 38], [41, 42, 45, 46, 49, 50], [50, 53, 54], [57, 58, 61, 62, 65, 66, 67, 68, 69, 70], [73, 74, 77, 78, 81, 82, 83, 84, 85, 86], [86]] (by decide +kernel)
theorem ok_X12_tellName : sm_OK sm_P pm_X12_tellName := ⟨om_X12_tellName, fun _ => ⟨sm_inw 6 128 rfl rfl, sm_inw 0 14 rfl rfl⟩⟩
theorem bk_X12_tellOpen_0 : sm_okL sm_P pm_X12_tellOpen pb_X12_tellOpen_0.2.2.1 pb_X12_tellOpen_0.2.2.2 pb_X12_tellOpen_0.1 = true := sm_okLf_of _ 0 [1, 4, 5, 8, 9, 10, 11, 14, 15, 16, 18, 21, 22, 25, 26, 27, 30] (by decide +kernel)
theorem bk_X12_tellOpen_1 : sm_okL sm_P pm_X12_tellOpen pb_X12_tellOpen_1.2.2.1 pb_X12_tellOpen_1.2.2.2 pb_X12_tellOpen_1.1 = true := sm_okLf_of _ 33 [34] (by decide +kernel)
theorem bk_X12_tellOpen_2 : sm_okL sm_P pm_X12_tellOpen pb_X12_tellOpen_2.2.2.1 pb_X12_tellOpen_2.2.2.2 pb_X12_tellOpen_2.1 = true := sm_okLf_of _ 37 [38, 39, 42] (by decide +kernel)
theorem bk_X12_tellOpen_3 : sm_okL sm_P pm_X12_tellOpen pb_X12_tellOpen_3.2.2.1 pb_X12_tellOpen_3.2.2.2 pb_X12_tellOpen_3.1 = true := sm_okLf_of _ 42 [44, 47, 48, 49, 52, 53, 54, 55, 58, 59, 62, 63, 64, 66, 67, 70] (by decide +kernel)
theorem bk_X12_tellOpen_4 : sm_okL sm_P pm_X12_tellOpen pb_X12_tellOpen_4.2.2.1 pb_X12_tellOpen_4.2.2.2 pb_X12_tellOpen_4.1 = true := sm_okLf_of _ 73 [74, 75] (by decide +kernel)
theorem bk_X12_tellOpen_5 : sm_okL sm_P pm_X12_tellOpen pb_X12_tellOpen_5.2.2.1 pb_X12_tellOpen_5.2.2.2 pb_X12_tellOpen_5.1 = true := sm_okLf_of _ 78 [79, 82, 84, 85, 88, 89, 90, 91, 92, 93] (by decide +kernel)
theorem bk_X12_tellOpen_6 : sm_okL sm_P pm_X12_tellOpen pb_X12_tellOpen_6.2.2.1 pb_X12_tellOpen_6.2.2.2 pb_X12_tellOpen_6.1 = true := sm_okLf_of _ 96 [97, 98, 99, 102] (by decide +kernel)
theorem bk_X12_tellOpen_7 : sm_okL sm_P pm_X12_tellOpen pb_X12_tellOpen_7.2.2.1 pb_X12_tellOpen_7.2.2.2 pb_X12_tellOpen_7.1 = true := sm_okLf_of _ 102 [103, 106] (by decide +kernel)
theorem bk_X12_tellOpen_8 : sm_okL sm_P pm_X12_tellOpen pb_X12_tellOpen_8.2.2.1 pb_X12_tellOpen_8.2.2.2 pb_X12_tellOpen_8.1 = true := sm_okLf_of _ 109 [111, 112] (by decide +kernel)
theorem bk_X12_tellOpen_9 : sm_okL sm_P pm_X12_tellOpen pb_X12_tellOpen_9.2.2.1 pb_X12_tellOpen_9.2.2.2 pb_X12_tellOpen_9.1 = true := sm_okLf_of _ 115 [117, 118] (by decide +kernel)
theorem bk_X12_tellOpen_10 : sm_okL sm_P pm_X12_tellOpen pb_X12_tellOpen_10.2.2.1 pb_X12_tellOpen_10.2.2.2 pb_X12_tellOpen_10.1 = true := sm_okLf_of _ 121 [122, 125, 127, 128, 131, 132, 134, 135, 136, 137] (by decide +kernel)
theorem bk_X12_tellOpen_11 : sm_okL sm_P pm_X12_tellOpen pb_X12_tellOpen_11.2.2.1 pb_X12_tellOpen_11.2.2.2 pb_X12_tellOpen_11.1 = true := sm_okLf_of _ 140 [141, 142, 143, 146] (by decide +kernel)
theorem bk_X12_tellOpen_12 : sm_okL sm_P pm_X12_tellOpen pb_X12_tellOpen_12.2.2.1 pb_X12_tellOpen_12.2.2.2 pb_X12_tellOpen_12.1 = true := sm_okLf_of _ 146 [149, 150, 151, 154, 155, 156, 158] (by decide +kernel)
theorem bk_X12_tellOpen_13 : sm_okL sm_P pm_X12_tellOpen pb_X12_tellOpen_13.2.2.1 pb_X12_tellOpen_13.2.2.2 pb_X12_tellOpen_13.1 = true := sm_okLf_of _ 158 [160, 162] (by decide +kernel)
theorem bk_X12_tellOpen_14 : sm_okL sm_P pm_X12_tellOpen pb_X12_tellOpen_14.2.2.1 pb_X12_tellOpen_14.2.2.2 pb_X12_tellOpen_14.1 = true := sm_okLf_of _ 165 [166, 169] (by decide +kernel)
theorem bk_X12_tellOpen_15 : sm_okL sm_P pm_X12_tellOpen pb_X12_tellOpen_15.2.2.1 pb_X12_tellOpen_15.2.2.2 pb_X12_tellOpen_15.1 = true := sm_okLf_of _ 172 [173, 174] (by decide +kernel)
theorem bk_X12_tellOpen_16 : sm_okL sm_P pm_X12_tellOpen pb_X12_tellOpen_16.2.2.1 pb_X12_tellOpen_16.2.2.2 pb_X12_tellOpen_16.1 = true := sm_okLf_of _ 177 [178, 181, 183, 184, 185] (by decide +kernel)
theorem bk_X12_tellOpen_17 : sm_okL sm_P pm_X12_tellOpen pb_X12_tellOpen_17.2.2.1 pb_X12_tellOpen_17.2.2.2 pb_X12_tellOpen_17.1 = true := sm_okLf_of _ 188 [189, 190, 191, 194] (by decide +kernel)
theorem bk_X12_tellOpen_18 : sm_okL sm_P pm_X12_tellOpen pb_X12_tellOpen_18.2.2.1 pb_X12_tellOpen_18.2.2.2 pb_X12_tellOpen_18.1 = true := sm_okLf_of _ 194 [197] (by decide +kernel)
theorem bk_X12_tellOpen_19 : sm_okL sm_P pm_X12_tellOpen pb_X12_tellOpen_19.2.2.1 pb_X12_tellOpen_19.2.2.2 pb_X12_tellOpen_19.1 = true := sm_okLf_of _ 200 [201, 204, 206, 207, 208, 209, 212, 214, 216, 217, 218, 221, 223, 224, 225, 228, 229, 230, 233, 235, 236, 237, 240, 241, 242, 243, 246, 247, 250] (by decide +kernel)
theorem bk_X12_tellOpen_20 : sm_okL sm_P pm_X12_tellOpen pb_X12_tellOpen_20.2.2.1 pb_X12_tellOpen_20.2.2.2 pb_X12_tellOpen_20.1 = true := sm_okLf_of _ 253 [] (by decide +kernel)
theorem bk_X12_tellOpen_21 : sm_okL sm_P pm_X12_tellOpen pb_X12_tellOpen_21.2.2.1 pb_X12_tellOpen_21.2.2.2 pb_X12_tellOpen_21.1 = true := sm_okLf_of _ 254 [255, 256] (by decide +kernel)
theorem bk_X12_tellOpen_22 : sm_okL sm_P pm_X12_tellOpen pb_X12_tellOpen_22.2.2.1 pb_X12_tellOpen_22.2.2.2 pb_X12_tellOpen_22.1 = true := sm_okLf_of _ 259 [260, 263, 265, 266, 269, 270, 271, 272, 274, 275] (by decide +kernel)
theorem bk_X12_tellOpen_23 : sm_okL sm_P pm_X12_tellOpen pb_X12_tellOpen_23.2.2.1 pb_X12_tellOpen_23.2.2.2 pb_X12_tellOpen_23.1 = true := sm_okLf_of _ 275 [276, 279, 280, 283, 284, 285, 286, 287, 288] (by decide +kernel)
theorem om_X12_tellOpen : sm_okM sm_P pm_X12_tellOpen = true := sm_okMg_of (by decide +kernel) (List.forall_mem_cons.mpr ⟨bk_X12_tellOpen_0, List.forall_mem_cons.mpr ⟨bk_X12_tellOpen_1, List.forall_mem_cons.mpr ⟨bk_X12_tellOpen_2, List.forall_mem_cons.mpr ⟨bk_X12_tellOpen_3, List.forall_mem_cons.mpr ⟨bk_X12_tellOpen_4, List.forall_mem_cons.mpr ⟨bk_X12_tellOpen_5, List.forall_mem_cons.mpr ⟨bk_X12_tellOpen_6, List.forall_mem_cons.mpr ⟨bk_X12_tellOpen_7, List.forall_mem_cons.mpr ⟨bk_X12_tellOpen_8, List.forall_mem_cons.mpr ⟨bk_X12_tellOpen_9, List.forall_mem_cons.mpr ⟨bk_X12_tellOpen_10, List.forall_mem_cons.mpr ⟨bk_X12_tellOpen_11, List.forall_mem_cons.mpr ⟨bk_X12_tellOpen_12, List.forall_mem_cons.mpr ⟨bk_X12_tellOpen_13, List.forall_mem_cons.mpr ⟨bk_X12_tellOpen_14, List.forall_mem_cons.mpr ⟨bk_X12_tellOpen_15, List.forall_mem_cons.mpr ⟨bk_X12_tellOpen_16, List.forall_mem_cons.mpr ⟨bk_X12_tellOpen_17, List.forall_mem_cons.mpr ⟨bk_X12_tellOpen_18, List.forall_mem_cons.mpr ⟨bk_X12_tellOpen_19, List.forall_mem_cons.mpr ⟨bk_X12_tellOpen_20, List.forall_mem_cons.mpr ⟨bk_X12_tellOpen_21, List.forall_mem_cons.mpr ⟨bk_X12_tellOpen_22, List.forall_mem_cons.mpr ⟨bk_X12_tellOpen_23, fun _ h => absurd h List.not_mem_nil⟩⟩⟩⟩⟩⟩⟩⟩⟩⟩⟩⟩⟩⟩⟩⟩⟩⟩⟩⟩⟩⟩⟩⟩)
theorem ok_X12_tellOpen : sm_OK sm_P pm_X12_tellOpen := ⟨om_X12_tellOpen, fun _ => ⟨sm_inw 6 180 rfl rfl, sm_inw 0 14 rfl rfl⟩⟩
theorem om_X12_tellQuestion : sm_okM sm_P pm_X12_tellQuestion = true := sm_okMf_of [[0, 1, 4, 5, 8, 9, 10, 11, 14, 15, 18], [21, 22, 25, 27, 28, 31, 32, 33, 34, 37, 38, 41, 42, 43, 46], [46, 47, 48, 51, 52, 55], [58], [59, 60, 61, 62, 63, 66, 67, 70, 71, 74, 75, 78, 79, 82, 83, 84, 85, 86, 87]] (by decide +kernel)
theorem ok_X12_tellQuestion : sm_OK sm_P pm_X12_tellQuestion := ⟨om_X12_tellQuestion, fun _ => ⟨sm_inw 6 184 rfl rfl, sm_inw 0 14 rfl rfl⟩⟩
theorem bk_X12_tellSaying_0 : sm_okL sm_P pm_X12_tellSaying pb_X12_tellSaying_0.2.2.1 pb_X12_tellSaying_0.2.2.2 pb_X12_tellSaying_0.1 = true := sm_okLf_of _ 0 [2, 3, 6, 7, 8, 11, 12, 15, 16, 17, 18, 19, 22, 23, 24, 26, 29, 30, 31, 34, 35, 38, 39, 40, 43, 44, 45, 46, 47, 49, 52] (by decide +kernel)
theorem bk_X12_tellSaying_1 : sm_okL sm_P pm_X12_tellSaying pb_X12_tellSaying_1.2.2.1 pb_X12_tellSaying_1.2.2.2 pb_X12_tellSaying_1.1 = true := sm_okLf_of _ 55 [56, 59, 60, 61] (by decide +kernel)
theorem bk_X12_tellSaying_2 : sm_okL sm_P pm_X12_tellSaying pb_X12_tellSaying_2.2.2.1 pb_X12_tellSaying_2.2.2.2 pb_X12_tellSaying_2.1 = true := sm_okLf_of _ 64 [65, 68, 69, 72, 73, 74, 77, 78, 79, 80, 83] (by decide +kernel)
theorem bk_X12_tellSaying_3 : sm_okL sm_P pm_X12_tellSaying pb_X12_tellSaying_3.2.2.1 pb_X12_tellSaying_3.2.2.2 pb_X12_tellSaying_3.1 = true := sm_okLf_of _ 86 [87, 90, 91, 94, 95] (by decide +kernel)
theorem bk_X12_tellSaying_4 : sm_okL sm_P pm_X12_tellSaying pb_X12_tellSaying_4.2.2.1 pb_X12_tellSaying_4.2.2.2 pb_X12_tellSaying_4.1 = true := sm_okLf_of _ 98 [99] (by decide +kernel)
theorem bk_X12_tellSaying_5 : sm_okL sm_P pm_X12_tellSaying pb_X12_tellSaying_5.2.2.1 pb_X12_tellSaying_5.2.2.2 pb_X12_tellSaying_5.1 = true := sm_okLf_of _ 99 [100, 101, 102, 105, 106, 109] (by decide +kernel)
theorem bk_X12_tellSaying_6 : sm_okL sm_P pm_X12_tellSaying pb_X12_tellSaying_6.2.2.1 pb_X12_tellSaying_6.2.2.2 pb_X12_tellSaying_6.1 = true := sm_okLf_of _ 112 [113, 116, 117, 118, 119] (by decide +kernel)
theorem bk_X12_tellSaying_7 : sm_okL sm_P pm_X12_tellSaying pb_X12_tellSaying_7.2.2.1 pb_X12_tellSaying_7.2.2.2 pb_X12_tellSaying_7.1 = true := sm_okLf_of _ 122 [123, 126, 127, 128, 130] (by decide +kernel)
theorem bk_X12_tellSaying_8 : sm_okL sm_P pm_X12_tellSaying pb_X12_tellSaying_8.2.2.1 pb_X12_tellSaying_8.2.2.2 pb_X12_tellSaying_8.1 = true := sm_okLf_of _ 133 [134, 135, 136, 139] (by decide +kernel)
theorem bk_X12_tellSaying_9 : sm_okL sm_P pm_X12_tellSaying pb_X12_tellSaying_9.2.2.1 pb_X12_tellSaying_9.2.2.2 pb_X12_tellSaying_9.1 = true := sm_okLf_of _ 139 [140, 141, 144, 145, 148, 149, 150, 151, 152, 153] (by decide +kernel)
theorem bk_X12_tellSaying_10 : sm_okL sm_P pm_X12_tellSaying pb_X12_tellSaying_10.2.2.1 pb_X12_tellSaying_10.2.2.2 pb_X12_tellSaying_10.1 = true := sm_okLf_of _ 153 [154] (by decide +kernel)
theorem bk_X12_tellSaying_11 : sm_okL sm_P pm_X12_tellSaying pb_X12_tellSaying_11.2.2.1 pb_X12_tellSaying_11.2.2.2 pb_X12_tellSaying_11.1 = true := sm_okLf_of _ 157 [158, 161] (by decide +kernel)
theorem bk_X12_tellSaying_12 : sm_okL sm_P pm_X12_tellSaying pb_X12_tellSaying_12.2.2.1 pb_X12_tellSaying_12.2.2.2 pb_X12_tellSaying_12.1 = true := sm_okLf_of _ 164 [165, 166, 167, 168, 169, 172, 173, 174, 175, 178, 179, 182] (by decide +kernel)
theorem bk_X12_tellSaying_13 : sm_okL sm_P pm_X12_tellSaying pb_X12_tellSaying_13.2.2.1 pb_X12_tellSaying_13.2.2.2 pb_X12_tellSaying_13.1 = true := sm_okLf_of _ 185 [] (by decide +kernel)
theorem bk_X12_tellSaying_14 : sm_okL sm_P pm_X12_tellSaying pb_X12_tellSaying_14.2.2.1 pb_X12_tellSaying_14.2.2.2 pb_X12_tellSaying_14.1 = true := sm_okLf_of _ 186 [187, 190, 191, 192, 193, 194, 195, 196, 197, 199, 202, 203, 204] (by decide +kernel)
theorem bk_X12_tellSaying_15 : sm_okL sm_P pm_X12_tellSaying pb_X12_tellSaying_15.2.2.1 pb_X12_tellSaying_15.2.2.2 pb_X12_tellSaying_15.1 = true := sm_okLf_of _ 207 [208, 211, 212, 213, 214] (by decide +kernel)
theorem bk_X12_tellSaying_16 : sm_okL sm_P pm_X12_tellSaying pb_X12_tellSaying_16.2.2.1 pb_X12_tellSaying_16.2.2.2 pb_X12_tellSaying_16.1 = true := sm_okLf_of _ 217 [218, 219, 222] (by decide +kernel)
theorem bk_X12_tellSaying_17 : sm_okL sm_P pm_X12_tellSaying pb_X12_tellSaying_17.2.2.1 pb_X12_tellSaying_17.2.2.2 pb_X12_tellSaying_17.1 = true := sm_okLf_of _ 222 [223] (by decide +kernel)
theorem bk_X12_tellSaying_18 : sm_okL sm_P pm_X12_tellSaying pb_X12_tellSaying_18.2.2.1 pb_X12_tellSaying_18.2.2.2 pb_X12_tellSaying_18.1 = true := sm_okLf_of _ 226 [227, 230] (by decide +kernel)
theorem bk_X12_tellSaying_19 : sm_okL sm_P pm_X12_tellSaying pb_X12_tellSaying_19.2.2.1 pb_X12_tellSaying_19.2.2.2 pb_X12_tellSaying_19.1 = true := sm_okLf_of _ 233 [234, 235, 238, 239, 242] (by decide +kernel)
theorem bk_X12_tellSaying_20 : sm_okL sm_P pm_X12_tellSaying pb_X12_tellSaying_20.2.2.1 pb_X12_tellSaying_20.2.2.2 pb_X12_tellSaying_20.1 = true := sm_okLf_of _ 245 [] (by decide +kernel)
theorem bk_X12_tellSaying_21 : sm_okL sm_P pm_X12_tellSaying pb_X12_tellSaying_21.2.2.1 pb_X12_tellSaying_21.2.2.2 pb_X12_tellSaying_21.1 = true := sm_okLf_of _ 246 [247, 248, 249, 250, 253, 254, 257, 258, 261, 262, 265, 266, 269, 270, 271, 272, 273, 274] (by decide +kernel)
theorem om_X12_tellSaying : sm_okM sm_P pm_X12_tellSaying = true := sm_okMg_of (by decide +kernel) (List.forall_mem_cons.mpr ⟨bk_X12_tellSaying_0, List.forall_mem_cons.mpr ⟨bk_X12_tellSaying_1, List.forall_mem_cons.mpr ⟨bk_X12_tellSaying_2, List.forall_mem_cons.mpr ⟨bk_X12_tellSaying_3, List.forall_mem_cons.mpr ⟨bk_X12_tellSaying_4, List.forall_mem_cons.mpr ⟨bk_X12_tellSaying_5, List.forall_mem_cons.mpr ⟨bk_X12_tellSaying_6, List.forall_mem_cons.mpr ⟨bk_X12_tellSaying_7, List.forall_mem_cons.mpr ⟨bk_X12_tellSaying_8, List.forall_mem_cons.mpr ⟨bk_X12_tellSaying_9, List.forall_mem_cons.mpr ⟨bk_X12_tellSaying_10, List.forall_mem_cons.mpr ⟨bk_X12_tellSaying_11, List.forall_mem_cons.mpr ⟨bk_X12_tellSaying_12, List.forall_mem_cons.mpr ⟨bk_X12_tellSaying_13, List.forall_mem_cons.mpr ⟨bk_X12_tellSaying_14, List.forall_mem_cons.mpr ⟨bk_X12_tellSaying_15, List.forall_mem_cons.mpr ⟨bk_X12_tellSaying_16, List.forall_mem_cons.mpr ⟨bk_X12_tellSaying_17, List.forall_mem_cons.mpr ⟨bk_X12_tellSaying_18, List.forall_mem_cons.mpr ⟨bk_X12_tellSaying_19, List.forall_mem_cons.mpr ⟨bk_X12_tellSaying_20, List.forall_mem_cons.mpr ⟨bk_X12_tellSaying_21, fun _ h => absurd h List.not_mem_nil⟩⟩⟩⟩⟩⟩⟩⟩⟩⟩⟩⟩⟩⟩⟩⟩⟩⟩⟩⟩⟩⟩)
theorem ok_X12_tellSaying : sm_OK sm_P pm_X12_tellSaying := ⟨om_X12_tellSaying, fun _ => ⟨sm_inw 6 168 rfl rfl, sm_inw 0 14 rfl rfl⟩⟩
theorem om_X12_tellSpan : sm_okM sm_P pm_X12_tellSpan = true := sm_okMf_of [[0, 1, 2, 5, 6, 7, 9, 12, 13, 14], [17, 18, 21, 22, 25, 26, 27, 28], [31, 32, 34, 37, 38, 41, 42, 43, 46], [49, 50], [53, 54, 55, 58], [58, 59], [59, 60, 63, 64, 65, 66, 67, 70, 71, 72, 73], [76, 77], [80, 81], [81, 84, 85, 86, 89, 90, 91, 92], [95, 96], [99, 100], [100, 103, 104]] (by decide +kernel)
theorem ok_X12_tellSpan : sm_OK sm_P pm_X12_tellSpan := ⟨om_X12_tellSpan, fun _ => ⟨sm_inw 6 176 rfl rfl, sm_inw 0 14 rfl rfl⟩⟩
theorem om_X12_tellTime : sm_okM sm_P pm_X12_tellTime = true := sm_okMf_of [[0, 1, 4, 5, 8, 9, 11, 12, 15, 16, 17, 20, 21, 24, 25, 26, 27, 28, 29, 30, 32, 33, 35, 38], [41, 42, 45, 46, 47, 50, 51, 52, 54, 57, 58, 59, 62, 64], [64, 65, 66, 69, 70, 73], [76], [77, 78, 81, 82, 83, 84, 85, 88, 89, 91, 92, 93, 94, 95, 96, 99, 100, 103, 104, 107, 108, 111, 112, 115, 116, 117, 118, 119, 120]] (by decide +kernel)
theorem ok_X12_tellTime : sm_OK sm_P pm_X12_tellTime := ⟨om_X12_tellTime, fun _ => ⟨sm_inw 6 164 rfl rfl, sm_inw 0 14 rfl rfl⟩⟩
theorem om_X12_tellWay : sm_okM sm_P pm_X12_tellWay = true := sm_okMf_of [[0, 1, 4, 5, 6, 9, 10, 11, 14, 15, 16, 17, 20, 21, 22, 25], [28, 29, 30], [33, 34, 35], [38, 39, 40, 41, 44], [44, 45, 46, 49, 51, 52, 53, 56, 57, 60], [63], [64, 65, 68, 69, 72, 73, 74, 75, 76, 77, 78, 79], [82, 83, 84], [87, 88, 89], [92], [93, 95, 96, 99, 100, 102, 103, 104, 105, 106, 107, 109, 110, 113, 115, 116, 117], [120, 121, 124, 126, 127, 129], [132], [133, 134, 137, 139, 141, 142, 143, 146, 148, 149, 152, 153, 155, 156, 157, 158, 159, 160, 162, 163]] (by decide +kernel)
theorem ok_X12_tellWay : sm_OK sm_P pm_X12_tellWay := ⟨om_X12_tellWay, fun _ => ⟨sm_inw 6 152 rfl rfl, sm_inw 0 14 rfl rfl⟩⟩
theorem om_X12_token : sm_okM sm_P pm_X12_token = true := sm_okMf_of [[0, 1, 4, 5, 8, 9, 10, 11, 14, 15, 18, 19, 20, 21, 24, 25, 28, 29, 30, 31, 34, 35, 38, 40, 41, 42, 43, 46, 47, 48, 51]] (by decide +kernel)
theorem ok_X12_token : sm_OK sm_P pm_X12_token := ⟨om_X12_token, fun _ => ⟨sm_inw 6 103 rfl rfl, sm_inw 0 14 rfl rfl⟩⟩
theorem om_X12_toldItem : sm_okM sm_P pm_X12_toldItem = true := sm_okMf_of [[0, 1, 3], [6, 7], [10, 11, 13, 14], [14]] (by decide +kernel)
theorem ok_X12_toldItem : sm_OK sm_P pm_X12_toldItem := ⟨om_X12_toldItem, fun _ => ⟨sm_inw 7 187 rfl rfl, sm_inw 0 14 rfl rfl⟩⟩
theorem om_X12_tried : sm_okM sm_P pm_X12_tried = true := sm_okMf_of [[0, 1], [4, 5, 6, 7, 10], [13, 14], [15, 16, 19, 20, 21, 24], [27, 28, 31], [34, 35], [36, 37], [40, 41, 44, 45, 46, 49], [52, 53, 54], [57, 58, 61, 62, 63], [66, 67, 70, 71, 72], [75, 76], [79, 80], [80]] (by decide +kernel)
theorem ok_X12_tried : sm_OK sm_P pm_X12_tried := ⟨om_X12_tried, fun _ => ⟨sm_inw 8 19 rfl rfl, sm_inw 0 14 rfl rfl⟩⟩
theorem om_X12_trustIn : sm_okM sm_P pm_X12_trustIn = true := sm_okMf_of [[0, 1, 2, 3, 4], [4, 5, 7], [10, 11, 12, 13, 14, 15, 16], [19, 20, 21, 24, 26, 27, 30, 31, 32, 33, 34, 35, 36], [36, 39], [42, 43]] (by decide +kernel)
theorem ok_X12_trustIn : sm_OK sm_P pm_X12_trustIn := ⟨om_X12_trustIn, fun _ => ⟨sm_inw 7 154 rfl rfl, sm_inw 0 14 rfl rfl⟩⟩
theorem om_X12_undoubted : sm_okM sm_P pm_X12_undoubted = true := sm_okMf_of [[0, 1, 2, 3, 4], [4, 5, 6, 9, 10, 13, 14], [17, 18, 21, 22, 23], [26, 27, 28, 29, 30, 31, 32], [32, 35], [38, 39]] (by decide +kernel)
theorem ok_X12_undoubted : sm_OK sm_P pm_X12_undoubted := ⟨om_X12_undoubted, fun _ => ⟨sm_inw 7 3 rfl rfl, sm_inw 0 14 rfl rfl⟩⟩
theorem om_X12_walk : sm_okM sm_P pm_X12_walk = true := sm_okMf_of [[0, 1, 2, 3, 6, 7, 10, 11, 12, 13, 16], [19, 20, 21, 22, 25, 26, 29, 30, 31, 32, 35], [38, 39], [40, 41, 44, 46, 47, 48, 49, 50, 51, 52, 53, 54], [57, 59], [62, 63], [63]] (by decide +kernel)
theorem ok_X12_walk : sm_OK sm_P pm_X12_walk := ⟨om_X12_walk, fun _ => ⟨sm_inw 6 227 rfl rfl, sm_inw 0 14 rfl rfl⟩⟩
theorem om_X12_walks : sm_okM sm_P pm_X12_walks = true := sm_okMf_of [[0, 1, 2], [2, 3, 5], [8, 9, 12, 13, 14, 17, 19, 20, 23, 24, 25, 26, 27, 28, 31], [34, 35, 36], [36, 37, 39], [42, 43, 44], [44, 45, 47], [50, 51, 54, 56, 57, 59, 60, 61, 62, 63, 64, 65, 66, 69, 71, 72, 73, 74, 76, 77, 78, 79, 81, 82, 83], [86, 88, 89], [92, 93, 96, 97, 98, 99], [102, 103, 105, 106, 107, 110, 111, 112], [115, 116, 119, 120, 121, 123, 124, 125], [125, 128], [131, 134], [137]] (by decide +kernel)
theorem ok_X12_walks : sm_OK sm_P pm_X12_walks := ⟨om_X12_walks, fun _ => ⟨sm_inw 6 188 rfl rfl, sm_inw 0 14 rfl rfl⟩⟩
theorem om_X12_ways : sm_okM sm_P pm_X12_ways = true := sm_okMf_of [[0, 1, 4, 5, 8], [11, 13], [16, 17, 20], [20]] (by decide +kernel)
theorem ok_X12_ways : sm_OK sm_P pm_X12_ways := ⟨om_X12_ways, fun _ => ⟨sm_inw 6 235 rfl rfl, sm_inw 0 14 rfl rfl⟩⟩
theorem om_X12_word : sm_okM sm_P pm_X12_word = true := sm_okMf_of [[0, 1, 2, 5, 6, 9, 10, 13, 14, 17, 19, 22, 24, 27, 29, 32]] (by decide +kernel)
theorem ok_X12_word : sm_OK sm_P pm_X12_word := ⟨om_X12_word, fun _ => ⟨sm_inw 5 21 rfl rfl, sm_inw 0 14 rfl rfl⟩⟩
theorem om_X12_wrong : sm_okM sm_P pm_X12_wrong = true := sm_okMf_of [[0, 1, 4, 5, 6, 7, 8, 11], [14, 15, 18], [21, 22, 23, 26], [29, 30, 31, 34], [37, 38, 39, 42], [45], [46, 47, 48, 51, 52, 53, 56]] (by decide +kernel)
theorem ok_X12_wrong : sm_OK sm_P pm_X12_wrong := ⟨om_X12_wrong, fun _ => ⟨sm_inw 6 144 rfl rfl, sm_inw 0 14 rfl rfl⟩⟩
theorem om_X1_addTry : sm_okM sm_P pm_X1_addTry = true := sm_okMf_of [[0, 1], [4, 5, 8], [11, 12, 15, 16, 17, 18, 19, 20, 21, 22, 23, 25], [28, 29], [32, 33], [33, 34, 35], [35]] (by decide +kernel)
theorem ok_X1_addTry : sm_OK sm_P pm_X1_addTry := ⟨om_X1_addTry, fun _ => ⟨sm_inw 3 133 rfl rfl, sm_inw 0 9 rfl rfl⟩⟩
theorem om_X1_addWay : sm_okM sm_P pm_X1_addWay = true := sm_okMf_of [[0, 1], [4, 5, 8], [11], [12, 13, 16, 17, 18, 19, 20, 23, 24, 25, 26, 27, 29], [29, 31, 33], [36, 37, 39, 40, 42], [45, 46, 49, 50, 51, 52, 53, 55, 56, 57, 58, 60, 61, 62, 63, 64, 65], [68, 69, 72, 73, 74, 75, 76, 78, 79, 80, 81, 83, 84, 86, 87, 88, 89, 90], [90, 93], [96]] (by decide +kernel)
theorem ok_X1_addWay : sm_OK sm_P pm_X1_addWay := ⟨om_X1_addWay, fun _ => ⟨sm_inw 3 89 rfl rfl, sm_inw 0 9 rfl rfl⟩⟩
theorem om_X1_choiceOf : sm_okM sm_P pm_X1_choiceOf = true := sm_okMf_of [[0, 1], [4, 5, 8], [11, 12], [13, 14, 16], [19, 20, 23, 24, 25, 26, 27, 28, 29, 30, 31], [32, 33, 36, 37, 38, 39, 41, 42, 43, 44, 45, 46]] (by decide +kernel)
theorem ok_X1_choiceOf : sm_OK sm_P pm_X1_choiceOf := ⟨om_X1_choiceOf, fun _ => ⟨sm_inw 3 149 rfl rfl, sm_inw 0 9 rfl rfl⟩⟩
theorem om_X1_init : sm_okM sm_P pm_X1_init = true := sm_okMf_of [[0, 1, 4, 5, 8, 10, 13, 14, 17, 19, 22, 23, 26, 28, 31]] (by decide +kernel)
theorem ok_X1_init : sm_OK sm_P pm_X1_init := ⟨om_X1_init, fun _ => ⟨sm_inw 1 64 rfl rfl, sm_inw 0 9 rfl rfl⟩⟩
theorem om_X1_tryOf : sm_okM sm_P pm_X1_tryOf = true := sm_okMf_of [[0, 1], [28, 29, 32, 33, 34, 35, 36], [37, 38, 41, 42, 43, 44, 45, 47, 48], [49, 50, 53, 54, 55, 56, 57], [58, 59]] (by decide +kernel)
theorem ok_X1_tryOf : sm_OK sm_P pm_X1_tryOf := ⟨om_X1_tryOf, fun _ => ⟨sm_inw 4 189 rfl rfl, sm_inw 0 9 rfl rfl⟩⟩
theorem om_X2_addItem : sm_okM sm_P pm_X2_addItem = true := sm_okMf_of [[0, 1, 4, 5, 8, 9], [12, 13, 16, 17, 20, 21, 22, 23, 24, 27, 28, 29, 32], [32]] (by decide +kernel)
theorem ok_X2_addItem : sm_OK sm_P pm_X2_addItem := ⟨om_X2_addItem, fun _ => ⟨sm_inw 3 77 rfl rfl, sm_inw 0 10 rfl rfl⟩⟩
theorem om_X2_begin : sm_okM sm_P pm_X2_begin = true := sm_okMf_of [[0, 1, 2, 5, 6, 7, 10, 11, 12, 15, 16, 17, 20, 21, 23], [26, 27], [30, 31], [31, 34, 35, 37, 40, 41, 42, 45, 46, 48], [48, 50, 51, 54, 57], [60, 61, 63, 64, 65, 66], [69, 70, 72, 75], [75, 78], [81, 82, 84], [84, 86, 87, 90, 93], [96, 97, 99, 101, 102, 105, 108], [111]] (by decide +kernel)
theorem ok_X2_begin : sm_OK sm_P pm_X2_begin := ⟨om_X2_begin, fun _ => ⟨sm_inw 3 45 rfl rfl, sm_inw 0 10 rfl rfl⟩⟩
theorem om_X2_bind : sm_okM sm_P pm_X2_bind = true := sm_okMf_of [[0, 1, 4, 5, 6, 7, 8, 9, 10, 11, 13, 16], [19, 20, 23, 24, 25, 26, 27, 28, 29, 30, 32, 33, 36], [39, 40], [43, 44], [44]] (by decide +kernel)
theorem ok_X2_bind : sm_OK sm_P pm_X2_bind := ⟨om_X2_bind, fun _ => ⟨sm_inw 3 65 rfl rfl, sm_inw 0 10 rfl rfl⟩⟩
theorem om_X2_bring : sm_okM sm_P pm_X2_bring = true := sm_okMf_of [[0, 1, 2], [2, 3, 4, 7], [10, 11, 12, 13, 16, 17, 18, 21, 23, 24, 25, 28], [31, 32, 35, 36, 37, 39], [42], [45, 46, 47, 50, 51, 54, 55, 57, 58, 59, 60, 61, 64, 65, 66, 68, 71], [74, 75], [76, 77, 78, 79, 80, 83], [83, 86], [89, 90]] (by decide +kernel)
theorem ok_X2_bring : sm_OK sm_P pm_X2_bring := ⟨om_X2_bring, fun _ => ⟨sm_inw 3 145 rfl rfl, sm_inw 0 10 rfl rfl⟩⟩
theorem om_X2_choicesOf : sm_okM sm_P pm_X2_choicesOf = true := sm_okMf_of [[0, 1, 3], [6, 7, 10, 13, 14, 15], [16, 17, 18, 21], [24, 25], [28, 29], [29]] (by decide +kernel)
theorem ok_X2_choicesOf : sm_OK sm_P pm_X2_choicesOf := ⟨om_X2_choicesOf, fun _ => ⟨sm_inw 3 107 rfl rfl, sm_inw 0 10 rfl rfl⟩⟩
theorem om_X2_distance : sm_okM sm_P pm_X2_distance = true := sm_okMf_of [[0, 2], [5, 6, 9, 10, 11, 12, 13, 14, 15, 16, 19], [22, 23, 26, 27, 28, 29, 30, 31, 32, 33, 36, 37], [37]] (by decide +kernel)
theorem ok_X2_distance : sm_OK sm_P pm_X2_distance := ⟨om_X2_distance, fun _ => ⟨sm_inw 3 174 rfl rfl, sm_inw 0 10 rfl rfl⟩⟩
theorem om_X2_goThrough : sm_okM sm_P pm_X2_goThrough = true := sm_okMf_of [[0, 1, 2, 5, 6, 7, 10, 11, 12, 15, 16, 17, 20, 21, 24], [27], [28, 29, 32], [35, 36, 37, 40], [41, 42, 43, 44, 47, 48, 49, 50, 51, 53], [53, 55, 58], [61, 62], [65, 66, 69, 70, 71, 72, 73, 74, 75, 76, 79, 80, 81, 82, 83, 86, 87, 88, 91], [94, 97], [100, 101, 102, 105, 106, 107, 110, 111, 114, 117], [120, 121, 122, 125], [126, 127, 128, 129, 132, 133, 134, 135, 138, 139, 140, 143, 145, 146], [149, 150, 151, 154, 155, 156, 157, 160, 161, 162, 163, 166, 167, 168, 170, 173], [173, 175], [178, 179, 180, 183, 184, 185], [188, 191, 192, 195, 196, 197, 198], [201, 203], [206, 207, 208, 211, 212], [215], [216, 219], [222]] (by decide +kernel)
theorem ok_X2_goThrough : sm_OK sm_P pm_X2_goThrough := ⟨om_X2_goThrough, fun _ => ⟨sm_inw 3 81 rfl rfl, sm_inw 0 10 rfl rfl⟩⟩
theorem om_X2_host : sm_okM sm_P pm_X2_host = true := sm_okMf_of [[0, 1, 2, 5, 6, 9, 12, 13, 14, 17, 18, 19, 22], [25, 26, 27, 28, 31, 34, 35, 36, 38, 41], [44, 45], [48, 49], [49, 52, 53, 55], [55, 57, 58, 61, 64], [67, 68, 71, 74, 76, 77, 78], [81, 82, 85, 88, 90, 91, 92], [95, 96, 99, 101, 102, 105], [105, 108], [111]] (by decide +kernel)
theorem ok_X2_host : sm_OK sm_P pm_X2_host := ⟨om_X2_host, fun _ => ⟨sm_inw 4 89 rfl rfl, sm_inw 0 10 rfl rfl⟩⟩
theorem om_X2_init_6925 : sm_okM sm_P pm_X2_init_6925 = true := sm_okMf_of [[0, 1, 4, 5, 6, 9, 10, 11, 14, 15, 16, 19, 20, 21, 24, 25, 26, 29, 30, 31, 34, 35, 36, 39, 40, 41, 44, 45, 46, 49, 50, 51, 54, 55, 56, 59, 60, 61, 64, 65, 68], [68, 69, 70, 71, 72, 73, 74, 75, 78, 81, 82, 83, 86, 87, 88, 90, 93, 94, 95, 97, 100, 101, 103, 106, 107, 109, 112]] (by decide +kernel)
theorem ok_X2_init_6925 : sm_OK sm_P pm_X2_init_6925 := ⟨om_X2_init_6925, fun _ => ⟨sm_inw 1 82 rfl rfl, sm_inw 0 10 rfl rfl⟩⟩
theorem om_X2_init_7540 : sm_okM sm_P pm_X2_init_7540 = true := sm_okMf_of [[0, 1, 4, 5, 6, 9, 10, 11, 14, 15, 16, 19, 20, 21, 24, 25, 26, 29, 30, 31, 34, 35, 36, 39, 40, 41, 44, 45, 46, 49, 50, 51, 54, 55, 56, 59, 60, 61, 64, 65, 68], [68, 69, 70, 71, 72, 73, 74, 75, 78, 81, 82, 83, 86, 87, 88, 90, 93, 94, 95, 97, 100, 101, 103, 106, 107, 109, 112]] (by decide +kernel)
theorem ok_X2_init_7540 : sm_OK sm_P pm_X2_init_7540 := ⟨om_X2_init_7540, fun _ => ⟨sm_inw 1 82 rfl rfl, sm_inw 0 10 rfl rfl⟩⟩
theorem om_X2_init_9676 : sm_okM sm_P pm_X2_init_9676 = true := sm_okMf_of [[0, 1, 4, 5, 6, 9, 10, 11, 14, 15, 16, 19, 20, 21, 24, 25, 26, 29, 30, 31, 34, 35, 36, 39, 40, 41, 44, 45, 46, 49, 50, 51, 54, 55, 56, 59, 60, 61, 64, 65, 68], [68, 69, 70, 71, 72, 73, 74, 75, 78, 81, 82, 83, 86, 87, 88, 90, 93, 94, 95, 97, 100, 101, 103, 106, 107, 109, 112]] (by decide +kernel)
theorem ok_X2_init_9676 : sm_OK sm_P pm_X2_init_9676 := ⟨om_X2_init_9676, fun _ => ⟨sm_inw 1 82 rfl rfl, sm_inw 0 10 rfl rfl⟩⟩
theorem om_X2_layBase : sm_okM sm_P pm_X2_layBase = true := sm_okMf_of [[0, 1, 2, 5, 6, 9, 10, 13, 16, 17, 18, 19, 20, 23, 24, 25, 28, 29, 32, 35, 36, 37, 38], [38, 39, 40, 43, 46], [49, 50, 53, 54, 55, 56], [59], [62, 63, 66], [69, 70, 73, 74, 75, 76, 77, 80, 81, 82, 83, 84, 85, 88, 89, 90, 91, 94, 95, 96, 99, 100, 101, 104], [107, 108, 109, 110, 111, 112, 115, 118], [121, 122], [125, 126], [126, 129], [132, 133, 134, 137], [140, 141, 142, 143, 144, 147, 148, 149, 150, 153, 154, 155, 156, 159, 160, 161, 164], [167, 168], [171, 172], [172, 175], [175, 178], [181, 182, 185, 188, 189, 190, 192], [192, 194, 195, 198, 201], [204, 205, 206, 209], [212, 213, 214, 215, 218, 220, 221, 222, 225, 227, 228, 229, 232, 234, 235, 236, 239, 241, 242, 245], [248, 249], [252, 253], [253, 256, 259], [262]] (by decide +kernel)
theorem ok_X2_layBase : sm_OK sm_P pm_X2_layBase := ⟨om_X2_layBase, fun _ => ⟨sm_inw 3 49 rfl rfl, sm_inw 0 10 rfl rfl⟩⟩
theorem om_X2_minute : sm_okM sm_P pm_X2_minute = true := sm_okMf_of [[0, 1, 2, 3, 4, 5, 8]] (by decide +kernel)
theorem ok_X2_minute : sm_OK sm_P pm_X2_minute := ⟨om_X2_minute, fun _ => ⟨sm_inw 3 170 rfl rfl, sm_inw 0 10 rfl rfl⟩⟩
theorem om_X2_minuteWith : sm_okM sm_P pm_X2_minuteWith = true := sm_okMf_of [[0, 1, 2, 3, 5, 8, 10, 11, 13], [13, 15, 16, 19, 22], [25, 26, 28, 29, 30], [33, 34, 36, 37, 38, 39, 40, 42, 44, 47, 48, 50, 52], [55, 57, 59, 62], [65, 67, 69, 72], [72, 74], [74, 77], [80, 82]] (by decide +kernel)
theorem ok_X2_minuteWith : sm_OK sm_P pm_X2_minuteWith := ⟨om_X2_minuteWith, fun _ => ⟨sm_inw 4 201 rfl rfl, sm_inw 0 10 rfl rfl⟩⟩
theorem om_X2_noteWay : sm_okM sm_P pm_X2_noteWay = true := sm_okMf_of [[0, 1], [4, 5, 6, 9, 10, 13, 14, 17, 18, 21, 24], [24, 25, 28], [31, 32, 33, 36, 37, 40, 41, 44, 45, 46, 49, 52, 53, 54, 57, 58, 61, 64, 65, 66, 69, 70, 73, 74, 77, 78, 81, 84, 85, 86, 87, 90, 93, 96], [96, 97, 98, 101, 102, 103, 106]] (by decide +kernel)
theorem ok_X2_noteWay : sm_OK sm_P pm_X2_noteWay := ⟨om_X2_noteWay, fun _ => ⟨sm_inw 3 85 rfl rfl, sm_inw 0 10 rfl rfl⟩⟩
theorem om_X2_push : sm_okM sm_P pm_X2_push = true := sm_okMf_of [[0, 1, 4, 5, 8, 9, 11], [14, 15, 16, 17, 18, 19, 20, 23], [24, 25, 28, 31, 33, 34, 37, 38, 39, 40, 41, 42, 45, 46, 48, 49, 52, 53, 54, 57, 59, 61, 62, 65, 66, 67, 70, 71, 73, 75, 77], [77, 79, 81], [84, 85, 86, 87, 88, 90, 93, 95, 96, 98, 101, 103, 104, 106, 109, 111, 112, 114, 115, 117, 120, 122, 123, 125, 126, 129], [132, 133], [134, 137], [140, 141]] (by decide +kernel)
theorem ok_X2_push : sm_OK sm_P pm_X2_push := ⟨om_X2_push, fun _ => ⟨sm_inw 3 116 rfl rfl, sm_inw 0 10 rfl rfl⟩⟩
theorem om_X2_pushMove : sm_okM sm_P pm_X2_pushMove = true := sm_okMf_of [[0, 1, 2, 5, 7, 8, 11, 12, 14, 15, 18, 21, 23, 24, 27], [30, 31, 34, 37, 38, 40, 41, 42, 44, 45, 48, 51, 52, 54, 55, 56, 58], [58, 59], [62, 63, 66, 67, 69, 70, 71, 73, 74, 75, 77, 78, 81], [82, 83, 86, 87, 89, 90, 91, 93, 94, 95, 97, 98, 101]] (by decide +kernel)
theorem ok_X2_pushMove : sm_OK sm_P pm_X2_pushMove := ⟨om_X2_pushMove, fun _ => ⟨sm_inw 3 127 rfl rfl, sm_inw 0 10 rfl rfl⟩⟩
theorem om_X2_takes : sm_okM sm_P pm_X2_takes = true := sm_okMf_of [[0, 1, 2], [2, 3, 4, 7, 10], [13, 14, 15, 16, 17], [20], [23, 24, 25, 26, 27, 28, 31, 32, 33, 34], [37, 38, 39, 40, 41, 42, 45, 46, 47, 48], [51, 52], [53, 56], [59, 60]] (by decide +kernel)
theorem ok_X2_takes : sm_OK sm_P pm_X2_takes := ⟨om_X2_takes, fun _ => ⟨sm_inw 4 197 rfl rfl, sm_inw 0 10 rfl rfl⟩⟩
theorem om_X2_walkOf : sm_okM sm_P pm_X2_walkOf = true := sm_okMf_of [[0, 1, 4], [7, 8, 11, 12, 15, 18, 19, 22, 23, 24, 25, 28, 31], [32, 33, 36, 39, 40, 42, 43, 44]] (by decide +kernel)
theorem ok_X2_walkOf : sm_OK sm_P pm_X2_walkOf := ⟨om_X2_walkOf, fun _ => ⟨sm_inw 3 111 rfl rfl, sm_inw 0 10 rfl rfl⟩⟩
theorem om_X2_widen : sm_okM sm_P pm_X2_widen = true := sm_okMf_of [[0, 1, 2, 5, 6, 7, 10]] (by decide +kernel)
theorem ok_X2_widen : sm_OK sm_P pm_X2_widen := ⟨om_X2_widen, fun _ => ⟨sm_inw 4 227 rfl rfl, sm_inw 0 10 rfl rfl⟩⟩
theorem om_X3_clear : sm_okM sm_P pm_X3_clear = true := sm_okMf_of [[0, 1, 4, 5, 8, 9, 10, 13]] (by decide +kernel)
theorem ok_X3_clear : sm_OK sm_P pm_X3_clear := ⟨om_X3_clear, fun _ => ⟨sm_inw 2 120 rfl rfl, sm_inw 0 4 rfl rfl⟩⟩
theorem om_X3_faultOf : sm_okM sm_P pm_X3_faultOf = true := sm_okMf_of [[0, 1, 3], [6, 7, 9], [12, 13], [16, 17], [17, 19, 20, 21, 24, 25], [28, 30], [33, 34, 37, 39], [42, 43], [44, 45, 47], [50, 51], [52, 53, 56], [59, 60, 61, 62, 65], [68, 69], [72, 73], [73]] (by decide +kernel)
theorem ok_X3_faultOf : sm_OK sm_P pm_X3_faultOf := ⟨om_X3_faultOf, fun _ => ⟨sm_inw 2 125 rfl rfl, sm_inw 0 4 rfl rfl⟩⟩
theorem om_X3_follow : sm_okM sm_P pm_X3_follow = true := sm_okMf_of [[0, 1, 2], [2, 3, 4, 5, 8, 9], [12, 15, 16, 17, 18], [21, 24, 25, 26, 27, 28, 29], [32, 35, 36, 37, 38, 39], [40, 43], [46, 47]] (by decide +kernel)
theorem ok_X3_follow : sm_OK sm_P pm_X3_follow := ⟨om_X3_follow, fun _ => ⟨sm_inw 2 128 rfl rfl, sm_inw 0 4 rfl rfl⟩⟩
theorem om_X3_hasRoom : sm_okM sm_P pm_X3_hasRoom = true := sm_okMf_of [[0, 1], [4, 5, 6, 9, 10], [13, 14, 16], [19, 21], [24, 25], [25, 26, 27, 28, 31, 32, 33, 36, 37, 38, 41, 42, 45, 46, 47, 48, 49, 50, 51, 52, 55, 56, 57, 60, 61, 62], [65, 66], [69, 70], [70], [71, 72, 74], [77, 78, 79, 82, 83, 84, 87, 88, 89, 92], [95, 96, 98], [101, 102, 103, 106, 107, 108, 111], [111, 112, 115, 116], [119, 120, 123, 124], [127, 128], [131, 132], [132]] (by decide +kernel)
theorem ok_X3_hasRoom : sm_OK sm_P pm_X3_hasRoom := ⟨om_X3_hasRoom, fun _ => ⟨sm_inw 2 134 rfl rfl, sm_inw 0 4 rfl rfl⟩⟩
theorem om_X3_init : sm_okM sm_P pm_X3_init = true := sm_okMf_of [[0, 1, 4, 5, 7, 9, 12, 13, 14, 17, 18, 19, 22, 23, 24, 27]] (by decide +kernel)
theorem ok_X3_init : sm_OK sm_P pm_X3_init := ⟨om_X3_init, fun _ => ⟨sm_inw 0 62 rfl rfl, sm_inw 0 4 rfl rfl⟩⟩
theorem om_X4_clear : sm_okM sm_P pm_X4_clear = true := sm_okMf_of [[0, 1, 2, 5, 6, 7, 10, 11, 14, 15, 18, 19, 22, 23, 26]] (by decide +kernel)
theorem ok_X4_clear : sm_OK sm_P pm_X4_clear := ⟨om_X4_clear, fun _ => ⟨sm_inw 1 33 rfl rfl, sm_inw 0 8 rfl rfl⟩⟩
theorem om_X4_init : sm_okM sm_P pm_X4_init = true := sm_okMf_of [[0, 1, 4, 5, 7, 9, 12, 13, 15, 17, 20, 21, 24, 25, 27, 30, 33, 34, 37]] (by decide +kernel)
theorem ok_X4_init : sm_OK sm_P pm_X4_init := ⟨om_X4_init, fun _ => ⟨sm_inw 1 26 rfl rfl, sm_inw 0 8 rfl rfl⟩⟩
theorem om_X5_blank : sm_okM sm_P pm_X5_blank = true := sm_okMf_of [[0, 1, 2], [5, 6, 7, 10, 11], [14], [15, 16, 17, 20, 21, 22, 23, 24, 27, 28, 29], [29, 30, 31, 34], [37, 38, 41, 42, 43, 44, 45, 48, 49, 50, 51, 52, 55, 56, 57, 58, 59, 60], [60, 61, 62, 65], [68, 69, 72, 73, 74, 77, 78, 79, 80, 81], [84, 85, 86], [89, 90], [93, 96], [96, 97, 100], [103, 106], [109]] (by decide +kernel)
theorem ok_X5_blank : sm_OK sm_P pm_X5_blank := ⟨om_X5_blank, fun _ => ⟨sm_inw 3 53 rfl rfl, sm_inw 0 11 rfl rfl⟩⟩
end
section
/-! the tables are in order -/
theorem om_X5_copyUp : sm_okM sm_P pm_X5_copyUp = true := sm_okMf_of [[0, 1, 2, 5], [8, 9, 10, 11, 12, 15], [18, 19, 22, 23, 24, 27, 28, 29, 32, 33, 34, 35, 36, 39, 40, 41, 44, 47], [47]] (by decide +kernel)
theorem ok_X5_copyUp : sm_OK sm_P pm_X5_copyUp := ⟨om_X5_copyUp, fun _ => ⟨sm_inw 3 120 rfl rfl, sm_inw 0 11 rfl rfl⟩⟩
theorem om_X5_hasLevel : sm_okM sm_P pm_X5_hasLevel = true := sm_okMf_of [[0, 1], [4, 5, 6, 7, 8, 11, 12, 13, 16, 17], [20, 21], [24, 25], [25]] (by decide +kernel)
theorem ok_X5_hasLevel : sm_OK sm_P pm_X5_hasLevel := ⟨om_X5_hasLevel, fun _ => ⟨sm_inw 3 97 rfl rfl, sm_inw 0 11 rfl rfl⟩⟩
theorem om_X5_hasNode : sm_okM sm_P pm_X5_hasNode = true := sm_okMf_of [[0, 1], [4, 5, 6, 9], [12, 13], [16, 17], [17]] (by decide +kernel)
theorem ok_X5_hasNode : sm_OK sm_P pm_X5_hasNode := ⟨om_X5_hasNode, fun _ => ⟨sm_inw 3 61 rfl rfl, sm_inw 0 11 rfl rfl⟩⟩
theorem om_X5_init_6809 : sm_okM sm_P pm_X5_init_6809 = true := sm_okMf_of [[0, 1, 4, 5, 6, 9, 10, 11, 14, 15, 16, 17, 18, 19, 20, 22, 25, 26, 27, 29, 32, 33, 34, 36, 39, 40, 41, 43, 46]] (by decide +kernel)
theorem ok_X5_init_6809 : sm_OK sm_P pm_X5_init_6809 := ⟨om_X5_init_6809, fun _ => ⟨sm_inw 1 88 rfl rfl, sm_inw 0 11 rfl rfl⟩⟩
theorem om_X5_init_7414 : sm_okM sm_P pm_X5_init_7414 = true := sm_okMf_of [[0, 1, 4, 5, 6, 9, 10, 11, 14, 15, 16, 17, 18, 19, 20, 22, 25, 26, 27, 29, 32, 33, 34, 36, 39, 40, 41, 43, 46]] (by decide +kernel)
theorem ok_X5_init_7414 : sm_OK sm_P pm_X5_init_7414 := ⟨om_X5_init_7414, fun _ => ⟨sm_inw 1 88 rfl rfl, sm_inw 0 11 rfl rfl⟩⟩
theorem om_X5_init_9540 : sm_okM sm_P pm_X5_init_9540 = true := sm_okMf_of [[0, 1, 4, 5, 6, 9, 10, 11, 14, 15, 16, 17, 18, 19, 20, 22, 25, 26, 27, 29, 32, 33, 34, 36, 39, 40, 41, 43, 46]] (by decide +kernel)
theorem ok_X5_init_9540 : sm_OK sm_P pm_X5_init_9540 := ⟨om_X5_init_9540, fun _ => ⟨sm_inw 1 88 rfl rfl, sm_inw 0 11 rfl rfl⟩⟩
theorem om_X5_loose : sm_okM sm_P pm_X5_loose = true := sm_okMf_of [[0, 1, 2, 5], [8, 9, 10, 13], [16, 17, 20, 21, 22, 23, 24, 27, 28, 29, 30, 31, 34, 35, 37, 38], [38]] (by decide +kernel)
theorem ok_X5_loose : sm_OK sm_P pm_X5_loose := ⟨om_X5_loose, fun _ => ⟨sm_inw 3 57 rfl rfl, sm_inw 0 11 rfl rfl⟩⟩
theorem om_X5_reach : sm_okM sm_P pm_X5_reach = true := sm_okMf_of [[0, 1, 2, 5], [8, 9, 10, 13], [16, 17, 18, 21], [24, 25], [26, 27, 30, 31, 32, 35, 36, 37, 38, 41, 42, 43, 44, 45, 46]] (by decide +kernel)
theorem ok_X5_reach : sm_OK sm_P pm_X5_reach := ⟨om_X5_reach, fun _ => ⟨sm_inw 3 93 rfl rfl, sm_inw 0 11 rfl rfl⟩⟩
theorem om_X5_tighten : sm_okM sm_P pm_X5_tighten = true := sm_okMf_of [[0, 1], [4, 5, 6, 7, 8, 11, 12, 13, 16, 17], [20, 21], [24, 25], [25, 27, 29], [32, 33], [36, 37, 38, 41], [44, 45], [48, 49, 50, 53], [56, 57], [58, 59, 60], [63, 65], [68, 69], [72, 73], [73], [74, 76, 77, 80, 81, 82, 83, 84, 87, 88, 89, 90, 92, 93, 94, 97, 98, 100, 101, 104, 105, 106, 108, 109, 112, 113, 114, 116, 118, 120, 121, 124, 125, 126, 128, 129, 132, 134, 136, 137, 138], [138, 140, 141], [144, 145], [146, 147, 150, 152, 154, 155, 158, 159, 160, 162, 163, 164, 166], [169, 170], [171, 172, 174], [174, 176, 177, 180], [183, 185, 187, 188, 191, 192, 193, 195, 196, 199, 201, 203, 204, 205, 207, 208, 210, 212, 213, 216, 218, 220, 221, 222], [225, 226, 228, 230, 232, 235], [235, 238], [241, 242]] (by decide +kernel)
theorem ok_X5_tighten : sm_OK sm_P pm_X5_tighten := ⟨om_X5_tighten, fun _ => ⟨sm_inw 3 69 rfl rfl, sm_inw 0 11 rfl rfl⟩⟩
theorem om_X5_tightenRow : sm_okM sm_P pm_X5_tightenRow = true := sm_okMf_of [[0, 1, 3], [3, 5, 6, 9], [12, 13, 14, 17, 18, 20, 21, 22, 23, 25, 27, 28, 31, 32, 34, 35, 36], [39, 40, 43, 44, 46, 47, 49, 50], [50, 53], [56]] (by decide +kernel)
theorem ok_X5_tightenRow : sm_OK sm_P pm_X5_tightenRow := ⟨om_X5_tightenRow, fun _ => ⟨sm_inw 3 73 rfl rfl, sm_inw 0 11 rfl rfl⟩⟩
theorem om_X6_cheapestGiving : sm_okM sm_P pm_X6_cheapestGiving = true := sm_okMf_of [[0, 1, 2, 3, 4, 5, 7], [7, 9, 10, 13], [16, 17, 18, 21, 23, 24, 27, 29, 30, 31], [34, 36, 37], [40, 42, 43, 45, 46], [46, 49], [52, 53]] (by decide +kernel)
theorem ok_X6_cheapestGiving : sm_OK sm_P pm_X6_cheapestGiving := ⟨om_X6_cheapestGiving, fun _ => ⟨sm_inw 4 32 rfl rfl, sm_inw 0 12 rfl rfl⟩⟩
theorem om_X6_goThroughAll : sm_okM sm_P pm_X6_goThroughAll = true := sm_okMf_of [[0, 1, 3], [3, 5, 8], [11, 13, 14, 15, 16, 17], [20], [23, 24, 27, 28, 29, 31, 32, 35, 36, 37, 40, 41, 44, 45, 46, 49, 50, 53, 56], [59, 60], [61, 62, 65, 67, 68, 71, 74], [77, 78], [81, 82], [82, 83], [83, 86], [89, 90]] (by decide +kernel)
theorem ok_X6_goThroughAll : sm_OK sm_P pm_X6_goThroughAll := ⟨om_X6_goThroughAll, fun _ => ⟨sm_inw 3 232 rfl rfl, sm_inw 0 12 rfl rfl⟩⟩
theorem om_X6_holdTogether : sm_okM sm_P pm_X6_holdTogether = true := sm_okMf_of [[0, 1, 4, 7, 9, 10, 12, 13, 15], [15, 17, 19], [22, 24], [27, 28, 31, 33, 34, 35], [38, 39, 41, 42, 43, 44, 45, 46], [49, 50, 53, 55, 57, 60, 61, 64, 66, 67, 70, 72, 75], [75, 78], [81, 83]] (by decide +kernel)
theorem ok_X6_holdTogether : sm_OK sm_P pm_X6_holdTogether := ⟨om_X6_holdTogether, fun _ => ⟨sm_inw 4 57 rfl rfl, sm_inw 0 12 rfl rfl⟩⟩
theorem om_X6_init : sm_okM sm_P pm_X6_init = true := sm_okMf_of [[0, 1, 4, 5, 8, 10, 13, 14, 17, 19, 22, 23, 26, 28, 31, 32, 33, 36, 37, 38, 41, 42, 44, 46, 49, 50, 51, 54, 55, 56, 59, 60, 61, 64, 65, 66, 69, 70, 71, 74, 75], [75, 76, 79]] (by decide +kernel)
theorem ok_X6_init : sm_OK sm_P pm_X6_init := ⟨om_X6_init, fun _ => ⟨sm_inw 1 181 rfl rfl, sm_inw 0 12 rfl rfl⟩⟩
theorem om_X6_isGivingUp : sm_okM sm_P pm_X6_isGivingUp = true := sm_okMf_of [[0, 1, 2, 3, 4, 5, 6, 7, 10, 11, 12], [15, 16], [17, 18, 20], [20, 22, 24], [27, 28, 30, 31, 32, 33], [36, 37, 40, 41, 42, 44, 45, 46, 47], [50, 51], [52, 55], [58, 59]] (by decide +kernel)
theorem ok_X6_isGivingUp : sm_OK sm_P pm_X6_isGivingUp := ⟨om_X6_isGivingUp, fun _ => ⟨sm_inw 4 12 rfl rfl, sm_inw 0 12 rfl rfl⟩⟩
theorem om_X6_isKnown : sm_okM sm_P pm_X6_isKnown = true := sm_okMf_of [[0, 1, 4], [7, 8, 9, 12, 13, 14, 17, 18, 19, 22, 23, 26, 27, 30, 31, 32, 33, 34, 37, 38, 39, 40, 41, 42, 43, 44, 45, 46, 49], [52, 53], [56, 57], [57, 60, 61, 63], [63, 65, 67], [70, 71, 74], [77, 78, 79, 81, 84, 87], [90, 91, 94], [97, 98], [101, 102], [102]] (by decide +kernel)
theorem ok_X6_isKnown : sm_OK sm_P pm_X6_isKnown := ⟨om_X6_isKnown, fun _ => ⟨sm_inw 3 227 rfl rfl, sm_inw 0 12 rfl rfl⟩⟩
theorem om_X6_isQuarrel : sm_okM sm_P pm_X6_isQuarrel = true := sm_okMf_of [[0, 1, 4, 5, 6], [9, 10], [11, 12, 13], [13, 14, 16], [19, 20, 21, 22, 23, 24], [27, 28, 31, 32, 33, 34, 35, 36, 37, 38, 39], [42, 43], [44, 47], [50, 51]] (by decide +kernel)
theorem ok_X6_isQuarrel : sm_OK sm_P pm_X6_isQuarrel := ⟨om_X6_isQuarrel, fun _ => ⟨sm_inw 4 8 rfl rfl, sm_inw 0 12 rfl rfl⟩⟩
theorem om_X6_isTight : sm_okM sm_P pm_X6_isTight = true := sm_okMf_of [[0, 1, 4], [7, 8, 9, 12, 13, 16, 17, 18, 19, 20, 23, 24, 25, 26, 27, 30], [33, 34], [37, 38], [38, 41, 42, 43, 46, 47, 50], [53, 54, 55, 58], [58, 59, 62]] (by decide +kernel)
theorem ok_X6_isTight : sm_OK sm_P pm_X6_isTight := ⟨om_X6_isTight, fun _ => ⟨sm_inw 4 53 rfl rfl, sm_inw 0 12 rfl rfl⟩⟩
theorem om_X6_itemOf : sm_okM sm_P pm_X6_itemOf = true := sm_okMf_of [[0, 1, 3], [6, 7], [10, 11, 13, 14, 16, 17], [17]] (by decide +kernel)
theorem ok_X6_itemOf : sm_OK sm_P pm_X6_itemOf := ⟨om_X6_itemOf, fun _ => ⟨sm_inw 4 60 rfl rfl, sm_inw 0 12 rfl rfl⟩⟩
theorem om_X6_listRing : sm_okM sm_P pm_X6_listRing = true := sm_okMf_of [[0, 1, 2, 3, 5], [5, 7, 9], [12, 13, 16, 18, 19, 20], [23], [26, 27, 28, 29, 30, 32, 33, 34, 37], [40, 41, 44, 45, 48, 50, 53, 54, 55, 56, 59, 60, 61, 64], [67, 68, 69, 71, 72, 73, 74], [74, 77], [80]] (by decide +kernel)
theorem ok_X6_listRing : sm_OK sm_P pm_X6_listRing := ⟨om_X6_listRing, fun _ => ⟨sm_inw 4 65 rfl rfl, sm_inw 0 12 rfl rfl⟩⟩
theorem om_X6_listSets : sm_okM sm_P pm_X6_listSets = true := sm_okMf_of [[0, 1, 2], [2, 3, 6], [9, 10, 11, 12, 13, 14], [17, 18, 21, 22], [25], [28, 29, 30, 33], [36, 37, 40, 43], [46, 47, 50, 51, 54, 55, 56, 57, 58, 61, 62, 63, 66], [66, 67, 68, 69, 72], [75, 76, 79, 82], [85, 86, 89, 90, 93, 94, 95, 96, 97, 100, 101, 102, 105], [105, 108], [111]] (by decide +kernel)
theorem ok_X6_listSets : sm_OK sm_P pm_X6_listSets := ⟨om_X6_listSets, fun _ => ⟨sm_inw 3 238 rfl rfl, sm_inw 0 12 rfl rfl⟩⟩
theorem om_X7_addSaying : sm_okM sm_P pm_X7_addSaying = true := sm_okMf_of [[0, 1, 4, 5, 8, 9, 10, 11, 14, 15, 16, 19, 21], [24, 25, 28, 29, 32, 33, 34, 35, 36, 39], [39, 40, 43, 46, 47, 48, 49, 50, 53, 56, 57, 58, 59, 60, 61, 62]] (by decide +kernel)
theorem ok_X7_addSaying : sm_OK sm_P pm_X7_addSaying := ⟨om_X7_addSaying, fun _ => ⟨sm_inw 2 158 rfl rfl, sm_inw 0 2 rfl rfl⟩⟩
theorem om_X7_changePlaces : sm_okM sm_P pm_X7_changePlaces = true := sm_okMf_of [[0, 1, 4, 5, 6, 7, 10, 11]] (by decide +kernel)
theorem ok_X7_changePlaces : sm_OK sm_P pm_X7_changePlaces := ⟨om_X7_changePlaces, fun _ => ⟨sm_inw 2 235 rfl rfl, sm_inw 0 2 rfl rfl⟩⟩
theorem om_X7_endPathOrOpen : sm_okM sm_P pm_X7_endPathOrOpen = true := sm_okMf_of [[0, 1, 4, 5], [8, 9, 12, 13, 16, 17, 20, 21, 24], [27, 28, 31, 34, 35, 38, 39, 42, 43, 46, 49, 50, 53, 56, 57, 60, 61, 64, 65, 68], [68]] (by decide +kernel)
theorem ok_X7_endPathOrOpen : sm_OK sm_P pm_X7_endPathOrOpen := ⟨om_X7_endPathOrOpen, fun _ => ⟨sm_inw 2 194 rfl rfl, sm_inw 0 2 rfl rfl⟩⟩
theorem om_X7_endSpan : sm_okM sm_P pm_X7_endSpan = true := sm_okMf_of [[0, 1, 4, 7, 8, 9, 12, 15, 16, 17, 18, 19, 22, 24], [27, 28, 31, 34, 35, 36, 38, 39, 42, 45, 47, 48, 49, 50, 52, 53, 56, 59, 60, 61, 64, 66, 68, 71, 72, 75, 77, 79, 82, 83, 84, 85, 86], [86, 87, 88, 89, 92, 93, 96, 99, 100, 101, 102, 105, 106, 109]] (by decide +kernel)
theorem ok_X7_endSpan : sm_OK sm_P pm_X7_endSpan := ⟨om_X7_endSpan, fun _ => ⟨sm_inw 2 210 rfl rfl, sm_inw 0 2 rfl rfl⟩⟩
theorem om_X7_find : sm_okM sm_P pm_X7_find = true := sm_okMf_of [[0, 1, 3], [3, 5, 6, 9], [12, 13, 16, 18, 19, 20, 21], [24, 25, 28, 30, 31, 32], [35, 36, 39, 41, 42], [43, 46], [49, 50]] (by decide +kernel)
theorem ok_X7_find : sm_OK sm_P pm_X7_find := ⟨om_X7_find, fun _ => ⟨sm_inw 2 166 rfl rfl, sm_inw 0 2 rfl rfl⟩⟩
theorem om_X7_init : sm_okM sm_P pm_X7_init = true := sm_okMf_of [[0, 1, 4, 5, 8, 9, 12, 15, 16, 19, 20, 23, 26, 27, 29, 31, 34, 35, 37, 39, 42, 43, 45, 47, 50, 51, 52, 55, 56, 59, 60, 63, 66, 67, 68, 71, 72, 73, 76, 77, 78], [78, 81, 82, 83, 86, 87, 88, 91, 92, 93, 96]] (by decide +kernel)
theorem ok_X7_init : sm_OK sm_P pm_X7_init := ⟨om_X7_init, fun _ => ⟨sm_inw 0 30 rfl rfl, sm_inw 0 2 rfl rfl⟩⟩
theorem om_X7_meaningFault : sm_okM sm_P pm_X7_meaningFault = true := sm_okMf_of [[0, 1, 2, 3, 4], [4, 5, 6, 9, 12], [15, 16, 19, 22, 23, 24, 25, 26, 28], [31, 32, 35, 38, 39, 40, 43, 44], [47, 48], [51, 52], [52, 54, 56], [59, 60, 61, 62, 63, 66, 69, 70, 71, 74, 76], [76, 78], [81, 82, 83, 86, 89, 90, 91, 94, 96], [97, 98, 99, 102, 103, 106], [109, 110]] (by decide +kernel)
theorem ok_X7_meaningFault : sm_OK sm_P pm_X7_meaningFault := ⟨om_X7_meaningFault, fun _ => ⟨sm_inw 2 141 rfl rfl, sm_inw 0 2 rfl rfl⟩⟩
theorem om_X7_numberNew : sm_okM sm_P pm_X7_numberNew = true := sm_okMf_of [[0, 1], [44, 45, 48, 49, 52, 53, 54, 55, 58], [59, 60, 63, 64, 67, 68, 69, 70, 73], [74, 75, 78, 79, 82, 83, 84, 85, 88], [89, 90, 93, 94, 97, 98, 99, 100, 103], [104, 105, 108]] (by decide +kernel)
theorem ok_X7_numberNew : sm_OK sm_P pm_X7_numberNew := ⟨om_X7_numberNew, fun _ => ⟨sm_inw 2 154 rfl rfl, sm_inw 0 2 rfl rfl⟩⟩
theorem om_X7_readTape : sm_okM sm_P pm_X7_readTape = true := sm_okMf_of [[0, 1, 4, 7, 8, 9, 12, 13, 16, 17, 18, 21, 22, 25, 26, 27], [30, 31, 34, 35], [35, 36], [39, 40, 43, 46, 47, 50, 53], [53, 54]] (by decide +kernel)
theorem ok_X7_readTape : sm_OK sm_P pm_X7_readTape := ⟨om_X7_readTape, fun _ => ⟨sm_inw 2 78 rfl rfl, sm_inw 0 2 rfl rfl⟩⟩
theorem om_X7_syntaxFault : sm_okM sm_P pm_X7_syntaxFault = true := sm_okMf_of [[0, 1, 4, 7, 8, 9, 10, 11], [11, 12, 13, 16, 19], [22, 23, 26, 27, 28, 31, 34, 35, 36, 37, 40, 41, 42], [45, 46, 47, 50, 53, 54, 55, 58, 59], [60, 61, 62, 65, 68, 69, 70, 73, 74, 77], [80, 81]] (by decide +kernel)
theorem ok_X7_syntaxFault : sm_OK sm_P pm_X7_syntaxFault := ⟨om_X7_syntaxFault, fun _ => ⟨sm_inw 2 116 rfl rfl, sm_inw 0 2 rfl rfl⟩⟩
theorem om_X7_take : sm_okM sm_P pm_X7_take = true := sm_okMf_of [[0, 1], [136, 137, 138, 141, 142], [143, 144, 145, 148], [149, 150, 151, 152, 155], [156, 157, 158, 159, 162], [163, 164, 165, 166, 169], [170, 171, 172, 173, 176], [177, 178, 179, 182, 183], [184, 185, 186, 187, 190], [191, 192, 193, 194, 195, 196, 199]] (by decide +kernel)
theorem ok_X7_take : sm_OK sm_P pm_X7_take := ⟨om_X7_take, fun _ => ⟨sm_inw 2 146 rfl rfl, sm_inw 0 2 rfl rfl⟩⟩
theorem om_X7_takeInt : sm_okM sm_P pm_X7_takeInt = true := sm_okMf_of [[0, 1, 3], [6, 7, 8, 11, 12], [13, 14, 16], [19, 20, 23, 24, 25, 27, 28, 29, 32, 33, 34], [37, 38, 40, 43], [46, 47, 48, 51, 53], [56, 57, 59, 62], [65, 66, 68, 71], [71, 72]] (by decide +kernel)
theorem ok_X7_takeInt : sm_OK sm_P pm_X7_takeInt := ⟨om_X7_takeInt, fun _ => ⟨sm_inw 2 190 rfl rfl, sm_inw 0 2 rfl rfl⟩⟩
theorem om_X7_takeJoin : sm_okM sm_P pm_X7_takeJoin = true := sm_okMf_of [[0, 1, 4, 7, 8, 9, 10, 11, 13], [16, 17, 20, 23, 24, 25, 26, 27, 28, 29], [29, 30, 32], [35, 36, 38], [41, 42, 45, 48, 49, 50, 51, 52, 55, 58, 59, 60, 61, 62, 63, 64, 65, 66, 67, 68], [68]] (by decide +kernel)
theorem ok_X7_takeJoin : sm_OK sm_P pm_X7_takeJoin := ⟨om_X7_takeJoin, fun _ => ⟨sm_inw 2 182 rfl rfl, sm_inw 0 2 rfl rfl⟩⟩
theorem om_X7_takeNew : sm_okM sm_P pm_X7_takeNew = true := sm_okMf_of [[0, 1, 2], [2, 3, 4, 7], [10, 11, 14, 15, 16, 17, 18], [21, 22], [23, 26], [29, 30, 33, 35], [38, 40], [43, 44, 47], [47, 48, 49, 52, 54], [57, 58, 61, 62, 65, 66, 67, 68, 71, 72, 75, 76, 77, 78, 81, 82, 85, 86, 87, 90, 91, 92, 93, 96, 97, 98, 101], [101, 102]] (by decide +kernel)
theorem ok_X7_takeNew : sm_OK sm_P pm_X7_takeNew := ⟨om_X7_takeNew, fun _ => ⟨sm_inw 2 150 rfl rfl, sm_inw 0 2 rfl rfl⟩⟩
theorem om_X7_takeOpen : sm_okM sm_P pm_X7_takeOpen = true := sm_okMf_of [[0, 1, 2, 3, 6, 8, 10, 11], [14, 15], [16, 17, 19], [22, 23, 25, 28, 29, 32, 35, 38, 39, 42, 43, 44], [47, 48], [51, 52], [52], [53, 54, 56, 59, 60, 63, 64, 67], [70, 71, 74, 77, 80, 81, 84, 85, 86], [89, 90], [91, 92, 94], [94, 96, 97, 100, 103], [106, 107, 110, 113, 116, 118, 119, 120, 123], [126, 127], [128, 131], [134, 135]] (by decide +kernel)
theorem ok_X7_takeOpen : sm_OK sm_P pm_X7_takeOpen := ⟨om_X7_takeOpen, fun _ => ⟨sm_inw 2 174 rfl rfl, sm_inw 0 2 rfl rfl⟩⟩
theorem om_X7_takePath : sm_okM sm_P pm_X7_takePath = true := sm_okMf_of [[0, 1, 2, 3, 6, 8, 10, 11], [14, 15], [16, 17, 18], [21, 22, 24, 27, 28], [29, 30, 32, 35, 36, 39, 40, 43], [46, 47], [50, 51], [51]] (by decide +kernel)
theorem ok_X7_takePath : sm_OK sm_P pm_X7_takePath := ⟨om_X7_takePath, fun _ => ⟨sm_inw 2 162 rfl rfl, sm_inw 0 2 rfl rfl⟩⟩
theorem om_X7_takeSpanTime : sm_okM sm_P pm_X7_takeSpanTime = true := sm_okMf_of [[0, 1, 2, 3, 6, 8, 10, 11], [14, 15], [16, 17, 19], [22, 23, 25, 28, 29, 30, 33], [36, 37, 39, 42], [42, 43]] (by decide +kernel)
theorem ok_X7_takeSpanTime : sm_OK sm_P pm_X7_takeSpanTime := ⟨om_X7_takeSpanTime, fun _ => ⟨sm_inw 2 178 rfl rfl, sm_inw 0 2 rfl rfl⟩⟩
theorem om_X7_takeTrust : sm_okM sm_P pm_X7_takeTrust = true := sm_okMf_of [[0, 1], [4, 5, 7], [10, 11], [12, 13, 16, 19, 20, 23, 26, 27, 28, 29, 30, 31]] (by decide +kernel)
theorem ok_X7_takeTrust : sm_OK sm_P pm_X7_takeTrust := ⟨om_X7_takeTrust, fun _ => ⟨sm_inw 2 186 rfl rfl, sm_inw 0 2 rfl rfl⟩⟩
theorem om_X7_takeWhere : sm_okM sm_P pm_X7_takeWhere = true := sm_okMf_of [[0, 1, 3], [6, 7], [10, 11], [11, 13, 14, 15, 17], [20, 21], [24, 25], [25, 28, 30, 32, 33], [36, 37], [38, 40], [43, 44, 47, 50, 51, 54, 57, 58, 59, 61, 62], [65, 66, 69, 72, 73, 76, 79, 80, 81, 83, 84], [84, 85]] (by decide +kernel)
theorem ok_X7_takeWhere : sm_OK sm_P pm_X7_takeWhere := ⟨om_X7_takeWhere, fun _ => ⟨sm_inw 2 170 rfl rfl, sm_inw 0 2 rfl rfl⟩⟩
theorem om_X8_bound : sm_okM sm_P pm_X8_bound = true := sm_okMf_of [[0, 1], [4, 5, 6, 9, 10], [13, 14, 17, 18, 19, 20, 21, 24, 25, 26, 27], [27]] (by decide +kernel)
theorem ok_X8_bound : sm_OK sm_P pm_X8_bound := ⟨om_X8_bound, fun _ => ⟨sm_inw 2 206 rfl rfl, sm_inw 0 6 rfl rfl⟩⟩
theorem om_X8_holds : sm_okM sm_P pm_X8_holds = true := sm_okMf_of [[0, 1, 2, 5, 6, 7, 8, 9, 12, 13, 14, 15], [18, 19], [22, 23, 24, 27, 28, 29, 30], [30, 31, 32, 33, 36, 37, 38, 39], [42, 43, 44, 47, 48, 49], [52, 53], [56, 57], [57]] (by decide +kernel)
theorem ok_X8_holds : sm_OK sm_P pm_X8_holds := ⟨om_X8_holds, fun _ => ⟨sm_inw 3 212 rfl rfl, sm_inw 0 6 rfl rfl⟩⟩
theorem om_X8_init_20 : sm_okM sm_P pm_X8_init_20 = true := sm_okMf_of [[0, 1, 4, 5, 6, 8, 11, 12, 13, 15, 18, 19, 20, 22, 25, 26, 27, 29, 32]] (by decide +kernel)
theorem ok_X8_init_20 : sm_OK sm_P pm_X8_init_20 := ⟨om_X8_init_20, fun _ => ⟨sm_inw 0 87 rfl rfl, sm_inw 0 6 rfl rfl⟩⟩
theorem om_X8_init_24 : sm_okM sm_P pm_X8_init_24 = true := sm_okMf_of [[0, 1, 4, 5, 6, 8, 11, 12, 13, 15, 18, 19, 20, 22, 25, 26, 27, 29, 32]] (by decide +kernel)
theorem ok_X8_init_24 : sm_OK sm_P pm_X8_init_24 := ⟨om_X8_init_24, fun _ => ⟨sm_inw 0 87 rfl rfl, sm_inw 0 6 rfl rfl⟩⟩
theorem om_X8_init_40 : sm_okM sm_P pm_X8_init_40 = true := sm_okMf_of [[0, 1, 4, 5, 6, 8, 11, 12, 13, 15, 18, 19, 20, 22, 25, 26, 27, 29, 32]] (by decide +kernel)
theorem ok_X8_init_40 : sm_OK sm_P pm_X8_init_40 := ⟨om_X8_init_40, fun _ => ⟨sm_inw 0 87 rfl rfl, sm_inw 0 6 rfl rfl⟩⟩
theorem om_X8_init_480 : sm_okM sm_P pm_X8_init_480 = true := sm_okMf_of [[0, 1, 4, 5, 6, 8, 11, 12, 13, 15, 18, 19, 20, 22, 25, 26, 27, 29, 32]] (by decide +kernel)
theorem ok_X8_init_480 : sm_OK sm_P pm_X8_init_480 := ⟨om_X8_init_480, fun _ => ⟨sm_inw 0 87 rfl rfl, sm_inw 0 6 rfl rfl⟩⟩
theorem om_X8_isSet : sm_okM sm_P pm_X8_isSet = true := sm_okMf_of [[0, 1, 2, 5, 6, 7, 8, 9], [12, 13, 16, 17, 18, 19], [22, 23, 24, 27, 28, 29, 30, 31], [34, 35], [38, 39], [39]] (by decide +kernel)
theorem ok_X8_isSet : sm_OK sm_P pm_X8_isSet := ⟨om_X8_isSet, fun _ => ⟨sm_inw 3 208 rfl rfl, sm_inw 0 6 rfl rfl⟩⟩
theorem om_X8_put : sm_okM sm_P pm_X8_put = true := sm_okMf_of [[0, 1], [4, 5, 6, 9, 10], [13, 14, 17, 18, 19, 20, 21, 24, 25, 26, 27], [27]] (by decide +kernel)
theorem ok_X8_put : sm_OK sm_P pm_X8_put := ⟨om_X8_put, fun _ => ⟨sm_inw 2 202 rfl rfl, sm_inw 0 6 rfl rfl⟩⟩
theorem om_X9_endOfDigits : sm_okM sm_P pm_X9_endOfDigits = true := sm_okMf_of [[0, 1, 2], [2, 3, 4], [7, 8, 9, 10, 13], [16, 19], [22, 23]] (by decide +kernel)
theorem ok_X9_endOfDigits : sm_OK sm_P pm_X9_endOfDigits := ⟨om_X9_endOfDigits, fun _ => ⟨sm_inw 2 107 rfl rfl, sm_inw 0 3 rfl rfl⟩⟩
theorem om_X9_endOfLetters : sm_okM sm_P pm_X9_endOfLetters = true := sm_okMf_of [[0, 1, 2], [2, 3, 4], [7, 8, 9, 10, 13], [16, 19], [22, 23]] (by decide +kernel)
theorem ok_X9_endOfLetters : sm_OK sm_P pm_X9_endOfLetters := ⟨om_X9_endOfLetters, fun _ => ⟨sm_inw 2 96 rfl rfl, sm_inw 0 3 rfl rfl⟩⟩
theorem om_X9_init : sm_okM sm_P pm_X9_init = true := sm_okMf_of [[0, 1, 4, 5, 8, 10, 13, 14, 17, 19, 22, 23, 26, 28, 31, 32, 33, 36]] (by decide +kernel)
theorem ok_X9_init : sm_OK sm_P pm_X9_init := ⟨om_X9_init, fun _ => ⟨sm_inw 0 36 rfl rfl, sm_inw 0 3 rfl rfl⟩⟩
theorem om_X9_isBlank : sm_okM sm_P pm_X9_isBlank = true := sm_okMf_of [[0, 1, 3], [6, 7, 9], [12, 13, 15], [18, 19, 21], [24, 25], [28, 29], [29]] (by decide +kernel)
theorem ok_X9_isBlank : sm_OK sm_P pm_X9_isBlank := ⟨om_X9_isBlank, fun _ => ⟨sm_inw 2 86 rfl rfl, sm_inw 0 3 rfl rfl⟩⟩
theorem om_X9_isDigit : sm_okM sm_P pm_X9_isDigit = true := sm_okMf_of [[0, 1, 3], [6, 7, 9], [12, 13], [16, 17], [17]] (by decide +kernel)
theorem ok_X9_isDigit : sm_OK sm_P pm_X9_isDigit := ⟨om_X9_isDigit, fun _ => ⟨sm_inw 2 104 rfl rfl, sm_inw 0 3 rfl rfl⟩⟩
theorem om_X9_isLetter : sm_okM sm_P pm_X9_isLetter = true := sm_okMf_of [[0, 1, 3], [6, 7, 9], [12, 13], [16, 17], [17]] (by decide +kernel)
theorem ok_X9_isLetter : sm_OK sm_P pm_X9_isLetter := ⟨om_X9_isLetter, fun _ => ⟨sm_inw 2 93 rfl rfl, sm_inw 0 3 rfl rfl⟩⟩
theorem om_X9_scan : sm_okM sm_P pm_X9_scan = true := sm_okMf_of [[0, 1, 2, 5, 6, 7, 8, 10], [10, 12, 15], [18, 19, 20], [23, 24, 27, 30], [33, 34, 35, 36, 39], [42, 45], [48, 49, 50, 51, 52, 55, 56], [56, 59], [62, 63, 66, 67, 70, 72, 73, 74, 77, 78, 81, 82, 83]] (by decide +kernel)
theorem ok_X9_scan : sm_OK sm_P pm_X9_scan := ⟨om_X9_scan, fun _ => ⟨sm_inw 2 83 rfl rfl, sm_inw 0 3 rfl rfl⟩⟩
theorem om_X9_scanOne : sm_okM sm_P pm_X9_scanOne = true := sm_okMf_of [[0, 1, 2, 3, 5, 6, 8, 9, 12, 13, 16, 17, 18, 19, 20, 21, 24], [27, 28, 29, 30, 33, 35, 36, 38], [38, 40, 42], [45, 47, 49, 50, 51, 53, 54, 55, 56, 58, 61], [64, 65, 68, 69, 72, 74, 75, 76, 78], [81, 83], [86, 88, 91], [91, 92], [95, 96, 97, 98, 101], [104, 105, 106, 107, 110, 112, 113, 115], [115, 117, 119], [122, 124, 127, 128, 129, 131, 132, 133, 134, 137, 138, 140, 143], [146, 147, 150, 151, 154, 156, 157, 158, 159], [162, 164], [167, 169], [169, 170], [173, 174, 177, 178, 181, 182, 183, 184, 187, 188], [188, 189, 192, 193, 196, 198, 199, 200, 201, 204, 205, 206, 209, 211]] (by decide +kernel)
theorem ok_X9_scanOne : sm_OK sm_P pm_X9_scanOne := ⟨om_X9_scanOne, fun _ => ⟨sm_inw 2 90 rfl rfl, sm_inw 0 3 rfl rfl⟩⟩
theorem om_X9_sign : sm_okM sm_P pm_X9_sign = true := sm_okMf_of [[0, 1], [36, 38], [39, 41], [42, 44], [45, 47]] (by decide +kernel)
theorem ok_X9_sign : sm_OK sm_P pm_X9_sign := ⟨om_X9_sign, fun _ => ⟨sm_inw 2 112 rfl rfl, sm_inw 0 3 rfl rfl⟩⟩
theorem om_X9_wordOrName : sm_okM sm_P pm_X9_wordOrName = true := sm_okMf_of [[0, 1, 2], [2, 3, 6, 7], [10, 13, 14, 15, 16, 17], [20, 21], [22, 25], [28, 30]] (by decide +kernel)
theorem ok_X9_wordOrName : sm_OK sm_P pm_X9_wordOrName := ⟨om_X9_wordOrName, fun _ => ⟨sm_inw 2 99 rfl rfl, sm_inw 0 3 rfl rfl⟩⟩
theorem om_J6_bitCount_0f7a4 : sm_okM sm_P pm_J6_bitCount_0f7a4 = true := sm_okMf_of [[0, 1, 2, 3, 4, 7, 8, 9, 10, 11, 14, 15, 16, 17, 18, 21, 22, 23, 24, 25, 26, 27, 28, 29, 32, 33, 34, 35, 36, 38, 39, 40, 41, 42, 43, 45, 46, 47, 48, 49, 51], [51, 52]] (by decide +kernel)
theorem ok_J6_bitCount_0f7a4 : sm_OK sm_P pm_J6_bitCount_0f7a4 := ⟨om_J6_bitCount_0f7a4, fun _ => ⟨sm_inw 4 1 rfl rfl, sm_inw 0 17 rfl rfl⟩⟩
theorem om_J7_fill_53178 : sm_okM sm_P pm_J7_fill_53178 = true := sm_okMf_of [[0, 1, 2, 3, 4, 5], [5, 6, 7], [10, 11, 12, 13, 14, 17], [20]] (by decide +kernel)
theorem ok_J7_fill_53178 : sm_OK sm_P pm_J7_fill_53178 := ⟨om_J7_fill_53178, fun _ => ⟨sm_inw 0 119 rfl rfl, sm_inw 0 7 rfl rfl⟩⟩
end
section
/-! the tables are in order -/
theorem bk_L_law_0 : sm_okL sm_P pm_L_law pb_L_law_0.2.2.1 pb_L_law_0.2.2.2 pb_L_law_0.1 = true := sm_okLf_of _ 0 [3, 4, 7, 8, 11, 12, 15, 16, 17, 18] (by decide +kernel)
theorem bk_L_law_1 : sm_okL sm_P pm_L_law pb_L_law_1.2.2.1 pb_L_law_1.2.2.2 pb_L_law_1.1 = true := sm_okLf_of _ 18 [19, 20, 21, 23, 24] (by decide +kernel)
theorem bk_L_law_2 : sm_okL sm_P pm_L_law pb_L_law_2.2.2.1 pb_L_law_2.2.2.2 pb_L_law_2.1 = true := sm_okLf_of _ 27 [28, 29, 30, 32, 33] (by decide +kernel)
theorem bk_L_law_3 : sm_okL sm_P pm_L_law pb_L_law_3.2.2.1 pb_L_law_3.2.2.2 pb_L_law_3.1 = true := sm_okLf_of _ 236 [237, 238, 239, 240, 241, 242, 243, 244, 245, 246, 247, 248, 249, 250, 251, 252, 253, 254, 255, 256, 257, 258, 259, 260, 261, 262, 265, 266, 267, 268, 269, 270, 271, 272, 273, 274, 275, 276, 277, 278] (by decide +kernel)
theorem bk_L_law_4 : sm_okL sm_P pm_L_law pb_L_law_4.2.2.1 pb_L_law_4.2.2.2 pb_L_law_4.1 = true := sm_okLf_of _ 278 [279, 280, 281, 282, 283, 284, 285, 286, 287, 288, 289, 290, 291, 294] (by decide +kernel)
theorem bk_L_law_5 : sm_okL sm_P pm_L_law pb_L_law_5.2.2.1 pb_L_law_5.2.2.2 pb_L_law_5.1 = true := sm_okLf_of _ 297 [298] (by decide +kernel)
theorem bk_L_law_6 : sm_okL sm_P pm_L_law pb_L_law_6.2.2.1 pb_L_law_6.2.2.2 pb_L_law_6.1 = true := sm_okLf_of _ 299 [300, 301, 302, 303, 304, 305, 308, 309, 310, 311, 312, 313, 314, 317] (by decide +kernel)
theorem bk_L_law_7 : sm_okL sm_P pm_L_law pb_L_law_7.2.2.1 pb_L_law_7.2.2.2 pb_L_law_7.1 = true := sm_okLf_of _ 320 [321] (by decide +kernel)
theorem bk_L_law_8 : sm_okL sm_P pm_L_law pb_L_law_8.2.2.1 pb_L_law_8.2.2.2 pb_L_law_8.1 = true := sm_okLf_of _ 322 [323, 326, 327, 330] (by decide +kernel)
theorem bk_L_law_9 : sm_okL sm_P pm_L_law pb_L_law_9.2.2.1 pb_L_law_9.2.2.2 pb_L_law_9.1 = true := sm_okLf_of _ 333 [334] (by decide +kernel)
theorem bk_L_law_10 : sm_okL sm_P pm_L_law pb_L_law_10.2.2.1 pb_L_law_10.2.2.2 pb_L_law_10.1 = true := sm_okLf_of _ 335 [336, 339, 340, 343] (by decide +kernel)
theorem bk_L_law_11 : sm_okL sm_P pm_L_law pb_L_law_11.2.2.1 pb_L_law_11.2.2.2 pb_L_law_11.1 = true := sm_okLf_of _ 346 [347] (by decide +kernel)
theorem bk_L_law_12 : sm_okL sm_P pm_L_law pb_L_law_12.2.2.1 pb_L_law_12.2.2.2 pb_L_law_12.1 = true := sm_okLf_of _ 348 [349, 350, 351, 352, 353, 354, 355, 356, 357, 358, 359] (by decide +kernel)
theorem bk_L_law_13 : sm_okL sm_P pm_L_law pb_L_law_13.2.2.1 pb_L_law_13.2.2.2 pb_L_law_13.1 = true := sm_okLf_of _ 362 [363] (by decide +kernel)
theorem bk_L_law_14 : sm_okL sm_P pm_L_law pb_L_law_14.2.2.1 pb_L_law_14.2.2.2 pb_L_law_14.1 = true := sm_okLf_of _ 366 [367] (by decide +kernel)
theorem bk_L_law_15 : sm_okL sm_P pm_L_law pb_L_law_15.2.2.1 pb_L_law_15.2.2.2 pb_L_law_15.1 = true := sm_okLf_of _ 367 [370, 371, 372, 373, 374, 375, 376, 377, 378, 379, 380, 381] (by decide +kernel)
theorem bk_L_law_16 : sm_okL sm_P pm_L_law pb_L_law_16.2.2.1 pb_L_law_16.2.2.2 pb_L_law_16.1 = true := sm_okLf_of _ 384 [385] (by decide +kernel)
theorem bk_L_law_17 : sm_okL sm_P pm_L_law pb_L_law_17.2.2.1 pb_L_law_17.2.2.2 pb_L_law_17.1 = true := sm_okLf_of _ 388 [389] (by decide +kernel)
theorem bk_L_law_18 : sm_okL sm_P pm_L_law pb_L_law_18.2.2.1 pb_L_law_18.2.2.2 pb_L_law_18.1 = true := sm_okLf_of _ 389 [392] (by decide +kernel)
theorem bk_L_law_19 : sm_okL sm_P pm_L_law pb_L_law_19.2.2.1 pb_L_law_19.2.2.2 pb_L_law_19.1 = true := sm_okLf_of _ 395 [396] (by decide +kernel)
theorem bk_L_law_20 : sm_okL sm_P pm_L_law pb_L_law_20.2.2.1 pb_L_law_20.2.2.2 pb_L_law_20.1 = true := sm_okLf_of _ 397 [398, 399, 400, 401, 402, 403, 404, 405, 406, 407, 408, 411, 412, 413, 414, 415, 416, 417, 418, 419, 420, 421, 422, 425] (by decide +kernel)
theorem bk_L_law_21 : sm_okL sm_P pm_L_law pb_L_law_21.2.2.1 pb_L_law_21.2.2.2 pb_L_law_21.1 = true := sm_okLf_of _ 428 [429] (by decide +kernel)
theorem bk_L_law_22 : sm_okL sm_P pm_L_law pb_L_law_22.2.2.1 pb_L_law_22.2.2.2 pb_L_law_22.1 = true := sm_okLf_of _ 430 [431, 432, 433, 434, 435, 436, 437, 438, 439, 440, 441, 444, 445, 446, 447, 448, 449, 450, 451, 452, 453, 454, 455, 458] (by decide +kernel)
theorem bk_L_law_23 : sm_okL sm_P pm_L_law pb_L_law_23.2.2.1 pb_L_law_23.2.2.2 pb_L_law_23.1 = true := sm_okLf_of _ 461 [462] (by decide +kernel)
theorem bk_L_law_24 : sm_okL sm_P pm_L_law pb_L_law_24.2.2.1 pb_L_law_24.2.2.2 pb_L_law_24.1 = true := sm_okLf_of _ 463 [464, 467, 468, 471] (by decide +kernel)
theorem bk_L_law_25 : sm_okL sm_P pm_L_law pb_L_law_25.2.2.1 pb_L_law_25.2.2.2 pb_L_law_25.1 = true := sm_okLf_of _ 474 [475] (by decide +kernel)
theorem bk_L_law_26 : sm_okL sm_P pm_L_law pb_L_law_26.2.2.1 pb_L_law_26.2.2.2 pb_L_law_26.1 = true := sm_okLf_of _ 476 [477, 478, 479, 480, 481, 482, 483, 484, 485, 486, 487, 490, 491, 492, 493, 494, 495, 496, 497, 498, 499, 500, 501, 504] (by decide +kernel)
theorem bk_L_law_27 : sm_okL sm_P pm_L_law pb_L_law_27.2.2.1 pb_L_law_27.2.2.2 pb_L_law_27.1 = true := sm_okLf_of _ 507 [508] (by decide +kernel)
theorem bk_L_law_28 : sm_okL sm_P pm_L_law pb_L_law_28.2.2.1 pb_L_law_28.2.2.2 pb_L_law_28.1 = true := sm_okLf_of _ 509 [510, 511, 512, 513, 514, 515, 516, 517, 518, 519, 520, 523, 524, 525, 526, 527, 528, 529, 530, 531, 532, 533, 534, 537] (by decide +kernel)
theorem bk_L_law_29 : sm_okL sm_P pm_L_law pb_L_law_29.2.2.1 pb_L_law_29.2.2.2 pb_L_law_29.1 = true := sm_okLf_of _ 540 [541] (by decide +kernel)
theorem bk_L_law_30 : sm_okL sm_P pm_L_law pb_L_law_30.2.2.1 pb_L_law_30.2.2.2 pb_L_law_30.1 = true := sm_okLf_of _ 542 [543, 544, 545, 546, 547, 548, 549, 550, 551, 552, 553, 554, 555, 556, 557, 558] (by decide +kernel)
theorem bk_L_law_31 : sm_okL sm_P pm_L_law pb_L_law_31.2.2.1 pb_L_law_31.2.2.2 pb_L_law_31.1 = true := sm_okLf_of _ 561 [562] (by decide +kernel)
theorem bk_L_law_32 : sm_okL sm_P pm_L_law pb_L_law_32.2.2.1 pb_L_law_32.2.2.2 pb_L_law_32.1 = true := sm_okLf_of _ 565 [566] (by decide +kernel)
theorem bk_L_law_33 : sm_okL sm_P pm_L_law pb_L_law_33.2.2.1 pb_L_law_33.2.2.2 pb_L_law_33.1 = true := sm_okLf_of _ 566 [569, 570, 571, 572, 573, 574, 575, 576, 577, 578, 579, 580, 581, 582, 583, 584, 585] (by decide +kernel)
theorem bk_L_law_34 : sm_okL sm_P pm_L_law pb_L_law_34.2.2.1 pb_L_law_34.2.2.2 pb_L_law_34.1 = true := sm_okLf_of _ 588 [589] (by decide +kernel)
theorem bk_L_law_35 : sm_okL sm_P pm_L_law pb_L_law_35.2.2.1 pb_L_law_35.2.2.2 pb_L_law_35.1 = true := sm_okLf_of _ 592 [593] (by decide +kernel)
theorem bk_L_law_36 : sm_okL sm_P pm_L_law pb_L_law_36.2.2.1 pb_L_law_36.2.2.2 pb_L_law_36.1 = true := sm_okLf_of _ 593 [596] (by decide +kernel)
theorem bk_L_law_37 : sm_okL sm_P pm_L_law pb_L_law_37.2.2.1 pb_L_law_37.2.2.2 pb_L_law_37.1 = true := sm_okLf_of _ 599 [600] (by decide +kernel)
theorem bk_L_law_38 : sm_okL sm_P pm_L_law pb_L_law_38.2.2.1 pb_L_law_38.2.2.2 pb_L_law_38.1 = true := sm_okLf_of _ 601 [602, 603, 604, 605, 606, 607, 608, 609, 610, 611, 612, 613, 614, 615, 616, 617, 618, 619, 620, 621, 622] (by decide +kernel)
theorem bk_L_law_39 : sm_okL sm_P pm_L_law pb_L_law_39.2.2.1 pb_L_law_39.2.2.2 pb_L_law_39.1 = true := sm_okLf_of _ 625 [626] (by decide +kernel)
theorem bk_L_law_40 : sm_okL sm_P pm_L_law pb_L_law_40.2.2.1 pb_L_law_40.2.2.2 pb_L_law_40.1 = true := sm_okLf_of _ 629 [630] (by decide +kernel)
theorem bk_L_law_41 : sm_okL sm_P pm_L_law pb_L_law_41.2.2.1 pb_L_law_41.2.2.2 pb_L_law_41.1 = true := sm_okLf_of _ 630 [633, 634, 635, 636, 637, 638, 639, 640, 641, 642, 643, 644, 645, 646, 647, 648, 649, 650, 651, 652, 653, 654] (by decide +kernel)
theorem bk_L_law_42 : sm_okL sm_P pm_L_law pb_L_law_42.2.2.1 pb_L_law_42.2.2.2 pb_L_law_42.1 = true := sm_okLf_of _ 657 [658] (by decide +kernel)
theorem bk_L_law_43 : sm_okL sm_P pm_L_law pb_L_law_43.2.2.1 pb_L_law_43.2.2.2 pb_L_law_43.1 = true := sm_okLf_of _ 661 [662] (by decide +kernel)
theorem bk_L_law_44 : sm_okL sm_P pm_L_law pb_L_law_44.2.2.1 pb_L_law_44.2.2.2 pb_L_law_44.1 = true := sm_okLf_of _ 662 [665] (by decide +kernel)
theorem bk_L_law_45 : sm_okL sm_P pm_L_law pb_L_law_45.2.2.1 pb_L_law_45.2.2.2 pb_L_law_45.1 = true := sm_okLf_of _ 668 [669] (by decide +kernel)
theorem bk_L_law_46 : sm_okL sm_P pm_L_law pb_L_law_46.2.2.1 pb_L_law_46.2.2.2 pb_L_law_46.1 = true := sm_okLf_of _ 670 [671, 672, 673, 674, 675, 676, 677, 678, 679, 680, 681] (by decide +kernel)
theorem bk_L_law_47 : sm_okL sm_P pm_L_law pb_L_law_47.2.2.1 pb_L_law_47.2.2.2 pb_L_law_47.1 = true := sm_okLf_of _ 684 [685] (by decide +kernel)
theorem bk_L_law_48 : sm_okL sm_P pm_L_law pb_L_law_48.2.2.1 pb_L_law_48.2.2.2 pb_L_law_48.1 = true := sm_okLf_of _ 688 [689] (by decide +kernel)
theorem bk_L_law_49 : sm_okL sm_P pm_L_law pb_L_law_49.2.2.1 pb_L_law_49.2.2.2 pb_L_law_49.1 = true := sm_okLf_of _ 689 [692, 693, 694, 695, 696, 697, 698, 699, 700, 701, 702, 703] (by decide +kernel)
theorem bk_L_law_50 : sm_okL sm_P pm_L_law pb_L_law_50.2.2.1 pb_L_law_50.2.2.2 pb_L_law_50.1 = true := sm_okLf_of _ 706 [707] (by decide +kernel)
theorem bk_L_law_51 : sm_okL sm_P pm_L_law pb_L_law_51.2.2.1 pb_L_law_51.2.2.2 pb_L_law_51.1 = true := sm_okLf_of _ 710 [711] (by decide +kernel)
theorem bk_L_law_52 : sm_okL sm_P pm_L_law pb_L_law_52.2.2.1 pb_L_law_52.2.2.2 pb_L_law_52.1 = true := sm_okLf_of _ 711 [714] (by decide +kernel)
theorem bk_L_law_53 : sm_okL sm_P pm_L_law pb_L_law_53.2.2.1 pb_L_law_53.2.2.2 pb_L_law_53.1 = true := sm_okLf_of _ 717 [718] (by decide +kernel)
theorem bk_L_law_54 : sm_okL sm_P pm_L_law pb_L_law_54.2.2.1 pb_L_law_54.2.2.2 pb_L_law_54.1 = true := sm_okLf_of _ 719 [720, 721, 722, 723, 724, 725, 726, 727, 728, 729, 730, 733, 734, 735, 736, 737, 738, 739, 740, 741, 742, 743, 744, 747] (by decide +kernel)
theorem bk_L_law_55 : sm_okL sm_P pm_L_law pb_L_law_55.2.2.1 pb_L_law_55.2.2.2 pb_L_law_55.1 = true := sm_okLf_of _ 750 [751] (by decide +kernel)
theorem bk_L_law_56 : sm_okL sm_P pm_L_law pb_L_law_56.2.2.1 pb_L_law_56.2.2.2 pb_L_law_56.1 = true := sm_okLf_of _ 752 [753, 754, 755, 756, 757, 758, 761, 762, 763, 764, 765, 766, 767, 770] (by decide +kernel)
theorem bk_L_law_57 : sm_okL sm_P pm_L_law pb_L_law_57.2.2.1 pb_L_law_57.2.2.2 pb_L_law_57.1 = true := sm_okLf_of _ 773 [774] (by decide +kernel)
theorem bk_L_law_58 : sm_okL sm_P pm_L_law pb_L_law_58.2.2.1 pb_L_law_58.2.2.2 pb_L_law_58.1 = true := sm_okLf_of _ 775 [776, 777, 778, 779, 780, 781, 782, 783, 784, 785, 786, 789, 790, 791, 792, 793, 794, 795, 796, 797, 798, 799, 800, 803] (by decide +kernel)
theorem bk_L_law_59 : sm_okL sm_P pm_L_law pb_L_law_59.2.2.1 pb_L_law_59.2.2.2 pb_L_law_59.1 = true := sm_okLf_of _ 806 [807] (by decide +kernel)
theorem bk_L_law_60 : sm_okL sm_P pm_L_law pb_L_law_60.2.2.1 pb_L_law_60.2.2.2 pb_L_law_60.1 = true := sm_okLf_of _ 808 [809, 810, 811, 812, 813, 814, 817, 818, 819, 820, 821, 822, 823, 826] (by decide +kernel)
theorem bk_L_law_61 : sm_okL sm_P pm_L_law pb_L_law_61.2.2.1 pb_L_law_61.2.2.2 pb_L_law_61.1 = true := sm_okLf_of _ 829 [830] (by decide +kernel)
theorem bk_L_law_62 : sm_okL sm_P pm_L_law pb_L_law_62.2.2.1 pb_L_law_62.2.2.2 pb_L_law_62.1 = true := sm_okLf_of _ 831 [832, 835, 836, 839] (by decide +kernel)
theorem bk_L_law_63 : sm_okL sm_P pm_L_law pb_L_law_63.2.2.1 pb_L_law_63.2.2.2 pb_L_law_63.1 = true := sm_okLf_of _ 842 [843] (by decide +kernel)
theorem bk_L_law_64 : sm_okL sm_P pm_L_law pb_L_law_64.2.2.1 pb_L_law_64.2.2.2 pb_L_law_64.1 = true := sm_okLf_of _ 844 [845, 848, 849, 852] (by decide +kernel)
theorem bk_L_law_65 : sm_okL sm_P pm_L_law pb_L_law_65.2.2.1 pb_L_law_65.2.2.2 pb_L_law_65.1 = true := sm_okLf_of _ 855 [856] (by decide +kernel)
theorem bk_L_law_66 : sm_okL sm_P pm_L_law pb_L_law_66.2.2.1 pb_L_law_66.2.2.2 pb_L_law_66.1 = true := sm_okLf_of _ 857 [858, 859, 860, 861, 862, 863, 866, 867, 868, 869, 870, 871, 872, 875] (by decide +kernel)
theorem bk_L_law_67 : sm_okL sm_P pm_L_law pb_L_law_67.2.2.1 pb_L_law_67.2.2.2 pb_L_law_67.1 = true := sm_okLf_of _ 878 [879] (by decide +kernel)
theorem bk_L_law_68 : sm_okL sm_P pm_L_law pb_L_law_68.2.2.1 pb_L_law_68.2.2.2 pb_L_law_68.1 = true := sm_okLf_of _ 880 [881, 884, 885, 888] (by decide +kernel)
theorem bk_L_law_69 : sm_okL sm_P pm_L_law pb_L_law_69.2.2.1 pb_L_law_69.2.2.2 pb_L_law_69.1 = true := sm_okLf_of _ 891 [892] (by decide +kernel)
theorem bk_L_law_70 : sm_okL sm_P pm_L_law pb_L_law_70.2.2.1 pb_L_law_70.2.2.2 pb_L_law_70.1 = true := sm_okLf_of _ 893 [894, 895, 896, 897, 898, 899, 902, 903, 904, 905, 906, 907, 908, 911] (by decide +kernel)
theorem bk_L_law_71 : sm_okL sm_P pm_L_law pb_L_law_71.2.2.1 pb_L_law_71.2.2.2 pb_L_law_71.1 = true := sm_okLf_of _ 914 [915] (by decide +kernel)
theorem bk_L_law_72 : sm_okL sm_P pm_L_law pb_L_law_72.2.2.1 pb_L_law_72.2.2.2 pb_L_law_72.1 = true := sm_okLf_of _ 916 [917, 920, 921, 924] (by decide +kernel)
theorem bk_L_law_73 : sm_okL sm_P pm_L_law pb_L_law_73.2.2.1 pb_L_law_73.2.2.2 pb_L_law_73.1 = true := sm_okLf_of _ 927 [928] (by decide +kernel)
theorem bk_L_law_74 : sm_okL sm_P pm_L_law pb_L_law_74.2.2.1 pb_L_law_74.2.2.2 pb_L_law_74.1 = true := sm_okLf_of _ 929 [930, 933, 934, 937] (by decide +kernel)
theorem bk_L_law_75 : sm_okL sm_P pm_L_law pb_L_law_75.2.2.1 pb_L_law_75.2.2.2 pb_L_law_75.1 = true := sm_okLf_of _ 940 [941] (by decide +kernel)
theorem bk_L_law_76 : sm_okL sm_P pm_L_law pb_L_law_76.2.2.1 pb_L_law_76.2.2.2 pb_L_law_76.1 = true := sm_okLf_of _ 942 [943, 944, 945, 946, 947, 948, 949, 950, 951, 952, 953, 956, 957, 958, 959, 960, 961, 962, 963, 964, 965, 966, 967, 970] (by decide +kernel)
theorem bk_L_law_77 : sm_okL sm_P pm_L_law pb_L_law_77.2.2.1 pb_L_law_77.2.2.2 pb_L_law_77.1 = true := sm_okLf_of _ 973 [974] (by decide +kernel)
theorem bk_L_law_78 : sm_okL sm_P pm_L_law pb_L_law_78.2.2.1 pb_L_law_78.2.2.2 pb_L_law_78.1 = true := sm_okLf_of _ 975 [976, 979, 980, 983] (by decide +kernel)
theorem bk_L_law_79 : sm_okL sm_P pm_L_law pb_L_law_79.2.2.1 pb_L_law_79.2.2.2 pb_L_law_79.1 = true := sm_okLf_of _ 986 [987] (by decide +kernel)
theorem bk_L_law_80 : sm_okL sm_P pm_L_law pb_L_law_80.2.2.1 pb_L_law_80.2.2.2 pb_L_law_80.1 = true := sm_okLf_of _ 988 [989, 992, 993, 996] (by decide +kernel)
theorem bk_L_law_81 : sm_okL sm_P pm_L_law pb_L_law_81.2.2.1 pb_L_law_81.2.2.2 pb_L_law_81.1 = true := sm_okLf_of _ 999 [1000] (by decide +kernel)
theorem bk_L_law_82 : sm_okL sm_P pm_L_law pb_L_law_82.2.2.1 pb_L_law_82.2.2.2 pb_L_law_82.1 = true := sm_okLf_of _ 1001 [1002, 1003, 1004, 1005, 1006, 1007, 1010, 1011, 1012, 1013, 1014, 1015, 1016, 1019] (by decide +kernel)
theorem bk_L_law_83 : sm_okL sm_P pm_L_law pb_L_law_83.2.2.1 pb_L_law_83.2.2.2 pb_L_law_83.1 = true := sm_okLf_of _ 1022 [1023] (by decide +kernel)
theorem bk_L_law_84 : sm_okL sm_P pm_L_law pb_L_law_84.2.2.1 pb_L_law_84.2.2.2 pb_L_law_84.1 = true := sm_okLf_of _ 1024 [1025, 1026, 1027, 1028, 1029, 1030, 1031, 1032, 1033, 1034, 1035, 1036, 1037, 1038, 1039, 1040, 1041, 1042, 1043, 1044, 1045, 1048, 1049, 1050, 1051, 1052, 1053, 1054, 1055, 1056, 1057, 1058, 1059, 1060, 1061, 1062, 1063, 1064, 1065, 1066] (by decide +kernel)
theorem bk_L_law_85 : sm_okL sm_P pm_L_law pb_L_law_85.2.2.1 pb_L_law_85.2.2.2 pb_L_law_85.1 = true := sm_okLf_of _ 1066 [1067, 1068, 1069, 1072] (by decide +kernel)
theorem bk_L_law_86 : sm_okL sm_P pm_L_law pb_L_law_86.2.2.1 pb_L_law_86.2.2.2 pb_L_law_86.1 = true := sm_okLf_of _ 1075 [1076] (by decide +kernel)
theorem bk_L_law_87 : sm_okL sm_P pm_L_law pb_L_law_87.2.2.1 pb_L_law_87.2.2.2 pb_L_law_87.1 = true := sm_okLf_of _ 1077 [1078, 1079, 1080, 1081, 1082, 1083, 1084, 1085, 1086, 1087, 1088, 1089, 1090, 1091, 1092, 1093] (by decide +kernel)
theorem bk_L_law_88 : sm_okL sm_P pm_L_law pb_L_law_88.2.2.1 pb_L_law_88.2.2.2 pb_L_law_88.1 = true := sm_okLf_of _ 1096 [1097] (by decide +kernel)
theorem bk_L_law_89 : sm_okL sm_P pm_L_law pb_L_law_89.2.2.1 pb_L_law_89.2.2.2 pb_L_law_89.1 = true := sm_okLf_of _ 1100 [1101] (by decide +kernel)
theorem bk_L_law_90 : sm_okL sm_P pm_L_law pb_L_law_90.2.2.1 pb_L_law_90.2.2.2 pb_L_law_90.1 = true := sm_okLf_of _ 1101 [1104, 1105, 1106, 1107, 1108, 1109, 1110, 1111, 1112, 1113, 1114, 1115, 1116, 1117, 1118, 1119, 1120] (by decide +kernel)
theorem bk_L_law_91 : sm_okL sm_P pm_L_law pb_L_law_91.2.2.1 pb_L_law_91.2.2.2 pb_L_law_91.1 = true := sm_okLf_of _ 1123 [1124] (by decide +kernel)
theorem bk_L_law_92 : sm_okL sm_P pm_L_law pb_L_law_92.2.2.1 pb_L_law_92.2.2.2 pb_L_law_92.1 = true := sm_okLf_of _ 1127 [1128] (by decide +kernel)
theorem bk_L_law_93 : sm_okL sm_P pm_L_law pb_L_law_93.2.2.1 pb_L_law_93.2.2.2 pb_L_law_93.1 = true := sm_okLf_of _ 1128 [1131] (by decide +kernel)
theorem bk_L_law_94 : sm_okL sm_P pm_L_law pb_L_law_94.2.2.1 pb_L_law_94.2.2.2 pb_L_law_94.1 = true := sm_okLf_of _ 1134 [1135] (by decide +kernel)
theorem bk_L_law_95 : sm_okL sm_P pm_L_law pb_L_law_95.2.2.1 pb_L_law_95.2.2.2 pb_L_law_95.1 = true := sm_okLf_of _ 1136 [1137, 1138, 1139, 1140, 1141, 1142, 1143, 1144, 1145, 1146, 1147] (by decide +kernel)
theorem bk_L_law_96 : sm_okL sm_P pm_L_law pb_L_law_96.2.2.1 pb_L_law_96.2.2.2 pb_L_law_96.1 = true := sm_okLf_of _ 1150 [1151] (by decide +kernel)
theorem bk_L_law_97 : sm_okL sm_P pm_L_law pb_L_law_97.2.2.1 pb_L_law_97.2.2.2 pb_L_law_97.1 = true := sm_okLf_of _ 1154 [1155] (by decide +kernel)
theorem bk_L_law_98 : sm_okL sm_P pm_L_law pb_L_law_98.2.2.1 pb_L_law_98.2.2.2 pb_L_law_98.1 = true := sm_okLf_of _ 1155 [1158, 1159, 1160, 1161, 1162, 1163, 1164, 1165, 1166, 1167, 1168, 1169] (by decide +kernel)
theorem bk_L_law_99 : sm_okL sm_P pm_L_law pb_L_law_99.2.2.1 pb_L_law_99.2.2.2 pb_L_law_99.1 = true := sm_okLf_of _ 1172 [1173] (by decide +kernel)
theorem bk_L_law_100 : sm_okL sm_P pm_L_law pb_L_law_100.2.2.1 pb_L_law_100.2.2.2 pb_L_law_100.1 = true := sm_okLf_of _ 1176 [1177] (by decide +kernel)
theorem bk_L_law_101 : sm_okL sm_P pm_L_law pb_L_law_101.2.2.1 pb_L_law_101.2.2.2 pb_L_law_101.1 = true := sm_okLf_of _ 1177 [1180] (by decide +kernel)
theorem bk_L_law_102 : sm_okL sm_P pm_L_law pb_L_law_102.2.2.1 pb_L_law_102.2.2.2 pb_L_law_102.1 = true := sm_okLf_of _ 1183 [1184] (by decide +kernel)
theorem bk_L_law_103 : sm_okL sm_P pm_L_law pb_L_law_103.2.2.1 pb_L_law_103.2.2.2 pb_L_law_103.1 = true := sm_okLf_of _ 1185 [1186, 1189, 1190, 1193] (by decide +kernel)
theorem bk_L_law_104 : sm_okL sm_P pm_L_law pb_L_law_104.2.2.1 pb_L_law_104.2.2.2 pb_L_law_104.1 = true := sm_okLf_of _ 1196 [1197] (by decide +kernel)
theorem bk_L_law_105 : sm_okL sm_P pm_L_law pb_L_law_105.2.2.1 pb_L_law_105.2.2.2 pb_L_law_105.1 = true := sm_okLf_of _ 1198 [1199, 1200, 1201, 1202, 1203, 1204, 1205, 1206, 1207, 1208, 1209, 1212, 1213, 1214, 1215, 1216, 1217, 1218, 1219, 1220, 1221, 1222, 1223, 1226] (by decide +kernel)
theorem bk_L_law_106 : sm_okL sm_P pm_L_law pb_L_law_106.2.2.1 pb_L_law_106.2.2.2 pb_L_law_106.1 = true := sm_okLf_of _ 1229 [1230] (by decide +kernel)
theorem bk_L_law_107 : sm_okL sm_P pm_L_law pb_L_law_107.2.2.1 pb_L_law_107.2.2.2 pb_L_law_107.1 = true := sm_okLf_of _ 1231 [1232, 1233, 1234, 1235, 1236, 1237, 1240, 1241, 1242, 1243, 1244, 1245, 1246, 1249] (by decide +kernel)
theorem bk_L_law_108 : sm_okL sm_P pm_L_law pb_L_law_108.2.2.1 pb_L_law_108.2.2.2 pb_L_law_108.1 = true := sm_okLf_of _ 1252 [1253] (by decide +kernel)
theorem bk_L_law_109 : sm_okL sm_P pm_L_law pb_L_law_109.2.2.1 pb_L_law_109.2.2.2 pb_L_law_109.1 = true := sm_okLf_of _ 1254 [1255, 1256, 1257, 1258, 1259, 1260, 1263, 1264, 1265, 1266, 1267, 1268, 1269, 1272] (by decide +kernel)
theorem bk_L_law_110 : sm_okL sm_P pm_L_law pb_L_law_110.2.2.1 pb_L_law_110.2.2.2 pb_L_law_110.1 = true := sm_okLf_of _ 1275 [1276] (by decide +kernel)
theorem bk_L_law_111 : sm_okL sm_P pm_L_law pb_L_law_111.2.2.1 pb_L_law_111.2.2.2 pb_L_law_111.1 = true := sm_okLf_of _ 1277 [1278, 1279, 1280, 1281, 1282, 1283, 1284, 1285, 1286, 1287, 1288, 1289, 1290, 1291, 1292, 1293, 1294, 1295, 1296, 1297, 1298, 1301, 1302, 1303, 1304, 1305, 1306, 1307, 1308, 1309, 1310, 1311, 1312, 1313, 1314, 1315, 1316, 1317, 1318, 1319] (by decide +kernel)
theorem bk_L_law_112 : sm_okL sm_P pm_L_law pb_L_law_112.2.2.1 pb_L_law_112.2.2.2 pb_L_law_112.1 = true := sm_okLf_of _ 1319 [1320, 1321, 1322, 1325] (by decide +kernel)
theorem bk_L_law_113 : sm_okL sm_P pm_L_law pb_L_law_113.2.2.1 pb_L_law_113.2.2.2 pb_L_law_113.1 = true := sm_okLf_of _ 1328 [1329] (by decide +kernel)
theorem bk_L_law_114 : sm_okL sm_P pm_L_law pb_L_law_114.2.2.1 pb_L_law_114.2.2.2 pb_L_law_114.1 = true := sm_okLf_of _ 1330 [1331, 1334, 1335, 1338] (by decide +kernel)
theorem bk_L_law_115 : sm_okL sm_P pm_L_law pb_L_law_115.2.2.1 pb_L_law_115.2.2.2 pb_L_law_115.1 = true := sm_okLf_of _ 1341 [1342] (by decide +kernel)
theorem bk_L_law_116 : sm_okL sm_P pm_L_law pb_L_law_116.2.2.1 pb_L_law_116.2.2.2 pb_L_law_116.1 = true := sm_okLf_of _ 1343 [1344, 1345, 1346, 1347, 1348, 1349, 1350, 1351, 1352, 1353, 1354, 1357, 1358, 1359, 1360, 1361, 1362, 1363, 1364, 1365, 1366, 1367, 1368, 1371] (by decide +kernel)
theorem bk_L_law_117 : sm_okL sm_P pm_L_law pb_L_law_117.2.2.1 pb_L_law_117.2.2.2 pb_L_law_117.1 = true := sm_okLf_of _ 1374 [1375] (by decide +kernel)
theorem bk_L_law_118 : sm_okL sm_P pm_L_law pb_L_law_118.2.2.1 pb_L_law_118.2.2.2 pb_L_law_118.1 = true := sm_okLf_of _ 1376 [1377, 1380, 1381, 1384] (by decide +kernel)
theorem bk_L_law_119 : sm_okL sm_P pm_L_law pb_L_law_119.2.2.1 pb_L_law_119.2.2.2 pb_L_law_119.1 = true := sm_okLf_of _ 1387 [1388] (by decide +kernel)
theorem bk_L_law_120 : sm_okL sm_P pm_L_law pb_L_law_120.2.2.1 pb_L_law_120.2.2.2 pb_L_law_120.1 = true := sm_okLf_of _ 1389 [1390, 1391, 1392, 1393, 1394, 1395, 1396, 1397, 1398, 1399, 1400, 1401, 1402, 1403, 1404, 1405] (by decide +kernel)
theorem bk_L_law_121 : sm_okL sm_P pm_L_law pb_L_law_121.2.2.1 pb_L_law_121.2.2.2 pb_L_law_121.1 = true := sm_okLf_of _ 1408 [1409] (by decide +kernel)
theorem bk_L_law_122 : sm_okL sm_P pm_L_law pb_L_law_122.2.2.1 pb_L_law_122.2.2.2 pb_L_law_122.1 = true := sm_okLf_of _ 1412 [1413] (by decide +kernel)
theorem bk_L_law_123 : sm_okL sm_P pm_L_law pb_L_law_123.2.2.1 pb_L_law_123.2.2.2 pb_L_law_123.1 = true := sm_okLf_of _ 1413 [1416, 1417, 1418, 1419, 1420, 1421, 1422, 1423, 1424, 1425, 1426, 1427, 1428, 1429, 1430, 1431, 1432] (by decide +kernel)
theorem bk_L_law_124 : sm_okL sm_P pm_L_law pb_L_law_124.2.2.1 pb_L_law_124.2.2.2 pb_L_law_124.1 = true := sm_okLf_of _ 1435 [1436] (by decide +kernel)
theorem bk_L_law_125 : sm_okL sm_P pm_L_law pb_L_law_125.2.2.1 pb_L_law_125.2.2.2 pb_L_law_125.1 = true := sm_okLf_of _ 1439 [1440] (by decide +kernel)
theorem bk_L_law_126 : sm_okL sm_P pm_L_law pb_L_law_126.2.2.1 pb_L_law_126.2.2.2 pb_L_law_126.1 = true := sm_okLf_of _ 1440 [1443] (by decide +kernel)
theorem bk_L_law_127 : sm_okL sm_P pm_L_law pb_L_law_127.2.2.1 pb_L_law_127.2.2.2 pb_L_law_127.1 = true := sm_okLf_of _ 1446 [1447] (by decide +kernel)
theorem bk_L_law_128 : sm_okL sm_P pm_L_law pb_L_law_128.2.2.1 pb_L_law_128.2.2.2 pb_L_law_128.1 = true := sm_okLf_of _ 1448 [1449, 1450, 1451, 1452, 1453, 1454, 1455, 1456, 1457, 1458, 1459, 1460, 1461, 1462, 1463, 1464, 1467, 1468, 1469, 1470, 1471, 1472, 1473, 1474, 1475, 1476, 1477, 1478, 1479, 1480, 1481, 1482, 1483, 1486] (by decide +kernel)
theorem bk_L_law_129 : sm_okL sm_P pm_L_law pb_L_law_129.2.2.1 pb_L_law_129.2.2.2 pb_L_law_129.1 = true := sm_okLf_of _ 1489 [1490] (by decide +kernel)
theorem bk_L_law_130 : sm_okL sm_P pm_L_law pb_L_law_130.2.2.1 pb_L_law_130.2.2.2 pb_L_law_130.1 = true := sm_okLf_of _ 1491 [1492, 1495, 1496, 1499] (by decide +kernel)
theorem bk_L_law_131 : sm_okL sm_P pm_L_law pb_L_law_131.2.2.1 pb_L_law_131.2.2.2 pb_L_law_131.1 = true := sm_okLf_of _ 1502 [1503] (by decide +kernel)
theorem bk_L_law_132 : sm_okL sm_P pm_L_law pb_L_law_132.2.2.1 pb_L_law_132.2.2.2 pb_L_law_132.1 = true := sm_okLf_of _ 1504 [1505, 1506, 1507, 1508, 1509, 1510, 1513, 1514, 1515, 1516, 1517, 1518, 1519, 1522] (by decide +kernel)
theorem bk_L_law_133 : sm_okL sm_P pm_L_law pb_L_law_133.2.2.1 pb_L_law_133.2.2.2 pb_L_law_133.1 = true := sm_okLf_of _ 1525 [1526] (by decide +kernel)
theorem bk_L_law_134 : sm_okL sm_P pm_L_law pb_L_law_134.2.2.1 pb_L_law_134.2.2.2 pb_L_law_134.1 = true := sm_okLf_of _ 1527 [1528, 1529, 1530, 1531, 1532, 1533, 1536, 1537, 1538, 1539, 1540, 1541, 1542, 1545] (by decide +kernel)
theorem bk_L_law_135 : sm_okL sm_P pm_L_law pb_L_law_135.2.2.1 pb_L_law_135.2.2.2 pb_L_law_135.1 = true := sm_okLf_of _ 1548 [1549] (by decide +kernel)
theorem bk_L_law_136 : sm_okL sm_P pm_L_law pb_L_law_136.2.2.1 pb_L_law_136.2.2.2 pb_L_law_136.1 = true := sm_okLf_of _ 1550 [1551, 1554, 1555, 1558] (by decide +kernel)
theorem bk_L_law_137 : sm_okL sm_P pm_L_law pb_L_law_137.2.2.1 pb_L_law_137.2.2.2 pb_L_law_137.1 = true := sm_okLf_of _ 1561 [1562] (by decide +kernel)
theorem bk_L_law_138 : sm_okL sm_P pm_L_law pb_L_law_138.2.2.1 pb_L_law_138.2.2.2 pb_L_law_138.1 = true := sm_okLf_of _ 1563 [1564, 1565, 1566, 1567, 1568, 1569, 1570, 1571, 1572, 1573, 1574, 1577, 1578, 1579, 1580, 1581, 1582, 1583, 1584, 1585, 1586, 1587, 1588, 1591] (by decide +kernel)
theorem bk_L_law_139 : sm_okL sm_P pm_L_law pb_L_law_139.2.2.1 pb_L_law_139.2.2.2 pb_L_law_139.1 = true := sm_okLf_of _ 1594 [1595] (by decide +kernel)
theorem bk_L_law_140 : sm_okL sm_P pm_L_law pb_L_law_140.2.2.1 pb_L_law_140.2.2.2 pb_L_law_140.1 = true := sm_okLf_of _ 1596 [1597, 1598, 1599, 1600, 1601, 1602, 1605, 1606, 1607, 1608, 1609, 1610, 1611, 1614] (by decide +kernel)
theorem bk_L_law_141 : sm_okL sm_P pm_L_law pb_L_law_141.2.2.1 pb_L_law_141.2.2.2 pb_L_law_141.1 = true := sm_okLf_of _ 1617 [1618] (by decide +kernel)
theorem bk_L_law_142 : sm_okL sm_P pm_L_law pb_L_law_142.2.2.1 pb_L_law_142.2.2.2 pb_L_law_142.1 = true := sm_okLf_of _ 1619 [1622] (by decide +kernel)
theorem bk_L_law_143 : sm_okL sm_P pm_L_law pb_L_law_143.2.2.1 pb_L_law_143.2.2.2 pb_L_law_143.1 = true := sm_okLf_of _ 1625 [1626] (by decide +kernel)
theorem om_L_law : sm_okM sm_P pm_L_law = true := sm_okMg_of (by decide +kernel) (List.forall_mem_cons.mpr ⟨bk_L_law_0, List.forall_mem_cons.mpr ⟨bk_L_law_1, List.forall_mem_cons.mpr ⟨bk_L_law_2, List.forall_mem_cons.mpr ⟨bk_L_law_3, List.forall_mem_cons.mpr ⟨bk_L_law_4, List.forall_mem_cons.mpr ⟨bk_L_law_5, List.forall_mem_cons.mpr ⟨bk_L_law_6, List.forall_mem_cons.mpr ⟨bk_L_law_7, List.forall_mem_cons.mpr ⟨bk_L_law_8, List.forall_mem_cons.mpr ⟨bk_L_law_9, List.forall_mem_cons.mpr ⟨bk_L_law_10, List.forall_mem_cons.mpr ⟨bk_L_law_11, List.forall_mem_cons.mpr ⟨bk_L_law_12, List.forall_mem_cons.mpr ⟨bk_L_law_13, List.forall_mem_cons.mpr ⟨bk_L_law_14, List.forall_mem_cons.mpr ⟨bk_L_law_15, List.forall_mem_cons.mpr ⟨bk_L_law_16, List.forall_mem_cons.mpr ⟨bk_L_law_17, List.forall_mem_cons.mpr ⟨bk_L_law_18, List.forall_mem_cons.mpr ⟨bk_L_law_19, List.forall_mem_cons.mpr ⟨bk_L_law_20, List.forall_mem_cons.mpr ⟨bk_L_law_21, List.forall_mem_cons.mpr ⟨bk_L_law_22, List.forall_mem_cons.mpr ⟨bk_L_law_23, List.forall_mem_cons.mpr ⟨bk_L_law_24, List.forall_mem_cons.mpr ⟨bk_L_law_25, List.forall_mem_cons.mpr ⟨bk_L_law_26, List.forall_mem_cons.mpr ⟨bk_L_law_27, List.forall_mem_cons.mpr ⟨bk_L_law_28, List.forall_mem_cons.mpr ⟨bk_L_law_29, List.forall_mem_cons.mpr ⟨bk_L_law_30, List.forall_mem_cons.mpr ⟨bk_L_law_31, List.forall_mem_cons.mpr ⟨bk_L_law_32, List.forall_mem_cons.mpr ⟨bk_L_law_33, List.forall_mem_cons.mpr ⟨bk_L_law_34, List.forall_mem_cons.mpr ⟨bk_L_law_35, List.forall_mem_cons.mpr ⟨bk_L_law_36, List.forall_mem_cons.mpr ⟨bk_L_law_37, List.forall_mem_cons.mpr ⟨bk_L_law_38, List.forall_mem_cons.mpr ⟨bk_L_law_39, List.forall_mem_cons.mpr ⟨bk_L_law_40, List.forall_mem_cons.mpr ⟨bk_L_law_41, List.forall_mem_cons.mpr ⟨bk_L_law_42, List.forall_mem_cons.mpr ⟨bk_L_law_43, List.forall_mem_cons.mpr ⟨bk_L_law_44, List.forall_mem_cons.mpr ⟨bk_L_law_45, List.forall_mem_cons.mpr ⟨bk_L_law_46, List.forall_mem_cons.mpr ⟨bk_L_law_47, List.forall_mem_cons.mpr ⟨bk_L_law_48, List.forall_mem_cons.mpr ⟨bk_L_law_49, List.forall_mem_cons.mpr ⟨bk_L_law_50, List.forall_mem_cons.mpr ⟨bk_L_law_51, List.forall_mem_cons.mpr ⟨bk_L_law_52, List.forall_mem_cons.mpr ⟨bk_L_law_53, List.forall_mem_cons.mpr ⟨bk_L_law_54, List.forall_mem_cons.mpr ⟨bk_L_law_55, List.forall_mem_cons.mpr ⟨bk_L_law_56, List.forall_mem_cons.mpr ⟨bk_L_law_57, List.forall_mem_cons.mpr ⟨bk_L_law_58, List.forall_mem_cons.mpr ⟨bk_L_law_59, List.forall_mem_cons.mpr ⟨bk_L_law_60, List.forall_mem_cons.mpr ⟨bk_L_law_61, List.forall_mem_cons.mpr ⟨bk_L_law_62, List.forall_mem_cons.mpr ⟨bk_L_law_63, List.forall_mem_cons.mpr ⟨bk_L_law_64, List.forall_mem_cons.mpr ⟨bk_L_law_65, List.forall_mem_cons.mpr ⟨bk_L_law_66, List.forall_mem_cons.mpr ⟨bk_L_law_67, List.forall_mem_cons.mpr ⟨bk_L_law_68, List.forall_mem_cons.mpr ⟨bk_L_law_69, List.forall_mem_cons.mpr ⟨bk_L_law_70, List.forall_mem_cons.mpr ⟨bk_L_law_71, List.forall_mem_cons.mpr ⟨bk_L_law_72, List.forall_mem_cons.mpr ⟨bk_L_law_73, List.forall_mem_cons.mpr ⟨bk_L_law_74, List.forall_mem_cons.mpr ⟨bk_L_law_75, List.forall_mem_cons.mpr ⟨bk_L_law_76, List.forall_mem_cons.mpr ⟨bk_L_law_77, List.forall_mem_cons.mpr ⟨bk_L_law_78, List.forall_mem_cons.mpr ⟨bk_L_law_79, List.forall_mem_cons.mpr ⟨bk_L_law_80, List.forall_mem_cons.mpr ⟨bk_L_law_81, List.forall_mem_cons.mpr ⟨bk_L_law_82, List.forall_mem_cons.mpr ⟨bk_L_law_83, List.forall_mem_cons.mpr ⟨bk_L_law_84, List.forall_mem_cons.mpr ⟨bk_L_law_85, List.forall_mem_cons.mpr ⟨bk_L_law_86, List.forall_mem_cons.mpr ⟨bk_L_law_87, List.forall_mem_cons.mpr ⟨bk_L_law_88, List.forall_mem_cons.mpr ⟨bk_L_law_89, List.forall_mem_cons.mpr ⟨bk_L_law_90, List.forall_mem_cons.mpr ⟨bk_L_law_91, List.forall_mem_cons.mpr ⟨bk_L_law_92, List.forall_mem_cons.mpr ⟨bk_L_law_93, List.forall_mem_cons.mpr ⟨bk_L_law_94, List.forall_mem_cons.mpr ⟨bk_L_law_95, List.forall_mem_cons.mpr ⟨bk_L_law_96, List.forall_mem_cons.mpr ⟨bk_L_law_97, List.forall_mem_cons.mpr ⟨bk_L_law_98, List.forall_mem_cons.mpr ⟨bk_L_law_99, List.forall_mem_cons.mpr ⟨bk_L_law_100, List.forall_mem_cons.mpr ⟨bk_L_law_101, List.forall_mem_cons.mpr ⟨bk_L_law_102, List.forall_mem_cons.mpr ⟨bk_L_law_103, List.forall_mem_cons.mpr ⟨bk_L_law_104, List.forall_mem_cons.mpr ⟨bk_L_law_105, List.forall_mem_cons.mpr ⟨bk_L_law_106, List.forall_mem_cons.mpr ⟨bk_L_law_107, List.forall_mem_cons.mpr ⟨bk_L_law_108, List.forall_mem_cons.mpr ⟨bk_L_law_109, List.forall_mem_cons.mpr ⟨bk_L_law_110, List.forall_mem_cons.mpr ⟨bk_L_law_111, List.forall_mem_cons.mpr ⟨bk_L_law_112, List.forall_mem_cons.mpr ⟨bk_L_law_113, List.forall_mem_cons.mpr ⟨bk_L_law_114, List.forall_mem_cons.mpr ⟨bk_L_law_115, List.forall_mem_cons.mpr ⟨bk_L_law_116, List.forall_mem_cons.mpr ⟨bk_L_law_117, List.forall_mem_cons.mpr ⟨bk_L_law_118, List.forall_mem_cons.mpr ⟨bk_L_law_119, List.forall_mem_cons.mpr ⟨bk_L_law_120, List.forall_mem_cons.mpr ⟨bk_L_law_121, List.forall_mem_cons.mpr ⟨bk_L_law_122, List.forall_mem_cons.mpr ⟨bk_L_law_123, List.forall_mem_cons.mpr ⟨bk_L_law_124, List.forall_mem_cons.mpr ⟨bk_L_law_125, List.forall_mem_cons.mpr ⟨bk_L_law_126, List.forall_mem_cons.mpr ⟨bk_L_law_127, List.forall_mem_cons.mpr ⟨bk_L_law_128, List.forall_mem_cons.mpr ⟨bk_L_law_129, List.forall_mem_cons.mpr ⟨bk_L_law_130, List.forall_mem_cons.mpr ⟨bk_L_law_131, List.forall_mem_cons.mpr ⟨bk_L_law_132, List.forall_mem_cons.mpr ⟨bk_L_law_133, List.forall_mem_cons.mpr ⟨bk_L_law_134, List.forall_mem_cons.mpr ⟨bk_L_law_135, List.forall_mem_cons.mpr ⟨bk_L_law_136, List.forall_mem_cons.mpr ⟨bk_L_law_137, List.forall_mem_cons.mpr ⟨bk_L_law_138, List.forall_mem_cons.mpr ⟨bk_L_law_139, List.forall_mem_cons.mpr ⟨bk_L_law_140, List.forall_mem_cons.mpr ⟨bk_L_law_141, List.forall_mem_cons.mpr ⟨bk_L_law_142, List.forall_mem_cons.mpr ⟨bk_L_law_143, fun _ h => absurd h List.not_mem_nil⟩⟩⟩⟩⟩⟩⟩⟩⟩⟩⟩⟩⟩⟩⟩⟩⟩⟩⟩⟩⟩⟩⟩⟩⟩⟩⟩⟩⟩⟩⟩⟩⟩⟩⟩⟩⟩⟩⟩⟩⟩⟩⟩⟩⟩⟩⟩⟩⟩⟩⟩⟩⟩⟩⟩⟩⟩⟩⟩⟩⟩⟩⟩⟩⟩⟩⟩⟩⟩⟩⟩⟩⟩⟩⟩⟩⟩⟩⟩⟩⟩⟩⟩⟩⟩⟩⟩⟩⟩⟩⟩⟩⟩⟩⟩⟩⟩⟩⟩⟩⟩⟩⟩⟩⟩⟩⟩⟩⟩⟩⟩⟩⟩⟩⟩⟩⟩⟩⟩⟩⟩⟩⟩⟩⟩⟩⟩⟩⟩⟩⟩⟩⟩⟩⟩⟩⟩⟩⟩⟩⟩⟩⟩⟩)
theorem ok_L_law : sm_OK sm_P pm_L_law := ⟨om_L_law, fun h => absurd h (by decide)⟩
end
section
/-! all of them -/
theorem sm_ok_0 : ∀ M ∈ sm_prog_0, sm_OK sm_P M := List.forall_mem_cons.mpr ⟨ok_X0_answer, List.forall_mem_cons.mpr ⟨ok_X0_answered, List.forall_mem_cons.mpr ⟨ok_X0_answersOf, List.forall_mem_cons.mpr ⟨ok_X0_countLeft, List.forall_mem_cons.mpr ⟨ok_X0_countStates, List.forall_mem_cons.mpr ⟨ok_X0_firstQuestion, List.forall_mem_cons.mpr ⟨ok_X0_init, List.forall_mem_cons.mpr ⟨ok_X0_isLeft, List.forall_mem_cons.mpr ⟨ok_X0_leftWith, List.forall_mem_cons.mpr ⟨ok_X0_neededWith, List.forall_mem_cons.mpr ⟨ok_X0_spread, List.forall_mem_cons.mpr ⟨ok_X0_workOut, List.forall_mem_cons.mpr ⟨ok_X10_addPath, List.forall_mem_cons.mpr ⟨ok_X10_allBits, List.forall_mem_cons.mpr ⟨ok_X10_clear, List.forall_mem_cons.mpr ⟨ok_X10_findMoves, fun _ h => absurd h List.not_mem_nil⟩⟩⟩⟩⟩⟩⟩⟩⟩⟩⟩⟩⟩⟩⟩⟩
theorem sm_ok_1 : ∀ M ∈ sm_prog_1, sm_OK sm_P M := List.forall_mem_cons.mpr ⟨ok_X10_findWalks, List.forall_mem_cons.mpr ⟨ok_X10_firstSpan, List.forall_mem_cons.mpr ⟨ok_X10_init, List.forall_mem_cons.mpr ⟨ok_X10_partsOf, List.forall_mem_cons.mpr ⟨ok_X10_trustOf, List.forall_mem_cons.mpr ⟨ok_X10_walkBetween, List.forall_mem_cons.mpr ⟨ok_X11_alone, List.forall_mem_cons.mpr ⟨ok_X11_ask, List.forall_mem_cons.mpr ⟨ok_X11_back, List.forall_mem_cons.mpr ⟨ok_X11_bears, List.forall_mem_cons.mpr ⟨ok_X11_been, List.forall_mem_cons.mpr ⟨ok_X11_breaks, List.forall_mem_cons.mpr ⟨ok_X11_can, List.forall_mem_cons.mpr ⟨ok_X11_cheapest, List.forall_mem_cons.mpr ⟨ok_X11_choice, List.forall_mem_cons.mpr ⟨ok_X11_could, fun _ h => absurd h List.not_mem_nil⟩⟩⟩⟩⟩⟩⟩⟩⟩⟩⟩⟩⟩⟩⟩⟩
theorem sm_ok_2 : ∀ M ∈ sm_prog_2, sm_OK sm_P M := List.forall_mem_cons.mpr ⟨ok_X11_count, List.forall_mem_cons.mpr ⟨ok_X11_doubt, List.forall_mem_cons.mpr ⟨ok_X11_drawn, List.forall_mem_cons.mpr ⟨ok_X11_ends, List.forall_mem_cons.mpr ⟨ok_X11_feed, List.forall_mem_cons.mpr ⟨ok_X11_fewer, List.forall_mem_cons.mpr ⟨ok_X11_first, List.forall_mem_cons.mpr ⟨ok_X11_forced, List.forall_mem_cons.mpr ⟨ok_X11_gap, List.forall_mem_cons.mpr ⟨ok_X11_give, List.forall_mem_cons.mpr ⟨ok_X11_givingUp, List.forall_mem_cons.mpr ⟨ok_X11_givingUps, List.forall_mem_cons.mpr ⟨ok_X11_goWithGuest, List.forall_mem_cons.mpr ⟨ok_X11_goes, List.forall_mem_cons.mpr ⟨ok_X11_hand, List.forall_mem_cons.mpr ⟨ok_X11_hour, fun _ h => absurd h List.not_mem_nil⟩⟩⟩⟩⟩⟩⟩⟩⟩⟩⟩⟩⟩⟩⟩⟩
theorem sm_ok_3 : ∀ M ∈ sm_prog_3, sm_OK sm_P M := List.forall_mem_cons.mpr ⟨ok_X11_init, List.forall_mem_cons.mpr ⟨ok_X11_isDoubted, List.forall_mem_cons.mpr ⟨ok_X11_isGoneThrough, List.forall_mem_cons.mpr ⟨ok_X11_isKept, List.forall_mem_cons.mpr ⟨ok_X11_isMinute, List.forall_mem_cons.mpr ⟨ok_X11_isPerson, List.forall_mem_cons.mpr ⟨ok_X11_isPlace, List.forall_mem_cons.mpr ⟨ok_X11_isSay, List.forall_mem_cons.mpr ⟨ok_X11_isSaying, List.forall_mem_cons.mpr ⟨ok_X11_isTime, List.forall_mem_cons.mpr ⟨ok_X11_keep, List.forall_mem_cons.mpr ⟨ok_X11_kept, List.forall_mem_cons.mpr ⟨ok_X11_leastGive, List.forall_mem_cons.mpr ⟨ok_X11_left, List.forall_mem_cons.mpr ⟨ok_X11_levelOf, List.forall_mem_cons.mpr ⟨ok_X11_more, fun _ h => absurd h List.not_mem_nil⟩⟩⟩⟩⟩⟩⟩⟩⟩⟩⟩⟩⟩⟩⟩⟩
theorem sm_ok_4 : ∀ M ∈ sm_prog_4, sm_OK sm_P M := List.forall_mem_cons.mpr ⟨ok_X11_move, List.forall_mem_cons.mpr ⟨ok_X11_next, List.forall_mem_cons.mpr ⟨ok_X11_pick, List.forall_mem_cons.mpr ⟨ok_X11_place, List.forall_mem_cons.mpr ⟨ok_X11_plan, List.forall_mem_cons.mpr ⟨ok_X11_planTo, List.forall_mem_cons.mpr ⟨ok_X11_price, List.forall_mem_cons.mpr ⟨ok_X11_putFour, List.forall_mem_cons.mpr ⟨ok_X11_quarrel, List.forall_mem_cons.mpr ⟨ok_X11_quarrels, List.forall_mem_cons.mpr ⟨ok_X11_read, List.forall_mem_cons.mpr ⟨ok_X11_ring, List.forall_mem_cons.mpr ⟨ok_X11_ringAt, List.forall_mem_cons.mpr ⟨ok_X11_set, List.forall_mem_cons.mpr ⟨ok_X11_setWays, List.forall_mem_cons.mpr ⟨ok_X11_slack, fun _ h => absurd h List.not_mem_nil⟩⟩⟩⟩⟩⟩⟩⟩⟩⟩⟩⟩⟩⟩⟩⟩
theorem sm_ok_5 : ∀ M ∈ sm_prog_5, sm_OK sm_P M := List.forall_mem_cons.mpr ⟨ok_X11_stale, List.forall_mem_cons.mpr ⟨ok_X11_stands, List.forall_mem_cons.mpr ⟨ok_X11_tried, List.forall_mem_cons.mpr ⟨ok_X11_walk, List.forall_mem_cons.mpr ⟨ok_X11_ways, List.forall_mem_cons.mpr ⟨ok_X11_whereAt, List.forall_mem_cons.mpr ⟨ok_X12_alone, List.forall_mem_cons.mpr ⟨ok_X12_answers, List.forall_mem_cons.mpr ⟨ok_X12_appends, List.forall_mem_cons.mpr ⟨ok_X12_ask, List.forall_mem_cons.mpr ⟨ok_X12_asks, List.forall_mem_cons.mpr ⟨ok_X12_atMost, List.forall_mem_cons.mpr ⟨ok_X12_back, List.forall_mem_cons.mpr ⟨ok_X12_bears, List.forall_mem_cons.mpr ⟨ok_X12_bearsSpan, List.forall_mem_cons.mpr ⟨ok_X12_been, fun _ h => absurd h List.not_mem_nil⟩⟩⟩⟩⟩⟩⟩⟩⟩⟩⟩⟩⟩⟩⟩⟩
theorem sm_ok_6 : ∀ M ∈ sm_prog_6, sm_OK sm_P M := List.forall_mem_cons.mpr ⟨ok_X12_begins, List.forall_mem_cons.mpr ⟨ok_X12_between, List.forall_mem_cons.mpr ⟨ok_X12_bits, List.forall_mem_cons.mpr ⟨ok_X12_bound, List.forall_mem_cons.mpr ⟨ok_X12_breaks, List.forall_mem_cons.mpr ⟨ok_X12_byteAt, List.forall_mem_cons.mpr ⟨ok_X12_can, List.forall_mem_cons.mpr ⟨ok_X12_changes, List.forall_mem_cons.mpr ⟨ok_X12_cheapest, List.forall_mem_cons.mpr ⟨ok_X12_choice, List.forall_mem_cons.mpr ⟨ok_X12_choiceOf, List.forall_mem_cons.mpr ⟨ok_X12_choices, List.forall_mem_cons.mpr ⟨ok_X12_chooses, List.forall_mem_cons.mpr ⟨ok_X12_copies, List.forall_mem_cons.mpr ⟨ok_X12_could, List.forall_mem_cons.mpr ⟨ok_X12_count, fun _ h => absurd h List.not_mem_nil⟩⟩⟩⟩⟩⟩⟩⟩⟩⟩⟩⟩⟩⟩⟩⟩
theorem sm_ok_7 : ∀ M ∈ sm_prog_7, sm_OK sm_P M := List.forall_mem_cons.mpr ⟨ok_X12_cut, List.forall_mem_cons.mpr ⟨ok_X12_doubt, List.forall_mem_cons.mpr ⟨ok_X12_drawn, List.forall_mem_cons.mpr ⟨ok_X12_ends, List.forall_mem_cons.mpr ⟨ok_X12_fail, List.forall_mem_cons.mpr ⟨ok_X12_feed, List.forall_mem_cons.mpr ⟨ok_X12_fewer, List.forall_mem_cons.mpr ⟨ok_X12_first, List.forall_mem_cons.mpr ⟨ok_X12_forced, List.forall_mem_cons.mpr ⟨ok_X12_gap, List.forall_mem_cons.mpr ⟨ok_X12_gapNow, List.forall_mem_cons.mpr ⟨ok_X12_give, List.forall_mem_cons.mpr ⟨ok_X12_gives, List.forall_mem_cons.mpr ⟨ok_X12_givingUp, List.forall_mem_cons.mpr ⟨ok_X12_givingUps, List.forall_mem_cons.mpr ⟨ok_X12_goes, fun _ h => absurd h List.not_mem_nil⟩⟩⟩⟩⟩⟩⟩⟩⟩⟩⟩⟩⟩⟩⟩⟩
theorem sm_ok_8 : ∀ M ∈ sm_prog_8, sm_OK sm_P M := List.forall_mem_cons.mpr ⟨ok_X12_goesAll, List.forall_mem_cons.mpr ⟨ok_X12_goesOn, List.forall_mem_cons.mpr ⟨ok_X12_hand, List.forall_mem_cons.mpr ⟨ok_X12_hasWay, List.forall_mem_cons.mpr ⟨ok_X12_holdsSpan, List.forall_mem_cons.mpr ⟨ok_X12_hour, List.forall_mem_cons.mpr ⟨ok_X12_in, List.forall_mem_cons.mpr ⟨ok_X12_init, List.forall_mem_cons.mpr ⟨ok_X12_is, List.forall_mem_cons.mpr ⟨ok_X12_isDigit, List.forall_mem_cons.mpr ⟨ok_X12_isLeft, List.forall_mem_cons.mpr ⟨ok_X12_isLetter, List.forall_mem_cons.mpr ⟨ok_X12_isMinute, List.forall_mem_cons.mpr ⟨ok_X12_isPerson, List.forall_mem_cons.mpr ⟨ok_X12_isSaying, List.forall_mem_cons.mpr ⟨ok_X12_isTime, fun _ h => absurd h List.not_mem_nil⟩⟩⟩⟩⟩⟩⟩⟩⟩⟩⟩⟩⟩⟩⟩⟩
theorem sm_ok_9 : ∀ M ∈ sm_prog_9, sm_OK sm_P M := List.forall_mem_cons.mpr ⟨ok_X12_itemAt, List.forall_mem_cons.mpr ⟨ok_X12_keep, List.forall_mem_cons.mpr ⟨ok_X12_kept, List.forall_mem_cons.mpr ⟨ok_X12_known, List.forall_mem_cons.mpr ⟨ok_X12_knows, List.forall_mem_cons.mpr ⟨ok_X12_lays, List.forall_mem_cons.mpr ⟨ok_X12_laysSet, List.forall_mem_cons.mpr ⟨ok_X12_left, List.forall_mem_cons.mpr ⟨ok_X12_leftOf, List.forall_mem_cons.mpr ⟨ok_X12_lists, List.forall_mem_cons.mpr ⟨ok_X12_meets, List.forall_mem_cons.mpr ⟨ok_X12_meetsAll, List.forall_mem_cons.mpr ⟨ok_X12_more, List.forall_mem_cons.mpr ⟨ok_X12_move, List.forall_mem_cons.mpr ⟨ok_X12_must, List.forall_mem_cons.mpr ⟨ok_X12_named, fun _ h => absurd h List.not_mem_nil⟩⟩⟩⟩⟩⟩⟩⟩⟩⟩⟩⟩⟩⟩⟩⟩
theorem sm_ok_10 : ∀ M ∈ sm_prog_10, sm_OK sm_P M := List.forall_mem_cons.mpr ⟨ok_X12_next, List.forall_mem_cons.mpr ⟨ok_X12_notes, List.forall_mem_cons.mpr ⟨ok_X12_number, List.forall_mem_cons.mpr ⟨ok_X12_oneMore, List.forall_mem_cons.mpr ⟨ok_X12_openAt, List.forall_mem_cons.mpr ⟨ok_X12_pick, List.forall_mem_cons.mpr ⟨ok_X12_pickedStands, List.forall_mem_cons.mpr ⟨ok_X12_place, List.forall_mem_cons.mpr ⟨ok_X12_plan, List.forall_mem_cons.mpr ⟨ok_X12_planOf, List.forall_mem_cons.mpr ⟨ok_X12_plans, List.forall_mem_cons.mpr ⟨ok_X12_price, List.forall_mem_cons.mpr ⟨ok_X12_put, List.forall_mem_cons.mpr ⟨ok_X12_quarrel, List.forall_mem_cons.mpr ⟨ok_X12_quarrels, List.forall_mem_cons.mpr ⟨ok_X12_read, fun _ h => absurd h List.not_mem_nil⟩⟩⟩⟩⟩⟩⟩⟩⟩⟩⟩⟩⟩⟩⟩⟩
theorem sm_ok_11 : ∀ M ∈ sm_prog_11, sm_OK sm_P M := List.forall_mem_cons.mpr ⟨ok_X12_ring, List.forall_mem_cons.mpr ⟨ok_X12_ringAt, List.forall_mem_cons.mpr ⟨ok_X12_rings, List.forall_mem_cons.mpr ⟨ok_X12_searches, List.forall_mem_cons.mpr ⟨ok_X12_sees, List.forall_mem_cons.mpr ⟨ok_X12_set, List.forall_mem_cons.mpr ⟨ok_X12_setWays, List.forall_mem_cons.mpr ⟨ok_X12_sets, List.forall_mem_cons.mpr ⟨ok_X12_sign, List.forall_mem_cons.mpr ⟨ok_X12_slack, List.forall_mem_cons.mpr ⟨ok_X12_stands, List.forall_mem_cons.mpr ⟨ok_X12_sureOnes, List.forall_mem_cons.mpr ⟨ok_X12_tell, List.forall_mem_cons.mpr ⟨ok_X12_tellAll, List.forall_mem_cons.mpr ⟨ok_X12_tellName, List.forall_mem_cons.mpr ⟨ok_X12_tellOpen, fun _ h => absurd h List.not_mem_nil⟩⟩⟩⟩⟩⟩⟩⟩⟩⟩⟩⟩⟩⟩⟩⟩
theorem sm_ok_12 : ∀ M ∈ sm_prog_12, sm_OK sm_P M := List.forall_mem_cons.mpr ⟨ok_X12_tellQuestion, List.forall_mem_cons.mpr ⟨ok_X12_tellSaying, List.forall_mem_cons.mpr ⟨ok_X12_tellSpan, List.forall_mem_cons.mpr ⟨ok_X12_tellTime, List.forall_mem_cons.mpr ⟨ok_X12_tellWay, List.forall_mem_cons.mpr ⟨ok_X12_token, List.forall_mem_cons.mpr ⟨ok_X12_toldItem, List.forall_mem_cons.mpr ⟨ok_X12_tried, List.forall_mem_cons.mpr ⟨ok_X12_trustIn, List.forall_mem_cons.mpr ⟨ok_X12_undoubted, List.forall_mem_cons.mpr ⟨ok_X12_walk, List.forall_mem_cons.mpr ⟨ok_X12_walks, List.forall_mem_cons.mpr ⟨ok_X12_ways, List.forall_mem_cons.mpr ⟨ok_X12_word, List.forall_mem_cons.mpr ⟨ok_X12_wrong, List.forall_mem_cons.mpr ⟨ok_X1_addTry, fun _ h => absurd h List.not_mem_nil⟩⟩⟩⟩⟩⟩⟩⟩⟩⟩⟩⟩⟩⟩⟩⟩
theorem sm_ok_13 : ∀ M ∈ sm_prog_13, sm_OK sm_P M := List.forall_mem_cons.mpr ⟨ok_X1_addWay, List.forall_mem_cons.mpr ⟨ok_X1_choiceOf, List.forall_mem_cons.mpr ⟨ok_X1_init, List.forall_mem_cons.mpr ⟨ok_X1_tryOf, List.forall_mem_cons.mpr ⟨ok_X2_addItem, List.forall_mem_cons.mpr ⟨ok_X2_begin, List.forall_mem_cons.mpr ⟨ok_X2_bind, List.forall_mem_cons.mpr ⟨ok_X2_bring, List.forall_mem_cons.mpr ⟨ok_X2_choicesOf, List.forall_mem_cons.mpr ⟨ok_X2_distance, List.forall_mem_cons.mpr ⟨ok_X2_goThrough, List.forall_mem_cons.mpr ⟨ok_X2_host, List.forall_mem_cons.mpr ⟨ok_X2_init_6925, List.forall_mem_cons.mpr ⟨ok_X2_init_7540, List.forall_mem_cons.mpr ⟨ok_X2_init_9676, List.forall_mem_cons.mpr ⟨ok_X2_layBase, fun _ h => absurd h List.not_mem_nil⟩⟩⟩⟩⟩⟩⟩⟩⟩⟩⟩⟩⟩⟩⟩⟩
theorem sm_ok_14 : ∀ M ∈ sm_prog_14, sm_OK sm_P M := List.forall_mem_cons.mpr ⟨ok_X2_minute, List.forall_mem_cons.mpr ⟨ok_X2_minuteWith, List.forall_mem_cons.mpr ⟨ok_X2_noteWay, List.forall_mem_cons.mpr ⟨ok_X2_push, List.forall_mem_cons.mpr ⟨ok_X2_pushMove, List.forall_mem_cons.mpr ⟨ok_X2_takes, List.forall_mem_cons.mpr ⟨ok_X2_walkOf, List.forall_mem_cons.mpr ⟨ok_X2_widen, List.forall_mem_cons.mpr ⟨ok_X3_clear, List.forall_mem_cons.mpr ⟨ok_X3_faultOf, List.forall_mem_cons.mpr ⟨ok_X3_follow, List.forall_mem_cons.mpr ⟨ok_X3_hasRoom, List.forall_mem_cons.mpr ⟨ok_X3_init, List.forall_mem_cons.mpr ⟨ok_X4_clear, List.forall_mem_cons.mpr ⟨ok_X4_init, List.forall_mem_cons.mpr ⟨ok_X5_blank, fun _ h => absurd h List.not_mem_nil⟩⟩⟩⟩⟩⟩⟩⟩⟩⟩⟩⟩⟩⟩⟩⟩
theorem sm_ok_15 : ∀ M ∈ sm_prog_15, sm_OK sm_P M := List.forall_mem_cons.mpr ⟨ok_X5_copyUp, List.forall_mem_cons.mpr ⟨ok_X5_hasLevel, List.forall_mem_cons.mpr ⟨ok_X5_hasNode, List.forall_mem_cons.mpr ⟨ok_X5_init_6809, List.forall_mem_cons.mpr ⟨ok_X5_init_7414, List.forall_mem_cons.mpr ⟨ok_X5_init_9540, List.forall_mem_cons.mpr ⟨ok_X5_loose, List.forall_mem_cons.mpr ⟨ok_X5_reach, List.forall_mem_cons.mpr ⟨ok_X5_tighten, List.forall_mem_cons.mpr ⟨ok_X5_tightenRow, List.forall_mem_cons.mpr ⟨ok_X6_cheapestGiving, List.forall_mem_cons.mpr ⟨ok_X6_goThroughAll, List.forall_mem_cons.mpr ⟨ok_X6_holdTogether, List.forall_mem_cons.mpr ⟨ok_X6_init, List.forall_mem_cons.mpr ⟨ok_X6_isGivingUp, List.forall_mem_cons.mpr ⟨ok_X6_isKnown, fun _ h => absurd h List.not_mem_nil⟩⟩⟩⟩⟩⟩⟩⟩⟩⟩⟩⟩⟩⟩⟩⟩
theorem sm_ok_16 : ∀ M ∈ sm_prog_16, sm_OK sm_P M := List.forall_mem_cons.mpr ⟨ok_X6_isQuarrel, List.forall_mem_cons.mpr ⟨ok_X6_isTight, List.forall_mem_cons.mpr ⟨ok_X6_itemOf, List.forall_mem_cons.mpr ⟨ok_X6_listRing, List.forall_mem_cons.mpr ⟨ok_X6_listSets, List.forall_mem_cons.mpr ⟨ok_X7_addSaying, List.forall_mem_cons.mpr ⟨ok_X7_changePlaces, List.forall_mem_cons.mpr ⟨ok_X7_endPathOrOpen, List.forall_mem_cons.mpr ⟨ok_X7_endSpan, List.forall_mem_cons.mpr ⟨ok_X7_find, List.forall_mem_cons.mpr ⟨ok_X7_init, List.forall_mem_cons.mpr ⟨ok_X7_meaningFault, List.forall_mem_cons.mpr ⟨ok_X7_numberNew, List.forall_mem_cons.mpr ⟨ok_X7_readTape, List.forall_mem_cons.mpr ⟨ok_X7_syntaxFault, List.forall_mem_cons.mpr ⟨ok_X7_take, fun _ h => absurd h List.not_mem_nil⟩⟩⟩⟩⟩⟩⟩⟩⟩⟩⟩⟩⟩⟩⟩⟩
theorem sm_ok_17 : ∀ M ∈ sm_prog_17, sm_OK sm_P M := List.forall_mem_cons.mpr ⟨ok_X7_takeInt, List.forall_mem_cons.mpr ⟨ok_X7_takeJoin, List.forall_mem_cons.mpr ⟨ok_X7_takeNew, List.forall_mem_cons.mpr ⟨ok_X7_takeOpen, List.forall_mem_cons.mpr ⟨ok_X7_takePath, List.forall_mem_cons.mpr ⟨ok_X7_takeSpanTime, List.forall_mem_cons.mpr ⟨ok_X7_takeTrust, List.forall_mem_cons.mpr ⟨ok_X7_takeWhere, List.forall_mem_cons.mpr ⟨ok_X8_bound, List.forall_mem_cons.mpr ⟨ok_X8_holds, List.forall_mem_cons.mpr ⟨ok_X8_init_20, List.forall_mem_cons.mpr ⟨ok_X8_init_24, List.forall_mem_cons.mpr ⟨ok_X8_init_40, List.forall_mem_cons.mpr ⟨ok_X8_init_480, List.forall_mem_cons.mpr ⟨ok_X8_isSet, List.forall_mem_cons.mpr ⟨ok_X8_put, fun _ h => absurd h List.not_mem_nil⟩⟩⟩⟩⟩⟩⟩⟩⟩⟩⟩⟩⟩⟩⟩⟩
theorem sm_ok_18 : ∀ M ∈ sm_prog_18, sm_OK sm_P M := List.forall_mem_cons.mpr ⟨ok_X9_endOfDigits, List.forall_mem_cons.mpr ⟨ok_X9_endOfLetters, List.forall_mem_cons.mpr ⟨ok_X9_init, List.forall_mem_cons.mpr ⟨ok_X9_isBlank, List.forall_mem_cons.mpr ⟨ok_X9_isDigit, List.forall_mem_cons.mpr ⟨ok_X9_isLetter, List.forall_mem_cons.mpr ⟨ok_X9_scan, List.forall_mem_cons.mpr ⟨ok_X9_scanOne, List.forall_mem_cons.mpr ⟨ok_X9_sign, List.forall_mem_cons.mpr ⟨ok_X9_wordOrName, List.forall_mem_cons.mpr ⟨ok_J6_bitCount_0f7a4, List.forall_mem_cons.mpr ⟨ok_J7_fill_53178, List.forall_mem_cons.mpr ⟨ok_L_law, fun _ h => absurd h List.not_mem_nil⟩⟩⟩⟩⟩⟩⟩⟩⟩⟩⟩⟩⟩
theorem sm_ok_all : ∀ L ∈ sm_prog, ∀ M ∈ L, sm_OK sm_P M := List.forall_mem_cons.mpr ⟨sm_ok_0, List.forall_mem_cons.mpr ⟨sm_ok_1, List.forall_mem_cons.mpr ⟨sm_ok_2, List.forall_mem_cons.mpr ⟨sm_ok_3, List.forall_mem_cons.mpr ⟨sm_ok_4, List.forall_mem_cons.mpr ⟨sm_ok_5, List.forall_mem_cons.mpr ⟨sm_ok_6, List.forall_mem_cons.mpr ⟨sm_ok_7, List.forall_mem_cons.mpr ⟨sm_ok_8, List.forall_mem_cons.mpr ⟨sm_ok_9, List.forall_mem_cons.mpr ⟨sm_ok_10, List.forall_mem_cons.mpr ⟨sm_ok_11, List.forall_mem_cons.mpr ⟨sm_ok_12, List.forall_mem_cons.mpr ⟨sm_ok_13, List.forall_mem_cons.mpr ⟨sm_ok_14, List.forall_mem_cons.mpr ⟨sm_ok_15, List.forall_mem_cons.mpr ⟨sm_ok_16, List.forall_mem_cons.mpr ⟨sm_ok_17, List.forall_mem_cons.mpr ⟨sm_ok_18, fun _ h => absurd h List.not_mem_nil⟩⟩⟩⟩⟩⟩⟩⟩⟩⟩⟩⟩⟩⟩⟩⟩⟩⟩⟩
theorem sm_getD_in {α : Type} (l : List α) (k : Nat) (d : α) : l.getD k d ∈ l ∨ l.getD k d = d := by
  rcases Nat.lt_or_ge k l.length with h | h
  · left
    rw [List.getD_eq_getElem?_getD, List.getElem?_eq_getElem h]
    exact List.getElem_mem h
  · right
    rw [List.getD_eq_getElem?_getD, List.getElem?_eq_none h]
    rfl
theorem sm_okAll (f : Nat) : sm_OK sm_P (sm_P f) := by
  unfold sm_P
  rcases sm_getD_in (sm_prog.getD (f / 16) []) (f % 16) pm_X0_answer with h | h
  · rcases sm_getD_in sm_prog (f / 16) [] with h2 | h2
    · exact sm_ok_all _ h2 _ h
    · rw [h2] at h
      exact absurd h List.not_mem_nil
  · rw [h]
    exact ok_X0_answer
end
section
/-! the kinds' tables -/
theorem sm_ly {ws : List Cond} (ps : List Nat) (h : ws.map some = ps.map (fun p => (sm_chunk (p / 256))[p % 256]?)) (hg : ws.all goodWord = true) : ∀ w ∈ ws, w ∈ sm_wl := by
  intro w hw
  have h1 : some w ∈ ps.map (fun p => (sm_chunk (p / 256))[p % 256]?) := by rw [← h]; exact List.mem_map.mpr ⟨w, hw, rfl⟩
  obtain ⟨p, -, hp⟩ := List.mem_map.mp h1
  exact List.mem_filter.mpr ⟨sm_chunk_in (List.mem_of_getElem? hp), List.all_eq_true.mp hg w hw⟩
def sm_tc (ty : FieldType) : Nat := match ty with
  | .int => 0
  | .boolean => 2
  | .object _ => 1
  | .array _ => 1
  | _ => 9
theorem sm_tc_of {ty : FieldType} {n : Nat} (h : sm_tc ty = n) (h3 : n ≤ 2) : (n = 0 → ty = .int) ∧ (n = 2 → ty = .boolean) ∧ (n = 1 → (∃ q, ty = .object q) ∨ ∃ q, ty = .array q) ∧ n ≤ 2 := by
  subst h
  cases ty with
  | int => exact ⟨fun _ => rfl, fun h => (by cases h), fun h => (by cases h), h3⟩
  | boolean => exact ⟨fun h => (by cases h), fun _ => rfl, fun h => (by cases h), h3⟩
  | object q => exact ⟨fun h => (by cases h), fun h => (by cases h), fun _ => Or.inl ⟨q, rfl⟩, h3⟩
  | array q => exact ⟨fun h => (by cases h), fun h => (by cases h), fun _ => Or.inr ⟨q, rfl⟩, h3⟩
  | _ => exact absurd h3 (by decide)
theorem ly_0 : ∀ w ∈ u_ws RX0 TX0 6, w ∈ sm_wl := sm_ly [515, 517, 519, 521, 523, 525] (by decide +kernel) (by decide +kernel)
theorem tc_0 : ∀ k, k < 6 → sm_tc (tyX0 k) = sm_cd 0 k ∧ sm_cd 0 k ≤ 2 := by decide +kernel
theorem ly_1 : ∀ w ∈ u_ws RX1 TX1 3, w ∈ sm_wl := sm_ly [325, 327, 329] (by decide +kernel) (by decide +kernel)
theorem tc_1 : ∀ k, k < 3 → sm_tc (tyX1 k) = sm_cd 1 k ∧ sm_cd 1 k ≤ 2 := by decide +kernel
theorem ly_2 : ∀ w ∈ u_ws RX2 TX2 18, w ∈ sm_wl := sm_ly [396, 398, 400, 402, 404, 406, 408, 410, 412, 414, 416, 418, 420, 422, 424, 426, 428, 430] (by decide +kernel) (by decide +kernel)
theorem tc_2 : ∀ k, k < 18 → sm_tc (tyX2 k) = sm_cd 2 k ∧ sm_cd 2 k ≤ 2 := by decide +kernel
theorem ly_3 : ∀ w ∈ u_ws RX3 TX3 4, w ∈ sm_wl := sm_ly [68, 70, 72, 74] (by decide +kernel) (by decide +kernel)
theorem tc_3 : ∀ k, k < 4 → sm_tc (tyX3 k) = sm_cd 3 k ∧ sm_cd 3 k ≤ 2 := by decide +kernel
theorem ly_4 : ∀ w ∈ u_ws RX4 TX4 5, w ∈ sm_wl := sm_ly [305, 307, 309, 311, 313] (by decide +kernel) (by decide +kernel)
theorem tc_4 : ∀ k, k < 5 → sm_tc (tyX4 k) = sm_cd 4 k ∧ sm_cd 4 k ≤ 2 := by decide +kernel
theorem ly_5 : ∀ w ∈ u_ws RX5 TX5 6, w ∈ sm_wl := sm_ly [352, 354, 356, 358, 360, 362] (by decide +kernel) (by decide +kernel)
theorem tc_5 : ∀ k, k < 6 → sm_tc (tyX5 k) = sm_cd 5 k ∧ sm_cd 5 k ≤ 2 := by decide +kernel
theorem ly_6 : ∀ w ∈ u_ws RX6 TX6 12, w ∈ sm_wl := sm_ly [459, 461, 463, 465, 467, 469, 471, 473, 475, 477, 479, 481] (by decide +kernel) (by decide +kernel)
theorem tc_6 : ∀ k, k < 12 → sm_tc (tyX6 k) = sm_cd 6 k ∧ sm_cd 6 k ≤ 2 := by decide +kernel
theorem ly_7 : ∀ w ∈ u_ws RX7 TX7 13, w ∈ sm_wl := sm_ly [235, 237, 239, 257, 259, 261, 263, 265, 267, 269, 271, 273, 275] (by decide +kernel) (by decide +kernel)
theorem tc_7 : ∀ k, k < 13 → sm_tc (tyX7 k) = sm_cd 7 k ∧ sm_cd 7 k ≤ 2 := by decide +kernel
theorem ly_8 : ∀ w ∈ u_ws RX8 TX8 4, w ∈ sm_wl := sm_ly [104, 106, 108, 110] (by decide +kernel) (by decide +kernel)
theorem tc_8 : ∀ k, k < 4 → sm_tc (tyX8 k) = sm_cd 8 k ∧ sm_cd 8 k ≤ 2 := by decide +kernel
theorem ly_9 : ∀ w ∈ u_ws RX9 TX9 4, w ∈ sm_wl := sm_ly [46, 48, 50, 52] (by decide +kernel) (by decide +kernel)
theorem tc_9 : ∀ k, k < 4 → sm_tc (tyX9 k) = sm_cd 9 k ∧ sm_cd 9 k ≤ 2 := by decide +kernel
theorem ly_10 : ∀ w ∈ u_ws RX10 TX10 19, w ∈ sm_wl := sm_ly [182, 184, 186, 188, 190, 192, 194, 196, 198, 200, 202, 204, 206, 208, 210, 212, 214, 216, 218] (by decide +kernel) (by decide +kernel)
theorem tc_10 : ∀ k, k < 19 → sm_tc (tyX10 k) = sm_cd 10 k ∧ sm_cd 10 k ≤ 2 := by decide +kernel
theorem ly_11 : ∀ w ∈ u_ws RX11 TX11 14, w ∈ sm_wl := sm_ly [542, 544, 546, 548, 550, 552, 554, 556, 558, 560, 562, 564, 566, 568] (by decide +kernel) (by decide +kernel)
theorem tc_11 : ∀ k, k < 14 → sm_tc (tyX11 k) = sm_cd 11 k ∧ sm_cd 11 k ≤ 2 := by decide +kernel
theorem ly_12 : ∀ w ∈ u_ws RX12 TX12 97, w ∈ sm_wl := sm_ly [1401, 1403, 1405, 1407, 1409, 1411, 1413, 1415, 1417, 1419, 1421, 1423, 1425, 1427, 1429, 1431, 1433, 1435, 1437, 1439, 1441, 1443, 1445, 1447, 1449, 1451, 1453, 1455, 1457, 1459, 1461, 1463, 1465, 1467, 1469, 1471, 1473, 1475, 1477, 1479, 1481, 1483, 1485, 1487, 1489, 1491, 1493, 1495, 1497, 1499, 1501, 1503, 1505, 1507, 1509, 1511, 1513, 1515, 1517, 1519, 1537, 1539, 1541, 1543, 1545, 1547, 1549, 1551, 1553, 1555, 1557, 1559, 1561, 1563, 1565, 1567, 1569, 1571, 1573, 1575, 1577, 1579, 1581, 1583, 1585, 1587, 1589, 1591, 1593, 1595, 1597, 1599, 1601, 1603, 1605, 1607, 1609] (by decide +kernel) (by decide +kernel)
theorem tc_12 : ∀ k, k < 97 → sm_tc (tyX12 k) = sm_cd 12 k ∧ sm_cd 12 k ≤ 2 := by decide +kernel
theorem sm_cf : sm_CF := by
  intro ci C T N h
  match ci, h with
  | 0, h => cases h; exact ⟨ly_0, tyX0_ok, nmX0, rfl, fun k hk => sm_tc_of (tc_0 k hk).1 (tc_0 k hk).2⟩
  | 1, h => cases h; exact ⟨ly_1, tyX1_ok, nmX1, rfl, fun k hk => sm_tc_of (tc_1 k hk).1 (tc_1 k hk).2⟩
  | 2, h => cases h; exact ⟨ly_2, tyX2_ok, nmX2, rfl, fun k hk => sm_tc_of (tc_2 k hk).1 (tc_2 k hk).2⟩
  | 3, h => cases h; exact ⟨ly_3, tyX3_ok, nmX3, rfl, fun k hk => sm_tc_of (tc_3 k hk).1 (tc_3 k hk).2⟩
  | 4, h => cases h; exact ⟨ly_4, tyX4_ok, nmX4, rfl, fun k hk => sm_tc_of (tc_4 k hk).1 (tc_4 k hk).2⟩
  | 5, h => cases h; exact ⟨ly_5, tyX5_ok, nmX5, rfl, fun k hk => sm_tc_of (tc_5 k hk).1 (tc_5 k hk).2⟩
  | 6, h => cases h; exact ⟨ly_6, tyX6_ok, nmX6, rfl, fun k hk => sm_tc_of (tc_6 k hk).1 (tc_6 k hk).2⟩
  | 7, h => cases h; exact ⟨ly_7, tyX7_ok, nmX7, rfl, fun k hk => sm_tc_of (tc_7 k hk).1 (tc_7 k hk).2⟩
  | 8, h => cases h; exact ⟨ly_8, tyX8_ok, nmX8, rfl, fun k hk => sm_tc_of (tc_8 k hk).1 (tc_8 k hk).2⟩
  | 9, h => cases h; exact ⟨ly_9, tyX9_ok, nmX9, rfl, fun k hk => sm_tc_of (tc_9 k hk).1 (tc_9 k hk).2⟩
  | 10, h => cases h; exact ⟨ly_10, tyX10_ok, nmX10, rfl, fun k hk => sm_tc_of (tc_10 k hk).1 (tc_10 k hk).2⟩
  | 11, h => cases h; exact ⟨ly_11, tyX11_ok, nmX11, rfl, fun k hk => sm_tc_of (tc_11 k hk).1 (tc_11 k hk).2⟩
  | 12, h => cases h; exact ⟨ly_12, tyX12_ok, nmX12, rfl, fun k hk => sm_tc_of (tc_12 k hk).1 (tc_12 k hk).2⟩
  | k + 13, h => simp [vwCl] at h
end
section
/-! THE CLAIM OUT OF THE SMALL MACHINE'S RUN OF THE LAW -/
def R_law : String := "NightHoursLaw"
def lw_P (b : Addr) (xs : List Int32) (args : Array Value) (s : State) : Prop := args = #[.ref b] ∧ s.IntsAt b xs ∧ xs.length ≤ 3072 ∧ (Jvm.Cond.and given_1 narrow_1).before args s = true
def lw_Q (_ : Array Value) (s : State) (o : Outcome) (t : State) : Prop := o = .returned (some (.int 1)) ∧ Framed s o t [] 600000 7302250
def lw_Z (below : List Frame) (a : Array Value) (s : State) : State → Prop := fun t => ∃ o, t.status = .running ∧ Ended t below o ∧ lw_Q a s o t
/-- the law's own end, with 1 on the stack, nothing written that was there before, its room as the claim has it -/
theorem lw_ret {p : Program} {l : Launch} {e : Env} {s : State} {m : MethodId} {below : List Frame} {meth : Method} {c : Code} {b : Nat} (hx : p.tables.exec = Jvm.exec) (hb : c.code = code) (hr : meth.sig.returnType = ret) (hlocks : meth.locks = false) {pc : Nat} {H : Heap} {ls : Array Slot} (hdg : decode code pc = .ok (.ireturn, 1)) : W p l e room_1 s m #[Value.ref b] below meth c H [] 600000 7302250 (lw_Z below #[Value.ref b] s) (F0 m pc ls [.int 1]) := by
  intro T hT X
  obtain ⟨fs, hret, hrun, hended, hW, hframe⟩ := X.leave (v := some (.int 1)) (hlocks := hlocks) (fun h => by rw [hr] at h; cases h)
  have hmeth' : T.vm.method? m = some meth := X.method'
  refine ⟨T.setFrames fs, ?_, .returned (some (.int 1)), hrun, hended, rfl, ⟨_, rfl⟩, hW, hframe⟩
  jvm_step X.here [X.here.top, hx, hb, hdg, hmeth', hr, ret, narrow_b1]
  (try refine ⟨rfl, ?_⟩); (try refine ⟨rfl, ?_⟩)
  first | (intro acts; rw [hret _ acts rfl rfl rfl]) | rw [hret _ _ rfl rfl rfl]
  exact Steps.refl _
/-- what holds at the law's entry: the machine, the code, the tables' words (any of lw_tbl by 'hts w (by decide +kernel)'), the script of L ints xs at the cell b, what the Statement gives of the start (any of its parts by flat_of_before) -/
def lw_At (p : Program) (s : State) (m : MethodId) (meth : Method) (c : Code) (b L : Nat) (xs : Nat → Int32) : Prop :=
  p.tables.exec = Jvm.exec ∧ c.code = code ∧ meth.sig.returnType = ret ∧ c.maxLocals = 4 ∧ s.vm.findClass R_law = some m.cls ∧ (∀ w ∈ lw_tbl, w.before #[Value.ref b] s = true) ∧ va_X b L xs s s.heap ∧ b < s.heap.size ∧ meth.locks = false ∧ (Jvm.Cond.and given_1 narrow_1).before #[Value.ref b] s = true
theorem sm_st_I {n : Nat} {cls nm : String} {l : List Int32} {args : Array Value} {s : State} (hs : ∀ c ∈ flatC (Jvm.Cond.and given_1 narrow_1), c.before args s = true) (hn : l.length = n) (h31 : n < 2 ^ 31)
    (h1 : Cond.arrayOf (.static cls nm "[I") .int ∈ flatC (Jvm.Cond.and given_1 narrow_1)) (h2 : Cond.eq (.length (.static cls nm "[I")) (.int (Int32.ofNat n)) ∈ flatC (Jvm.Cond.and given_1 narrow_1)) (h3 : ∀ j, j < n → Cond.eq (.elem (.static cls nm "[I") (.int (Int32.ofNat j))) (.int (l.getD j 0)) ∈ flatC (Jvm.Cond.and given_1 narrow_1)) (hl : (Cond.laysStatic cls nm "[I").before args s = true) (hi : (Cond.initialized cls).before args s = true) :
    ∃ t : Nat, va_Z cls nm "[I" (.ref t) (sm_A s.heap.size) s s.heap ∧ va_T .int t n (fun j => .int (l.getD j 0)) (sm_A s.heap.size) s s.heap := by
  have hA : ∀ a : Nat, a < s.heap.size → ¬ sm_A s.heap.size a := fun a h q => absurd q (Nat.not_le.mpr h)
  obtain ⟨t, e1, e2⟩ := va_Tof (f := fun j => .int (l.getD j 0)) h31 (hs _ h1) (va_eqt (hs _ h2)) (fun j hj => va_eqt (hs _ (h3 j hj))) hA
  exact ⟨t, va_Zref hl hi e1 hA, e2⟩
theorem sm_st_L {n : Nat} {cls nm : String} {l : List Int64} {args : Array Value} {s : State} (hs : ∀ c ∈ flatC (Jvm.Cond.and given_1 narrow_1), c.before args s = true) (hn : l.length = n) (h31 : n < 2 ^ 31)
    (h1 : Cond.arrayOf (.static cls nm "[J") .long ∈ flatC (Jvm.Cond.and given_1 narrow_1)) (h2 : Cond.eq (.length (.static cls nm "[J")) (.int (Int32.ofNat n)) ∈ flatC (Jvm.Cond.and given_1 narrow_1)) (h3 : ∀ j, j < n → Cond.eq (.elem (.static cls nm "[J") (.int (Int32.ofNat j))) (.long (l.getD j 0)) ∈ flatC (Jvm.Cond.and given_1 narrow_1)) (hl : (Cond.laysStatic cls nm "[J").before args s = true) (hi : (Cond.initialized cls).before args s = true) :
    ∃ t : Nat, va_Z cls nm "[J" (.ref t) (sm_A s.heap.size) s s.heap ∧ va_T .long t n (fun j => .long (l.getD j 0)) (sm_A s.heap.size) s s.heap := by
  have hA : ∀ a : Nat, a < s.heap.size → ¬ sm_A s.heap.size a := fun a h q => absurd q (Nat.not_le.mpr h)
  obtain ⟨t, e1, e2⟩ := va_Tof (f := fun j => .long (l.getD j 0)) h31 (hs _ h1) (va_eqt (hs _ h2)) (fun j hj => va_eqtl (hs _ (h3 j hj))) hA
  exact ⟨t, va_Zref hl hi e1 hA, e2⟩
theorem sm_arr {args : Array Value} {s : State} {ty : FieldType} (h : (Cond.arrayClass ty).before args s = true) : ∃ cA, ArrOfT s cA ty ∧ s.vm.findClass ("[" ++ ty.toString) = some cA := by
  obtain ⟨cA, kA, comp, h1, h2, h3⟩ := Cond.arrayClass_spec h
  exact ⟨cA, fun n z => ⟨fun k h => (by cases h), kA, h2, comp, h3⟩, h1⟩
/-- the world at the beginning: no cells -/
def sm_w0 : sm_W := ([], fun _ _ => 0, fun _ _ => 0, fun _ _ => none)
set_option maxRecDepth 100000 in
theorem sm_fl1 : Cond.arrayOf (.static "NightHours$Tokens" "WORDS" "[J") .long ∈ flatC (Jvm.Cond.and given_1 narrow_1) ∧ Cond.eq (.length (.static "NightHours$Tokens" "WORDS" "[J")) (.int (Int32.ofNat 15)) ∈ flatC (Jvm.Cond.and given_1 narrow_1) ∧ ∀ j, j < 15 → Cond.eq (.elem (.static "NightHours$Tokens" "WORDS" "[J") (.int (Int32.ofNat j))) (.long (sm_words.getD j 0)) ∈ flatC (Jvm.Cond.and given_1 narrow_1) := by decide +kernel
set_option maxRecDepth 100000 in
theorem sm_fl2 : Cond.arrayOf (.static "NightHours$Grammar" "STEPS" "[I") .int ∈ flatC (Jvm.Cond.and given_1 narrow_1) ∧ Cond.eq (.length (.static "NightHours$Grammar" "STEPS" "[I")) (.int (Int32.ofNat 138)) ∈ flatC (Jvm.Cond.and given_1 narrow_1) ∧ ∀ j, j < 138 → Cond.eq (.elem (.static "NightHours$Grammar" "STEPS" "[I") (.int (Int32.ofNat j))) (.int (sm_steps.getD j 0)) ∈ flatC (Jvm.Cond.and given_1 narrow_1) := by decide +kernel
set_option maxRecDepth 100000 in
theorem sm_fl3 : Cond.arrayOf (.static "NightHours$Grammar" "ROOM" "[I") .int ∈ flatC (Jvm.Cond.and given_1 narrow_1) ∧ Cond.eq (.length (.static "NightHours$Grammar" "ROOM" "[I")) (.int (Int32.ofNat 15)) ∈ flatC (Jvm.Cond.and given_1 narrow_1) ∧ ∀ j, j < 15 → Cond.eq (.elem (.static "NightHours$Grammar" "ROOM" "[I") (.int (Int32.ofNat j))) (.int (sm_room.getD j 0)) ∈ flatC (Jvm.Cond.and given_1 narrow_1) := by decide +kernel
set_option maxRecDepth 100000 in
theorem sm_fl4 : Cond.arrayOf (.static "NightHours$Asking" "WITH_YES" "[I") .int ∈ flatC (Jvm.Cond.and given_1 narrow_1) ∧ Cond.eq (.length (.static "NightHours$Asking" "WITH_YES" "[I")) (.int (Int32.ofNat 5)) ∈ flatC (Jvm.Cond.and given_1 narrow_1) ∧ ∀ j, j < 5 → Cond.eq (.elem (.static "NightHours$Asking" "WITH_YES" "[I") (.int (Int32.ofNat j))) (.int (sm_withyes.getD j 0)) ∈ flatC (Jvm.Cond.and given_1 narrow_1) := by decide +kernel
/-- what the law's run must be, for every script -/
def sm_Main : Prop := ∀ (L : Nat) (xs : Nat → Int32), L ≤ 3072 → sm_wp sm_P (L, xs) 60 300 0 [.ref 1004] [] sm_w0 (0, 0) (fun z => z.1 = some (.int 1))
set_option maxHeartbeats 4000000 in
set_option maxRecDepth 100000 in
theorem sm_whole (hmain : sm_Main) {p : Program} {e : Env} {s : State} {m : MethodId} {below : List Frame} {meth : Method} {c : Code} (l : Launch) {b L : Nat} {xs : Nat → Int32} (hL : L ≤ 3072) (C0 : lw_At p s m meth c b L xs) : W p l e room_1 s m #[Value.ref b] below meth c s.heap [] 0 0 (lw_Z below #[Value.ref b] s) (entryFrame m ([Value.ref b] : List Value).toArray 4) := by
  obtain ⟨hx, hb, hr, hml, hown, hts, hX, hbl, hlocks, hgv⟩ := id C0
  have hs := flat_of_before _ hgv
  have hwl : ∀ w ∈ sm_wl, w.before #[Value.ref b] s = true := fun w hw => hts w (List.mem_filter.mp hw).1
  obtain ⟨c0, iS0, k0⟩ := u_known (C := RX0) (T := TX0) (N := 6) (n := 6) hwl ly_0 (hwl _ (sm_inw 1 230 rfl rfl))
  obtain ⟨c1, iS1, k1⟩ := u_known (C := RX1) (T := TX1) (N := 3) (n := 3) hwl ly_1 (hwl _ (sm_inw 1 61 rfl rfl))
  obtain ⟨c2, iS2, k2⟩ := u_known (C := RX2) (T := TX2) (N := 18) (n := 18) hwl ly_2 (hwl _ (sm_inw 1 79 rfl rfl))
  obtain ⟨c3, iS3, k3⟩ := u_known (C := RX3) (T := TX3) (N := 4) (n := 4) hwl ly_3 (hwl _ (sm_inw 0 59 rfl rfl))
  obtain ⟨c4, iS4, k4⟩ := u_known (C := RX4) (T := TX4) (N := 5) (n := 5) hwl ly_4 (hwl _ (sm_inw 1 23 rfl rfl))
  obtain ⟨c5, iS5, k5⟩ := u_known (C := RX5) (T := TX5) (N := 6) (n := 6) hwl ly_5 (hwl _ (sm_inw 1 85 rfl rfl))
  obtain ⟨c6, iS6, k6⟩ := u_known (C := RX6) (T := TX6) (N := 12) (n := 12) hwl ly_6 (hwl _ (sm_inw 1 178 rfl rfl))
  obtain ⟨c7, iS7, k7⟩ := u_known (C := RX7) (T := TX7) (N := 13) (n := 13) hwl ly_7 (hwl _ (sm_inw 0 27 rfl rfl))
  obtain ⟨c8, iS8, k8⟩ := u_known (C := RX8) (T := TX8) (N := 4) (n := 4) hwl ly_8 (hwl _ (sm_inw 0 84 rfl rfl))
  obtain ⟨c9, iS9, k9⟩ := u_known (C := RX9) (T := TX9) (N := 4) (n := 4) hwl ly_9 (hwl _ (sm_inw 0 33 rfl rfl))
  obtain ⟨c10, iS10, k10⟩ := u_known (C := RX10) (T := TX10) (N := 19) (n := 19) hwl ly_10 (hwl _ (sm_inw 0 78 rfl rfl))
  obtain ⟨c11, iS11, k11⟩ := u_known (C := RX11) (T := TX11) (N := 14) (n := 14) hwl ly_11 (hwl _ (sm_inw 0 19 rfl rfl))
  obtain ⟨c12, iS12, k12⟩ := u_known (C := RX12) (T := TX12) (N := 97) (n := 97) hwl ly_12 (hwl _ (sm_inw 5 13 rfl rfl))
  obtain ⟨dC, dI, hKc⟩ : ∃ (dC : Nat → ClassId) (dI : Nat → Nat → Nat), ∀ (k : Nat) (q : vw_C), vwCl[k]? = some q → u_Kn s q.1 q.2.1 q.2.2 (dC k) (dI k) := by
    refine ⟨fun k => match k with
      | 0 => c0
      | 1 => c1
      | 2 => c2
      | 3 => c3
      | 4 => c4
      | 5 => c5
      | 6 => c6
      | 7 => c7
      | 8 => c8
      | 9 => c9
      | 10 => c10
      | 11 => c11
      | _ => c12, fun k => match k with
      | 0 => iS0
      | 1 => iS1
      | 2 => iS2
      | 3 => iS3
      | 4 => iS4
      | 5 => iS5
      | 6 => iS6
      | 7 => iS7
      | 8 => iS8
      | 9 => iS9
      | 10 => iS10
      | 11 => iS11
      | _ => iS12, ?_⟩
    intro k q hq
    match k, hq with
    | 0, hq => cases hq; exact k0
    | 1, hq => cases hq; exact k1
    | 2, hq => cases hq; exact k2
    | 3, hq => cases hq; exact k3
    | 4, hq => cases hq; exact k4
    | 5, hq => cases hq; exact k5
    | 6, hq => cases hq; exact k6
    | 7, hq => cases hq; exact k7
    | 8, hq => cases hq; exact k8
    | 9, hq => cases hq; exact k9
    | 10, hq => cases hq; exact k10
    | 11, hq => cases hq; exact k11
    | 12, hq => cases hq; exact k12
    | k + 13, hq => simp [vwCl] at hq
  obtain ⟨a0, hr0, hf0⟩ := sm_arr (ty := .int) (hwl _ (sm_inw 0 56 rfl rfl))
  obtain ⟨a1, hr1, hf1⟩ := sm_arr (ty := .byte) (hwl _ (sm_inw 0 55 rfl rfl))
  obtain ⟨a2, hr2, hf2⟩ := sm_arr (ty := .boolean) (hwl _ (sm_inw 1 228 rfl rfl))
  obtain ⟨a3, hr3, hf3⟩ := sm_arr (ty := .long) (hwl _ (sm_inw 0 57 rfl rfl))
  obtain ⟨t0, z0, T0⟩ := sm_st_L (l := sm_words) hs (n := 15) rfl (by decide) sm_fl1.1 sm_fl1.2.1 sm_fl1.2.2 (hts _ (sm_chunk_in (List.mem_of_getElem? (show (sm_chunk 2)[101]? = some _ from rfl)))) (hwl _ (sm_inw 0 3 rfl rfl))
  obtain ⟨t1, z1, T1⟩ := sm_st_I (l := sm_steps) hs (n := 138) rfl (by decide) sm_fl2.1 sm_fl2.2.1 sm_fl2.2.2 (hts _ (sm_chunk_in (List.mem_of_getElem? (show (sm_chunk 2)[130]? = some _ from rfl)))) (hwl _ (sm_inw 0 4 rfl rfl))
  obtain ⟨t2, z2, T2⟩ := sm_st_I (l := sm_room) hs (n := 15) rfl (by decide) sm_fl3.1 sm_fl3.2.1 sm_fl3.2.2 (hts _ (sm_chunk_in (List.mem_of_getElem? (show (sm_chunk 2)[136]? = some _ from rfl)))) (hwl _ (sm_inw 0 4 rfl rfl))
  obtain ⟨t3, z3, T3⟩ := sm_st_I (l := sm_withyes) hs (n := 5) rfl (by decide) sm_fl4.1 sm_fl4.2.1 sm_fl4.2.2 (hts _ (sm_chunk_in (List.mem_of_getElem? (show (sm_chunk 4)[146]? = some _ from rfl)))) (hwl _ (sm_inw 0 13 rfl rfl))
  obtain ⟨scr, x1, x2, x3, x4, x5⟩ := hX
  have hnA : ¬ sm_A s.heap.size b := Nat.not_le.mpr hbl
  have T4 : va_T .int b L (fun j => .int (xs j)) (sm_A s.heap.size) s s.heap := ⟨scr, x1, x2, x3, by rw [x4]; exact Nat.le_refl L, by rw [x4], x5, hnA⟩
  obtain ⟨ct, hct⟩ : ∃ ct : Nat → ClassId, ct = fun t => match t with
    | 0 => a0
    | 1 => a1
    | 2 => a2
    | _ => a3 := ⟨_, rfl⟩
  obtain ⟨tt, htt⟩ : ∃ tt : Nat → Nat, tt = fun t => match t with
    | 0 => t0
    | 1 => t1
    | 2 => t2
    | 3 => t3
    | _ => b := ⟨_, rfl⟩
  have hK : va_K (dC, dI) vwCl (sm_tys ct) s := by
    refine ⟨hKc, fun k q hq => ?_⟩
    subst hct
    match k, hq with
    | 0, hq => cases hq; exact ⟨hr0, hf0⟩
    | 1, hq => cases hq; exact ⟨hr1, hf1⟩
    | 2, hq => cases hq; exact ⟨hr2, hf2⟩
    | 3, hq => cases hq; exact ⟨hr3, hf3⟩
    | k + 4, hq => simp [sm_tys] at hq
  have hG : sm_G s.heap.size ct tt (dC, dI) (L, xs) s := by
    refine ⟨hK, Nat.le_refl _, fun k q hq => ?_, fun p q hq => ?_, fun p q hq => ?_, fun q hq => ?_⟩
    · subst htt
      match k, hq with
      | 0, hq => cases hq; exact z0
      | 1, hq => cases hq; exact z1
      | 2, hq => cases hq; exact z2
      | 3, hq => cases hq; exact z3
      | k + 4, hq => simp [sm_stn] at hq
    · unfold sm_sI at hq
      subst htt
      split at hq
      · cases hq; exact ⟨by decide, T1⟩
      · cases hq; exact ⟨by decide, T2⟩
      · cases hq; exact ⟨by decide, T3⟩
      · cases hq; exact ⟨by decide, T4⟩
      · cases hq
    · unfold sm_sL at hq
      subst htt
      split at hq
      · cases hq; exact ⟨by decide, T0⟩
      · cases hq
    · simp only [sm_nest, List.mem_cons, List.not_mem_nil, or_false] at hq
      rcases hq with rfl | rfl | rfl | rfl
      · exact va_Nw.of rfl (hts _ (sm_chunk_in (k := 0) (List.mem_of_getElem? (i := 28) rfl)))
      · exact va_Nw.of rfl (hts _ (sm_chunk_in (k := 0) (List.mem_of_getElem? (i := 34) rfl)))
      · exact va_Nw.of rfl (hts _ (sm_chunk_in (k := 0) (List.mem_of_getElem? (i := 60) rfl)))
      · exact va_Nw.of rfl (hts _ (sm_chunk_in (k := 1) (List.mem_of_getElem? (i := 62) rfl)))
  obtain ⟨n, z, hrun, hz⟩ := hmain L xs hL
  have hXX : sm_X s.heap.size ct tt (dC, dI) (L, xs) (sm_P 300) 60 p room_1 s m #[Value.ref b] meth c := ⟨hx, hb, hml, hown, hwl, fun h => absurd h (by decide), by decide, by decide, by decide, by decide, hG⟩
  have he : sm_end s.heap.size ct tt (dC, dI) (sm_P 300) p l e room_1 s m #[Value.ref b] below meth c (lw_Z below #[Value.ref b] s) z := by
    intro H locs pc ls i hd hq hP hS
    rw [hz] at hq ⊢
    rcases hq with ⟨rfl, -⟩ | ⟨-, x, h, -⟩ | ⟨-, x, h, -⟩ | ⟨-, h, -⟩
    · refine va_forget (fun q hq => hS.2.2 q hq) (W.widen (k := 600000) (n := 7302250) (by decide) (by decide) ?_)
      exact lw_ret hx hb hr hlocks hd
    · cases h
    · cases h
    · cases h
  have hblk : ∃ (B : sm_B) (live : List Nat), (sm_blks (sm_P 300))[0]? = some B ∧ B.1 = 0 ∧ B.2.1 = some live := ⟨_, _, rfl, rfl, rfl⟩
  obtain ⟨B, live, hB, hB0, hlive⟩ := hblk
  have k1 := sm_run_ok sm_cf sm_okAll n 60 300 p e room_1 s m #[Value.ref b] below meth c _ z hXX he 0 [.ref 1004] [] sm_w0 (0, 0) B live hB hlive hrun
  have hl := lv_entry ([.ref b]) (n := 4) (Nat.le_of_ble_eq_true rfl)
  rw [lg_entry_eq]
  generalize (lg_sl ([.ref b]) ++ List.replicate (4 - (lg_sl ([.ref b])).length) Slot.unset).toArray = ls at hl ⊢
  rw [if_pos rfl, hB0] at k1
  have e4 : (lv_args 0 [.ref 1004]).map (sm_cq s.heap.size tt) = lv_args 0 [.ref b] := by
    subst htt
    rfl
  exact k1 s.heap [] ls (by rw [e4]; exact hl) (fun k q h => by simp [sm_ws, sm_w0] at h) va_S.rf rfl (by decide) ⟨Nat.zero_le _, Nat.zero_le _⟩
end
