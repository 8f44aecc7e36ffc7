section
-- ===== PART A: goes FIRST, ahead of the names: the tables' words, and 'selects' of the private methods out of them =====
/-- a private method of a class that the tables say can be made, by its rows of tables_1 -/
def lw_okq (q : MethodName × Nat) : Prop := (q.1.cls ≠ "java/lang/invoke/MethodHandle" ∧ q.1.cls ≠ "java/lang/invoke/VarHandle") ∧ Cond.instantiable q.1.cls q.2 ∈ tables_1 ∧ Cond.privateMethod q.1 ∈ tables_1 ∧ Cond.instanceMethod q.1 ∈ tables_1
theorem lw_p0 : lw_okq (⟨"NightHours", "putFour", "(I)V"⟩, 14) := ⟨⟨by decide +kernel, by decide +kernel⟩, List.mem_of_getElem? (i := 19) (by decide +kernel), List.mem_of_getElem? (i := 544) (by decide +kernel), List.mem_of_getElem? (i := 545) (by decide +kernel)⟩
theorem lw_p1 : lw_okq (⟨"NightHours$Tokens", "scanOne", "([BII)I"⟩, 4) := ⟨⟨by decide +kernel, by decide +kernel⟩, List.mem_of_getElem? (i := 33) (by decide +kernel), List.mem_of_getElem? (i := 568) (by decide +kernel), List.mem_of_getElem? (i := 569) (by decide +kernel)⟩
theorem lw_p2 : lw_okq (⟨"NightHours$Reader", "syntaxFault", "()I"⟩, 13) := ⟨⟨by decide +kernel, by decide +kernel⟩, List.mem_of_getElem? (i := 27) (by decide +kernel), List.mem_of_getElem? (i := 594) (by decide +kernel), List.mem_of_getElem? (i := 595) (by decide +kernel)⟩
theorem lw_p3 : lw_okq (⟨"NightHours$Grammar", "hasRoom", "(II)Z"⟩, 4) := ⟨⟨by decide +kernel, by decide +kernel⟩, List.mem_of_getElem? (i := 59) (by decide +kernel), List.mem_of_getElem? (i := 612) (by decide +kernel), List.mem_of_getElem? (i := 613) (by decide +kernel)⟩
theorem lw_p4 : lw_okq (⟨"NightHours$Reader", "meaningFault", "()I"⟩, 13) := ⟨⟨by decide +kernel, by decide +kernel⟩, List.mem_of_getElem? (i := 27) (by decide +kernel), List.mem_of_getElem? (i := 619) (by decide +kernel), List.mem_of_getElem? (i := 620) (by decide +kernel)⟩
theorem lw_p5 : lw_okq (⟨"NightHours$Reader", "take", "(IIJ)I"⟩, 13) := ⟨⟨by decide +kernel, by decide +kernel⟩, List.mem_of_getElem? (i := 27) (by decide +kernel), List.mem_of_getElem? (i := 624) (by decide +kernel), List.mem_of_getElem? (i := 625) (by decide +kernel)⟩
theorem lw_p6 : lw_okq (⟨"NightHours$Reader", "takeNew", "(J)I"⟩, 13) := ⟨⟨by decide +kernel, by decide +kernel⟩, List.mem_of_getElem? (i := 27) (by decide +kernel), List.mem_of_getElem? (i := 628) (by decide +kernel), List.mem_of_getElem? (i := 629) (by decide +kernel)⟩
theorem lw_p7 : lw_okq (⟨"NightHours$Reader", "numberNew", "(I)I"⟩, 13) := ⟨⟨by decide +kernel, by decide +kernel⟩, List.mem_of_getElem? (i := 27) (by decide +kernel), List.mem_of_getElem? (i := 632) (by decide +kernel), List.mem_of_getElem? (i := 633) (by decide +kernel)⟩
theorem lw_p8 : lw_okq (⟨"NightHours$Reader", "addSaying", "()I"⟩, 13) := ⟨⟨by decide +kernel, by decide +kernel⟩, List.mem_of_getElem? (i := 27) (by decide +kernel), List.mem_of_getElem? (i := 636) (by decide +kernel), List.mem_of_getElem? (i := 637) (by decide +kernel)⟩
theorem lw_p9 : lw_okq (⟨"NightHours$Reader", "takePath", "(IJ)I"⟩, 13) := ⟨⟨by decide +kernel, by decide +kernel⟩, List.mem_of_getElem? (i := 27) (by decide +kernel), List.mem_of_getElem? (i := 640) (by decide +kernel), List.mem_of_getElem? (i := 641) (by decide +kernel)⟩
theorem lw_p10 : lw_okq (⟨"NightHours$Reader", "find", "(JI)I"⟩, 13) := ⟨⟨by decide +kernel, by decide +kernel⟩, List.mem_of_getElem? (i := 27) (by decide +kernel), List.mem_of_getElem? (i := 644) (by decide +kernel), List.mem_of_getElem? (i := 645) (by decide +kernel)⟩
theorem lw_p11 : lw_okq (⟨"NightHours$Reader", "takeWhere", "(IJ)I"⟩, 13) := ⟨⟨by decide +kernel, by decide +kernel⟩, List.mem_of_getElem? (i := 27) (by decide +kernel), List.mem_of_getElem? (i := 648) (by decide +kernel), List.mem_of_getElem? (i := 649) (by decide +kernel)⟩
theorem lw_p12 : lw_okq (⟨"NightHours$Reader", "takeOpen", "(IJ)I"⟩, 13) := ⟨⟨by decide +kernel, by decide +kernel⟩, List.mem_of_getElem? (i := 27) (by decide +kernel), List.mem_of_getElem? (i := 652) (by decide +kernel), List.mem_of_getElem? (i := 653) (by decide +kernel)⟩
theorem lw_p13 : lw_okq (⟨"NightHours$Reader", "takeSpanTime", "(IJ)I"⟩, 13) := ⟨⟨by decide +kernel, by decide +kernel⟩, List.mem_of_getElem? (i := 27) (by decide +kernel), List.mem_of_getElem? (i := 656) (by decide +kernel), List.mem_of_getElem? (i := 657) (by decide +kernel)⟩
theorem lw_p14 : lw_okq (⟨"NightHours$Reader", "takeJoin", "(I)V"⟩, 13) := ⟨⟨by decide +kernel, by decide +kernel⟩, List.mem_of_getElem? (i := 27) (by decide +kernel), List.mem_of_getElem? (i := 660) (by decide +kernel), List.mem_of_getElem? (i := 661) (by decide +kernel)⟩
theorem lw_p15 : lw_okq (⟨"NightHours$Reader", "takeTrust", "(I)I"⟩, 13) := ⟨⟨by decide +kernel, by decide +kernel⟩, List.mem_of_getElem? (i := 27) (by decide +kernel), List.mem_of_getElem? (i := 664) (by decide +kernel), List.mem_of_getElem? (i := 665) (by decide +kernel)⟩
def lw_privs_1 : List (MethodName × Nat) := [(⟨"NightHours", "putFour", "(I)V"⟩, 14), (⟨"NightHours$Tokens", "scanOne", "([BII)I"⟩, 4), (⟨"NightHours$Reader", "syntaxFault", "()I"⟩, 13), (⟨"NightHours$Grammar", "hasRoom", "(II)Z"⟩, 4), (⟨"NightHours$Reader", "meaningFault", "()I"⟩, 13), (⟨"NightHours$Reader", "take", "(IIJ)I"⟩, 13), (⟨"NightHours$Reader", "takeNew", "(J)I"⟩, 13), (⟨"NightHours$Reader", "numberNew", "(I)I"⟩, 13), (⟨"NightHours$Reader", "addSaying", "()I"⟩, 13), (⟨"NightHours$Reader", "takePath", "(IJ)I"⟩, 13), (⟨"NightHours$Reader", "find", "(JI)I"⟩, 13), (⟨"NightHours$Reader", "takeWhere", "(IJ)I"⟩, 13), (⟨"NightHours$Reader", "takeOpen", "(IJ)I"⟩, 13), (⟨"NightHours$Reader", "takeSpanTime", "(IJ)I"⟩, 13), (⟨"NightHours$Reader", "takeJoin", "(I)V"⟩, 13), (⟨"NightHours$Reader", "takeTrust", "(I)I"⟩, 13)]
theorem lw_r1 : ∀ q ∈ lw_privs_1, lw_okq q := List.forall_mem_cons.mpr ⟨lw_p0, List.forall_mem_cons.mpr ⟨lw_p1, List.forall_mem_cons.mpr ⟨lw_p2, List.forall_mem_cons.mpr ⟨lw_p3, List.forall_mem_cons.mpr ⟨lw_p4, List.forall_mem_cons.mpr ⟨lw_p5, List.forall_mem_cons.mpr ⟨lw_p6, List.forall_mem_cons.mpr ⟨lw_p7, List.forall_mem_cons.mpr ⟨lw_p8, List.forall_mem_cons.mpr ⟨lw_p9, List.forall_mem_cons.mpr ⟨lw_p10, List.forall_mem_cons.mpr ⟨lw_p11, List.forall_mem_cons.mpr ⟨lw_p12, List.forall_mem_cons.mpr ⟨lw_p13, List.forall_mem_cons.mpr ⟨lw_p14, List.forall_mem_cons.mpr ⟨lw_p15, fun _ h => absurd h List.not_mem_nil⟩⟩⟩⟩⟩⟩⟩⟩⟩⟩⟩⟩⟩⟩⟩⟩
theorem lw_p16 : lw_okq (⟨"NightHours$Reader", "takeInt", "(III)I"⟩, 13) := ⟨⟨by decide +kernel, by decide +kernel⟩, List.mem_of_getElem? (i := 27) (by decide +kernel), List.mem_of_getElem? (i := 668) (by decide +kernel), List.mem_of_getElem? (i := 669) (by decide +kernel)⟩
theorem lw_p17 : lw_okq (⟨"NightHours$Reader", "endPathOrOpen", "(I)V"⟩, 13) := ⟨⟨by decide +kernel, by decide +kernel⟩, List.mem_of_getElem? (i := 27) (by decide +kernel), List.mem_of_getElem? (i := 672) (by decide +kernel), List.mem_of_getElem? (i := 673) (by decide +kernel)⟩
theorem lw_p18 : lw_okq (⟨"NightHours$Reader", "endSpan", "(I)V"⟩, 13) := ⟨⟨by decide +kernel, by decide +kernel⟩, List.mem_of_getElem? (i := 27) (by decide +kernel), List.mem_of_getElem? (i := 688) (by decide +kernel), List.mem_of_getElem? (i := 689) (by decide +kernel)⟩
theorem lw_p19 : lw_okq (⟨"NightHours", "stale", "()V"⟩, 14) := ⟨⟨by decide +kernel, by decide +kernel⟩, List.mem_of_getElem? (i := 19) (by decide +kernel), List.mem_of_getElem? (i := 718) (by decide +kernel), List.mem_of_getElem? (i := 719) (by decide +kernel)⟩
theorem lw_p20 : lw_okq (⟨"NightHours", "isSay", "(I)Z"⟩, 14) := ⟨⟨by decide +kernel, by decide +kernel⟩, List.mem_of_getElem? (i := 19) (by decide +kernel), List.mem_of_getElem? (i := 730) (by decide +kernel), List.mem_of_getElem? (i := 731) (by decide +kernel)⟩
theorem lw_p21 : lw_okq (⟨"NightHours", "isSaying", "(I)Z"⟩, 14) := ⟨⟨by decide +kernel, by decide +kernel⟩, List.mem_of_getElem? (i := 19) (by decide +kernel), List.mem_of_getElem? (i := 734) (by decide +kernel), List.mem_of_getElem? (i := 735) (by decide +kernel)⟩
theorem lw_p22 : lw_okq (⟨"NightHours", "isPlace", "(I)Z"⟩, 14) := ⟨⟨by decide +kernel, by decide +kernel⟩, List.mem_of_getElem? (i := 19) (by decide +kernel), List.mem_of_getElem? (i := 742) (by decide +kernel), List.mem_of_getElem? (i := 743) (by decide +kernel)⟩
theorem lw_p23 : lw_okq (⟨"NightHours", "isGoneThrough", "()Z"⟩, 14) := ⟨⟨by decide +kernel, by decide +kernel⟩, List.mem_of_getElem? (i := 19) (by decide +kernel), List.mem_of_getElem? (i := 755) (by decide +kernel), List.mem_of_getElem? (i := 756) (by decide +kernel)⟩
theorem lw_p24 : lw_okq (⟨"NightHours$Going", "layBase", "(I)V"⟩, 18) := ⟨⟨by decide +kernel, by decide +kernel⟩, List.mem_of_getElem? (i := 319) (by decide +kernel), List.mem_of_getElem? (i := 767) (by decide +kernel), List.mem_of_getElem? (i := 768) (by decide +kernel)⟩
theorem lw_p25 : lw_okq (⟨"NightHours$Net", "hasNode", "(I)Z"⟩, 6) := ⟨⟨by decide +kernel, by decide +kernel⟩, List.mem_of_getElem? (i := 325) (by decide +kernel), List.mem_of_getElem? (i := 779) (by decide +kernel), List.mem_of_getElem? (i := 780) (by decide +kernel)⟩
theorem lw_p26 : lw_okq (⟨"NightHours$Net", "tightenRow", "(III)V"⟩, 6) := ⟨⟨by decide +kernel, by decide +kernel⟩, List.mem_of_getElem? (i := 325) (by decide +kernel), List.mem_of_getElem? (i := 791) (by decide +kernel), List.mem_of_getElem? (i := 792) (by decide +kernel)⟩
theorem lw_p27 : lw_okq (⟨"NightHours$Going", "addItem", "(I)V"⟩, 18) := ⟨⟨by decide +kernel, by decide +kernel⟩, List.mem_of_getElem? (i := 319) (by decide +kernel), List.mem_of_getElem? (i := 795) (by decide +kernel), List.mem_of_getElem? (i := 796) (by decide +kernel)⟩
theorem lw_p28 : lw_okq (⟨"NightHours$Going", "noteWay", "(LNightHours$Book;)V"⟩, 18) := ⟨⟨by decide +kernel, by decide +kernel⟩, List.mem_of_getElem? (i := 319) (by decide +kernel), List.mem_of_getElem? (i := 803) (by decide +kernel), List.mem_of_getElem? (i := 804) (by decide +kernel)⟩
theorem lw_p29 : lw_okq (⟨"NightHours$Net", "hasLevel", "(I)Z"⟩, 6) := ⟨⟨by decide +kernel, by decide +kernel⟩, List.mem_of_getElem? (i := 325) (by decide +kernel), List.mem_of_getElem? (i := 815) (by decide +kernel), List.mem_of_getElem? (i := 816) (by decide +kernel)⟩
theorem lw_p30 : lw_okq (⟨"NightHours$Going", "choicesOf", "(I)I"⟩, 18) := ⟨⟨by decide +kernel, by decide +kernel⟩, List.mem_of_getElem? (i := 319) (by decide +kernel), List.mem_of_getElem? (i := 825) (by decide +kernel), List.mem_of_getElem? (i := 826) (by decide +kernel)⟩
theorem lw_p31 : lw_okq (⟨"NightHours$Going", "walkOf", "(I)I"⟩, 18) := ⟨⟨by decide +kernel, by decide +kernel⟩, List.mem_of_getElem? (i := 319) (by decide +kernel), List.mem_of_getElem? (i := 829) (by decide +kernel), List.mem_of_getElem? (i := 830) (by decide +kernel)⟩
def lw_privs_2 : List (MethodName × Nat) := [(⟨"NightHours$Reader", "takeInt", "(III)I"⟩, 13), (⟨"NightHours$Reader", "endPathOrOpen", "(I)V"⟩, 13), (⟨"NightHours$Reader", "endSpan", "(I)V"⟩, 13), (⟨"NightHours", "stale", "()V"⟩, 14), (⟨"NightHours", "isSay", "(I)Z"⟩, 14), (⟨"NightHours", "isSaying", "(I)Z"⟩, 14), (⟨"NightHours", "isPlace", "(I)Z"⟩, 14), (⟨"NightHours", "isGoneThrough", "()Z"⟩, 14), (⟨"NightHours$Going", "layBase", "(I)V"⟩, 18), (⟨"NightHours$Net", "hasNode", "(I)Z"⟩, 6), (⟨"NightHours$Net", "tightenRow", "(III)V"⟩, 6), (⟨"NightHours$Going", "addItem", "(I)V"⟩, 18), (⟨"NightHours$Going", "noteWay", "(LNightHours$Book;)V"⟩, 18), (⟨"NightHours$Net", "hasLevel", "(I)Z"⟩, 6), (⟨"NightHours$Going", "choicesOf", "(I)I"⟩, 18), (⟨"NightHours$Going", "walkOf", "(I)I"⟩, 18)]
theorem lw_r2 : ∀ q ∈ lw_privs_2, lw_okq q := List.forall_mem_cons.mpr ⟨lw_p16, List.forall_mem_cons.mpr ⟨lw_p17, List.forall_mem_cons.mpr ⟨lw_p18, List.forall_mem_cons.mpr ⟨lw_p19, List.forall_mem_cons.mpr ⟨lw_p20, List.forall_mem_cons.mpr ⟨lw_p21, List.forall_mem_cons.mpr ⟨lw_p22, List.forall_mem_cons.mpr ⟨lw_p23, List.forall_mem_cons.mpr ⟨lw_p24, List.forall_mem_cons.mpr ⟨lw_p25, List.forall_mem_cons.mpr ⟨lw_p26, List.forall_mem_cons.mpr ⟨lw_p27, List.forall_mem_cons.mpr ⟨lw_p28, List.forall_mem_cons.mpr ⟨lw_p29, List.forall_mem_cons.mpr ⟨lw_p30, List.forall_mem_cons.mpr ⟨lw_p31, fun _ h => absurd h List.not_mem_nil⟩⟩⟩⟩⟩⟩⟩⟩⟩⟩⟩⟩⟩⟩⟩⟩
theorem lw_p32 : lw_okq (⟨"NightHours$Going", "pushMove", "(III)Z"⟩, 18) := ⟨⟨by decide +kernel, by decide +kernel⟩, List.mem_of_getElem? (i := 319) (by decide +kernel), List.mem_of_getElem? (i := 845) (by decide +kernel), List.mem_of_getElem? (i := 846) (by decide +kernel)⟩
theorem lw_p33 : lw_okq (⟨"NightHours", "levelOf", "(I)I"⟩, 14) := ⟨⟨by decide +kernel, by decide +kernel⟩, List.mem_of_getElem? (i := 19) (by decide +kernel), List.mem_of_getElem? (i := 859) (by decide +kernel), List.mem_of_getElem? (i := 860) (by decide +kernel)⟩
theorem lw_p34 : lw_okq (⟨"NightHours", "isDoubted", "(I)Z"⟩, 14) := ⟨⟨by decide +kernel, by decide +kernel⟩, List.mem_of_getElem? (i := 19) (by decide +kernel), List.mem_of_getElem? (i := 871) (by decide +kernel), List.mem_of_getElem? (i := 872) (by decide +kernel)⟩
theorem lw_p35 : lw_okq (⟨"NightHours", "isTime", "(I)Z"⟩, 14) := ⟨⟨by decide +kernel, by decide +kernel⟩, List.mem_of_getElem? (i := 19) (by decide +kernel), List.mem_of_getElem? (i := 884) (by decide +kernel), List.mem_of_getElem? (i := 885) (by decide +kernel)⟩
theorem lw_p36 : lw_okq (⟨"NightHours$Quarrelling", "goThroughAll", "(LNightHours$Told;LNightHours$Held;I)Z"⟩, 12) := ⟨⟨by decide +kernel, by decide +kernel⟩, List.mem_of_getElem? (i := 418) (by decide +kernel), List.mem_of_getElem? (i := 950) (by decide +kernel), List.mem_of_getElem? (i := 951) (by decide +kernel)⟩
theorem lw_p37 : lw_okq (⟨"NightHours$Quarrelling", "listSets", "(II)V"⟩, 12) := ⟨⟨by decide +kernel, by decide +kernel⟩, List.mem_of_getElem? (i := 418) (by decide +kernel), List.mem_of_getElem? (i := 956) (by decide +kernel), List.mem_of_getElem? (i := 957) (by decide +kernel)⟩
theorem lw_p38 : lw_okq (⟨"NightHours$Quarrelling", "isQuarrel", "(I)Z"⟩, 12) := ⟨⟨by decide +kernel, by decide +kernel⟩, List.mem_of_getElem? (i := 418) (by decide +kernel), List.mem_of_getElem? (i := 966) (by decide +kernel), List.mem_of_getElem? (i := 967) (by decide +kernel)⟩
theorem lw_p39 : lw_okq (⟨"NightHours$Quarrelling", "isGivingUp", "(II)Z"⟩, 12) := ⟨⟨by decide +kernel, by decide +kernel⟩, List.mem_of_getElem? (i := 418) (by decide +kernel), List.mem_of_getElem? (i := 970) (by decide +kernel), List.mem_of_getElem? (i := 971) (by decide +kernel)⟩
theorem lw_p40 : lw_okq (⟨"NightHours$Quarrelling", "holdTogether", "(LNightHours$Held;J)Z"⟩, 12) := ⟨⟨by decide +kernel, by decide +kernel⟩, List.mem_of_getElem? (i := 418) (by decide +kernel), List.mem_of_getElem? (i := 1015) (by decide +kernel), List.mem_of_getElem? (i := 1016) (by decide +kernel)⟩
theorem lw_p41 : lw_okq (⟨"NightHours$Quarrelling", "listRing", "(LNightHours$Held;)V"⟩, 12) := ⟨⟨by decide +kernel, by decide +kernel⟩, List.mem_of_getElem? (i := 418) (by decide +kernel), List.mem_of_getElem? (i := 1023) (by decide +kernel), List.mem_of_getElem? (i := 1024) (by decide +kernel)⟩
theorem lw_p42 : lw_okq (⟨"NightHours", "isPerson", "(I)Z"⟩, 14) := ⟨⟨by decide +kernel, by decide +kernel⟩, List.mem_of_getElem? (i := 19) (by decide +kernel), List.mem_of_getElem? (i := 1039) (by decide +kernel), List.mem_of_getElem? (i := 1040) (by decide +kernel)⟩
theorem lw_p43 : lw_okq (⟨"NightHours", "goWithGuest", "(IIII)V"⟩, 14) := ⟨⟨by decide +kernel, by decide +kernel⟩, List.mem_of_getElem? (i := 19) (by decide +kernel), List.mem_of_getElem? (i := 1043) (by decide +kernel), List.mem_of_getElem? (i := 1044) (by decide +kernel)⟩
theorem lw_p44 : lw_okq (⟨"NightHours$Asking", "isLeft", "(LNightHours$Told;IIII)Z"⟩, 6) := ⟨⟨by decide +kernel, by decide +kernel⟩, List.mem_of_getElem? (i := 470) (by decide +kernel), List.mem_of_getElem? (i := 1078) (by decide +kernel), List.mem_of_getElem? (i := 1079) (by decide +kernel)⟩
theorem lw_p45 : lw_okq (⟨"NightHours$Asking", "answer", "(LNightHours$Told;III)Z"⟩, 6) := ⟨⟨by decide +kernel, by decide +kernel⟩, List.mem_of_getElem? (i := 470) (by decide +kernel), List.mem_of_getElem? (i := 1082) (by decide +kernel), List.mem_of_getElem? (i := 1083) (by decide +kernel)⟩
theorem lw_p46 : lw_okq (⟨"NightHours", "planTo", "(I)I"⟩, 14) := ⟨⟨by decide +kernel, by decide +kernel⟩, List.mem_of_getElem? (i := 19) (by decide +kernel), List.mem_of_getElem? (i := 1093) (by decide +kernel), List.mem_of_getElem? (i := 1094) (by decide +kernel)⟩
theorem lw_p47 : lw_okq (⟨"NightHours$Asking", "spread", "(LNightHours$Told;IIII)V"⟩, 6) := ⟨⟨by decide +kernel, by decide +kernel⟩, List.mem_of_getElem? (i := 470) (by decide +kernel), List.mem_of_getElem? (i := 1102) (by decide +kernel), List.mem_of_getElem? (i := 1103) (by decide +kernel)⟩
def lw_privs_3 : List (MethodName × Nat) := [(⟨"NightHours$Going", "pushMove", "(III)Z"⟩, 18), (⟨"NightHours", "levelOf", "(I)I"⟩, 14), (⟨"NightHours", "isDoubted", "(I)Z"⟩, 14), (⟨"NightHours", "isTime", "(I)Z"⟩, 14), (⟨"NightHours$Quarrelling", "goThroughAll", "(LNightHours$Told;LNightHours$Held;I)Z"⟩, 12), (⟨"NightHours$Quarrelling", "listSets", "(II)V"⟩, 12), (⟨"NightHours$Quarrelling", "isQuarrel", "(I)Z"⟩, 12), (⟨"NightHours$Quarrelling", "isGivingUp", "(II)Z"⟩, 12), (⟨"NightHours$Quarrelling", "holdTogether", "(LNightHours$Held;J)Z"⟩, 12), (⟨"NightHours$Quarrelling", "listRing", "(LNightHours$Held;)V"⟩, 12), (⟨"NightHours", "isPerson", "(I)Z"⟩, 14), (⟨"NightHours", "goWithGuest", "(IIII)V"⟩, 14), (⟨"NightHours$Asking", "isLeft", "(LNightHours$Told;IIII)Z"⟩, 6), (⟨"NightHours$Asking", "answer", "(LNightHours$Told;III)Z"⟩, 6), (⟨"NightHours", "planTo", "(I)I"⟩, 14), (⟨"NightHours$Asking", "spread", "(LNightHours$Told;IIII)V"⟩, 6)]
theorem lw_r3 : ∀ q ∈ lw_privs_3, lw_okq q := List.forall_mem_cons.mpr ⟨lw_p32, List.forall_mem_cons.mpr ⟨lw_p33, List.forall_mem_cons.mpr ⟨lw_p34, List.forall_mem_cons.mpr ⟨lw_p35, List.forall_mem_cons.mpr ⟨lw_p36, List.forall_mem_cons.mpr ⟨lw_p37, List.forall_mem_cons.mpr ⟨lw_p38, List.forall_mem_cons.mpr ⟨lw_p39, List.forall_mem_cons.mpr ⟨lw_p40, List.forall_mem_cons.mpr ⟨lw_p41, List.forall_mem_cons.mpr ⟨lw_p42, List.forall_mem_cons.mpr ⟨lw_p43, List.forall_mem_cons.mpr ⟨lw_p44, List.forall_mem_cons.mpr ⟨lw_p45, List.forall_mem_cons.mpr ⟨lw_p46, List.forall_mem_cons.mpr ⟨lw_p47, fun _ h => absurd h List.not_mem_nil⟩⟩⟩⟩⟩⟩⟩⟩⟩⟩⟩⟩⟩⟩⟩⟩
theorem lw_p48 : lw_okq (⟨"NightHours$Asking", "countLeft", "(II)I"⟩, 6) := ⟨⟨by decide +kernel, by decide +kernel⟩, List.mem_of_getElem? (i := 470) (by decide +kernel), List.mem_of_getElem? (i := 1111) (by decide +kernel), List.mem_of_getElem? (i := 1112) (by decide +kernel)⟩
theorem lw_p49 : lw_okq (⟨"NightHours$Asking", "neededWith", "(II)I"⟩, 6) := ⟨⟨by decide +kernel, by decide +kernel⟩, List.mem_of_getElem? (i := 470) (by decide +kernel), List.mem_of_getElem? (i := 1119) (by decide +kernel), List.mem_of_getElem? (i := 1120) (by decide +kernel)⟩
theorem lw_p50 : lw_okq (⟨"NightHours", "whereAt", "(III)I"⟩, 14) := ⟨⟨by decide +kernel, by decide +kernel⟩, List.mem_of_getElem? (i := 19) (by decide +kernel), List.mem_of_getElem? (i := 1173) (by decide +kernel), List.mem_of_getElem? (i := 1174) (by decide +kernel)⟩
theorem lw_p51 : lw_okq (⟨"NightHours", "leastGive", "(I)I"⟩, 14) := ⟨⟨by decide +kernel, by decide +kernel⟩, List.mem_of_getElem? (i := 19) (by decide +kernel), List.mem_of_getElem? (i := 1181) (by decide +kernel), List.mem_of_getElem? (i := 1182) (by decide +kernel)⟩
theorem lw_p52 : lw_okq (⟨"NightHours", "isKept", "(I)Z"⟩, 14) := ⟨⟨by decide +kernel, by decide +kernel⟩, List.mem_of_getElem? (i := 19) (by decide +kernel), List.mem_of_getElem? (i := 1197) (by decide +kernel), List.mem_of_getElem? (i := 1198) (by decide +kernel)⟩
theorem lw_p53 : lw_okq (⟨"NightHoursModel", "put", "(I)V"⟩, 97) := ⟨⟨by decide +kernel, by decide +kernel⟩, List.mem_of_getElem? (i := 1213) (by decide +kernel), List.mem_of_getElem? (i := 1521) (by decide +kernel), List.mem_of_getElem? (i := 1522) (by decide +kernel)⟩
theorem lw_p54 : lw_okq (⟨"NightHoursModel", "cut", "()V"⟩, 97) := ⟨⟨by decide +kernel, by decide +kernel⟩, List.mem_of_getElem? (i := 1213) (by decide +kernel), List.mem_of_getElem? (i := 1533) (by decide +kernel), List.mem_of_getElem? (i := 1534) (by decide +kernel)⟩
theorem lw_p55 : lw_okq (⟨"NightHoursModel", "byteAt", "(I)I"⟩, 97) := ⟨⟨by decide +kernel, by decide +kernel⟩, List.mem_of_getElem? (i := 1213) (by decide +kernel), List.mem_of_getElem? (i := 1537) (by decide +kernel), List.mem_of_getElem? (i := 1538) (by decide +kernel)⟩
theorem lw_p56 : lw_okq (⟨"NightHoursModel", "token", "(IIIJ)V"⟩, 97) := ⟨⟨by decide +kernel, by decide +kernel⟩, List.mem_of_getElem? (i := 1213) (by decide +kernel), List.mem_of_getElem? (i := 1541) (by decide +kernel), List.mem_of_getElem? (i := 1542) (by decide +kernel)⟩
theorem lw_p57 : lw_okq (⟨"NightHoursModel", "is", "(I)Z"⟩, 97) := ⟨⟨by decide +kernel, by decide +kernel⟩, List.mem_of_getElem? (i := 1213) (by decide +kernel), List.mem_of_getElem? (i := 1554) (by decide +kernel), List.mem_of_getElem? (i := 1555) (by decide +kernel)⟩
theorem lw_p58 : lw_okq (⟨"NightHoursModel", "tell", "()V"⟩, 97) := ⟨⟨by decide +kernel, by decide +kernel⟩, List.mem_of_getElem? (i := 1213) (by decide +kernel), List.mem_of_getElem? (i := 1558) (by decide +kernel), List.mem_of_getElem? (i := 1559) (by decide +kernel)⟩
theorem lw_p59 : lw_okq (⟨"NightHoursModel", "fail", "(I)V"⟩, 97) := ⟨⟨by decide +kernel, by decide +kernel⟩, List.mem_of_getElem? (i := 1213) (by decide +kernel), List.mem_of_getElem? (i := 1562) (by decide +kernel), List.mem_of_getElem? (i := 1563) (by decide +kernel)⟩
theorem lw_p60 : lw_okq (⟨"NightHoursModel", "tellName", "(I)V"⟩, 97) := ⟨⟨by decide +kernel, by decide +kernel⟩, List.mem_of_getElem? (i := 1213) (by decide +kernel), List.mem_of_getElem? (i := 1566) (by decide +kernel), List.mem_of_getElem? (i := 1567) (by decide +kernel)⟩
theorem lw_p61 : lw_okq (⟨"NightHoursModel", "goesOn", "()V"⟩, 97) := ⟨⟨by decide +kernel, by decide +kernel⟩, List.mem_of_getElem? (i := 1213) (by decide +kernel), List.mem_of_getElem? (i := 1570) (by decide +kernel), List.mem_of_getElem? (i := 1571) (by decide +kernel)⟩
theorem lw_p62 : lw_okq (⟨"NightHoursModel", "named", "()I"⟩, 97) := ⟨⟨by decide +kernel, by decide +kernel⟩, List.mem_of_getElem? (i := 1213) (by decide +kernel), List.mem_of_getElem? (i := 1574) (by decide +kernel), List.mem_of_getElem? (i := 1575) (by decide +kernel)⟩
theorem lw_p63 : lw_okq (⟨"NightHoursModel", "must", "(I)V"⟩, 97) := ⟨⟨by decide +kernel, by decide +kernel⟩, List.mem_of_getElem? (i := 1213) (by decide +kernel), List.mem_of_getElem? (i := 1578) (by decide +kernel), List.mem_of_getElem? (i := 1579) (by decide +kernel)⟩
def lw_privs_4 : List (MethodName × Nat) := [(⟨"NightHours$Asking", "countLeft", "(II)I"⟩, 6), (⟨"NightHours$Asking", "neededWith", "(II)I"⟩, 6), (⟨"NightHours", "whereAt", "(III)I"⟩, 14), (⟨"NightHours", "leastGive", "(I)I"⟩, 14), (⟨"NightHours", "isKept", "(I)Z"⟩, 14), (⟨"NightHoursModel", "put", "(I)V"⟩, 97), (⟨"NightHoursModel", "cut", "()V"⟩, 97), (⟨"NightHoursModel", "byteAt", "(I)I"⟩, 97), (⟨"NightHoursModel", "token", "(IIIJ)V"⟩, 97), (⟨"NightHoursModel", "is", "(I)Z"⟩, 97), (⟨"NightHoursModel", "tell", "()V"⟩, 97), (⟨"NightHoursModel", "fail", "(I)V"⟩, 97), (⟨"NightHoursModel", "tellName", "(I)V"⟩, 97), (⟨"NightHoursModel", "goesOn", "()V"⟩, 97), (⟨"NightHoursModel", "named", "()I"⟩, 97), (⟨"NightHoursModel", "must", "(I)V"⟩, 97)]
theorem lw_r4 : ∀ q ∈ lw_privs_4, lw_okq q := List.forall_mem_cons.mpr ⟨lw_p48, List.forall_mem_cons.mpr ⟨lw_p49, List.forall_mem_cons.mpr ⟨lw_p50, List.forall_mem_cons.mpr ⟨lw_p51, List.forall_mem_cons.mpr ⟨lw_p52, List.forall_mem_cons.mpr ⟨lw_p53, List.forall_mem_cons.mpr ⟨lw_p54, List.forall_mem_cons.mpr ⟨lw_p55, List.forall_mem_cons.mpr ⟨lw_p56, List.forall_mem_cons.mpr ⟨lw_p57, List.forall_mem_cons.mpr ⟨lw_p58, List.forall_mem_cons.mpr ⟨lw_p59, List.forall_mem_cons.mpr ⟨lw_p60, List.forall_mem_cons.mpr ⟨lw_p61, List.forall_mem_cons.mpr ⟨lw_p62, List.forall_mem_cons.mpr ⟨lw_p63, fun _ h => absurd h List.not_mem_nil⟩⟩⟩⟩⟩⟩⟩⟩⟩⟩⟩⟩⟩⟩⟩⟩
theorem lw_p64 : lw_okq (⟨"NightHoursModel", "wrong", "(II)V"⟩, 97) := ⟨⟨by decide +kernel, by decide +kernel⟩, List.mem_of_getElem? (i := 1213) (by decide +kernel), List.mem_of_getElem? (i := 1582) (by decide +kernel), List.mem_of_getElem? (i := 1583) (by decide +kernel)⟩
theorem lw_p65 : lw_okq (⟨"NightHoursModel", "knows", "(III)V"⟩, 97) := ⟨⟨by decide +kernel, by decide +kernel⟩, List.mem_of_getElem? (i := 1213) (by decide +kernel), List.mem_of_getElem? (i := 1586) (by decide +kernel), List.mem_of_getElem? (i := 1587) (by decide +kernel)⟩
theorem lw_p66 : lw_okq (⟨"NightHoursModel", "tellWay", "()V"⟩, 97) := ⟨⟨by decide +kernel, by decide +kernel⟩, List.mem_of_getElem? (i := 1213) (by decide +kernel), List.mem_of_getElem? (i := 1590) (by decide +kernel), List.mem_of_getElem? (i := 1591) (by decide +kernel)⟩
theorem lw_p67 : lw_okq (⟨"NightHoursModel", "known", "(I)I"⟩, 97) := ⟨⟨by decide +kernel, by decide +kernel⟩, List.mem_of_getElem? (i := 1213) (by decide +kernel), List.mem_of_getElem? (i := 1594) (by decide +kernel), List.mem_of_getElem? (i := 1595) (by decide +kernel)⟩
theorem lw_p68 : lw_okq (⟨"NightHoursModel", "number", "(Z)I"⟩, 97) := ⟨⟨by decide +kernel, by decide +kernel⟩, List.mem_of_getElem? (i := 1213) (by decide +kernel), List.mem_of_getElem? (i := 1598) (by decide +kernel), List.mem_of_getElem? (i := 1599) (by decide +kernel)⟩
theorem lw_p69 : lw_okq (⟨"NightHoursModel", "tellTime", "()V"⟩, 97) := ⟨⟨by decide +kernel, by decide +kernel⟩, List.mem_of_getElem? (i := 1213) (by decide +kernel), List.mem_of_getElem? (i := 1602) (by decide +kernel), List.mem_of_getElem? (i := 1603) (by decide +kernel)⟩
theorem lw_p70 : lw_okq (⟨"NightHoursModel", "tellSaying", "()V"⟩, 97) := ⟨⟨by decide +kernel, by decide +kernel⟩, List.mem_of_getElem? (i := 1213) (by decide +kernel), List.mem_of_getElem? (i := 1606) (by decide +kernel), List.mem_of_getElem? (i := 1607) (by decide +kernel)⟩
theorem lw_p71 : lw_okq (⟨"NightHoursModel", "tellAll", "(I)V"⟩, 97) := ⟨⟨by decide +kernel, by decide +kernel⟩, List.mem_of_getElem? (i := 1213) (by decide +kernel), List.mem_of_getElem? (i := 1610) (by decide +kernel), List.mem_of_getElem? (i := 1611) (by decide +kernel)⟩
theorem lw_p72 : lw_okq (⟨"NightHoursModel", "tellSpan", "(I)V"⟩, 97) := ⟨⟨by decide +kernel, by decide +kernel⟩, List.mem_of_getElem? (i := 1213) (by decide +kernel), List.mem_of_getElem? (i := 1614) (by decide +kernel), List.mem_of_getElem? (i := 1615) (by decide +kernel)⟩
theorem lw_p73 : lw_okq (⟨"NightHoursModel", "tellOpen", "()V"⟩, 97) := ⟨⟨by decide +kernel, by decide +kernel⟩, List.mem_of_getElem? (i := 1213) (by decide +kernel), List.mem_of_getElem? (i := 1618) (by decide +kernel), List.mem_of_getElem? (i := 1619) (by decide +kernel)⟩
theorem lw_p74 : lw_okq (⟨"NightHoursModel", "tellQuestion", "()V"⟩, 97) := ⟨⟨by decide +kernel, by decide +kernel⟩, List.mem_of_getElem? (i := 1213) (by decide +kernel), List.mem_of_getElem? (i := 1622) (by decide +kernel), List.mem_of_getElem? (i := 1623) (by decide +kernel)⟩
theorem lw_p75 : lw_okq (⟨"NightHoursModel", "walks", "()V"⟩, 97) := ⟨⟨by decide +kernel, by decide +kernel⟩, List.mem_of_getElem? (i := 1213) (by decide +kernel), List.mem_of_getElem? (i := 1626) (by decide +kernel), List.mem_of_getElem? (i := 1627) (by decide +kernel)⟩
theorem lw_p76 : lw_okq (⟨"NightHoursModel", "meets", "()V"⟩, 97) := ⟨⟨by decide +kernel, by decide +kernel⟩, List.mem_of_getElem? (i := 1213) (by decide +kernel), List.mem_of_getElem? (i := 1630) (by decide +kernel), List.mem_of_getElem? (i := 1631) (by decide +kernel)⟩
theorem lw_p77 : lw_okq (⟨"NightHoursModel", "changes", "()V"⟩, 97) := ⟨⟨by decide +kernel, by decide +kernel⟩, List.mem_of_getElem? (i := 1213) (by decide +kernel), List.mem_of_getElem? (i := 1634) (by decide +kernel), List.mem_of_getElem? (i := 1635) (by decide +kernel)⟩
theorem lw_p78 : lw_okq (⟨"NightHoursModel", "isTime", "(I)Z"⟩, 97) := ⟨⟨by decide +kernel, by decide +kernel⟩, List.mem_of_getElem? (i := 1213) (by decide +kernel), List.mem_of_getElem? (i := 1646) (by decide +kernel), List.mem_of_getElem? (i := 1647) (by decide +kernel)⟩
theorem lw_p79 : lw_okq (⟨"NightHoursModel", "isSaying", "(I)Z"⟩, 97) := ⟨⟨by decide +kernel, by decide +kernel⟩, List.mem_of_getElem? (i := 1213) (by decide +kernel), List.mem_of_getElem? (i := 1661) (by decide +kernel), List.mem_of_getElem? (i := 1662) (by decide +kernel)⟩
def lw_privs_5 : List (MethodName × Nat) := [(⟨"NightHoursModel", "wrong", "(II)V"⟩, 97), (⟨"NightHoursModel", "knows", "(III)V"⟩, 97), (⟨"NightHoursModel", "tellWay", "()V"⟩, 97), (⟨"NightHoursModel", "known", "(I)I"⟩, 97), (⟨"NightHoursModel", "number", "(Z)I"⟩, 97), (⟨"NightHoursModel", "tellTime", "()V"⟩, 97), (⟨"NightHoursModel", "tellSaying", "()V"⟩, 97), (⟨"NightHoursModel", "tellAll", "(I)V"⟩, 97), (⟨"NightHoursModel", "tellSpan", "(I)V"⟩, 97), (⟨"NightHoursModel", "tellOpen", "()V"⟩, 97), (⟨"NightHoursModel", "tellQuestion", "()V"⟩, 97), (⟨"NightHoursModel", "walks", "()V"⟩, 97), (⟨"NightHoursModel", "meets", "()V"⟩, 97), (⟨"NightHoursModel", "changes", "()V"⟩, 97), (⟨"NightHoursModel", "isTime", "(I)Z"⟩, 97), (⟨"NightHoursModel", "isSaying", "(I)Z"⟩, 97)]
theorem lw_r5 : ∀ q ∈ lw_privs_5, lw_okq q := List.forall_mem_cons.mpr ⟨lw_p64, List.forall_mem_cons.mpr ⟨lw_p65, List.forall_mem_cons.mpr ⟨lw_p66, List.forall_mem_cons.mpr ⟨lw_p67, List.forall_mem_cons.mpr ⟨lw_p68, List.forall_mem_cons.mpr ⟨lw_p69, List.forall_mem_cons.mpr ⟨lw_p70, List.forall_mem_cons.mpr ⟨lw_p71, List.forall_mem_cons.mpr ⟨lw_p72, List.forall_mem_cons.mpr ⟨lw_p73, List.forall_mem_cons.mpr ⟨lw_p74, List.forall_mem_cons.mpr ⟨lw_p75, List.forall_mem_cons.mpr ⟨lw_p76, List.forall_mem_cons.mpr ⟨lw_p77, List.forall_mem_cons.mpr ⟨lw_p78, List.forall_mem_cons.mpr ⟨lw_p79, fun _ h => absurd h List.not_mem_nil⟩⟩⟩⟩⟩⟩⟩⟩⟩⟩⟩⟩⟩⟩⟩⟩
theorem lw_p80 : lw_okq (⟨"NightHoursModel", "goesAll", "()V"⟩, 97) := ⟨⟨by decide +kernel, by decide +kernel⟩, List.mem_of_getElem? (i := 1213) (by decide +kernel), List.mem_of_getElem? (i := 1677) (by decide +kernel), List.mem_of_getElem? (i := 1678) (by decide +kernel)⟩
theorem lw_p81 : lw_okq (⟨"NightHoursModel", "undoubted", "()I"⟩, 97) := ⟨⟨by decide +kernel, by decide +kernel⟩, List.mem_of_getElem? (i := 1213) (by decide +kernel), List.mem_of_getElem? (i := 1681) (by decide +kernel), List.mem_of_getElem? (i := 1682) (by decide +kernel)⟩
theorem lw_p82 : lw_okq (⟨"NightHoursModel", "lists", "(I)V"⟩, 97) := ⟨⟨by decide +kernel, by decide +kernel⟩, List.mem_of_getElem? (i := 1213) (by decide +kernel), List.mem_of_getElem? (i := 1685) (by decide +kernel), List.mem_of_getElem? (i := 1686) (by decide +kernel)⟩
theorem lw_p83 : lw_okq (⟨"NightHoursModel", "begins", "(I)Z"⟩, 97) := ⟨⟨by decide +kernel, by decide +kernel⟩, List.mem_of_getElem? (i := 1213) (by decide +kernel), List.mem_of_getElem? (i := 1689) (by decide +kernel), List.mem_of_getElem? (i := 1690) (by decide +kernel)⟩
theorem lw_p84 : lw_okq (⟨"NightHoursModel", "bound", "(III)Z"⟩, 97) := ⟨⟨by decide +kernel, by decide +kernel⟩, List.mem_of_getElem? (i := 1213) (by decide +kernel), List.mem_of_getElem? (i := 1693) (by decide +kernel), List.mem_of_getElem? (i := 1694) (by decide +kernel)⟩
theorem lw_p85 : lw_okq (⟨"NightHoursModel", "holdsSpan", "(II)Z"⟩, 97) := ⟨⟨by decide +kernel, by decide +kernel⟩, List.mem_of_getElem? (i := 1213) (by decide +kernel), List.mem_of_getElem? (i := 1697) (by decide +kernel), List.mem_of_getElem? (i := 1698) (by decide +kernel)⟩
theorem lw_p86 : lw_okq (⟨"NightHoursModel", "between", "(IIII)Z"⟩, 97) := ⟨⟨by decide +kernel, by decide +kernel⟩, List.mem_of_getElem? (i := 1213) (by decide +kernel), List.mem_of_getElem? (i := 1701) (by decide +kernel), List.mem_of_getElem? (i := 1702) (by decide +kernel)⟩
theorem lw_p87 : lw_okq (⟨"NightHoursModel", "atMost", "(III)Z"⟩, 97) := ⟨⟨by decide +kernel, by decide +kernel⟩, List.mem_of_getElem? (i := 1213) (by decide +kernel), List.mem_of_getElem? (i := 1705) (by decide +kernel), List.mem_of_getElem? (i := 1706) (by decide +kernel)⟩
theorem lw_p88 : lw_okq (⟨"NightHoursModel", "openAt", "(I)I"⟩, 97) := ⟨⟨by decide +kernel, by decide +kernel⟩, List.mem_of_getElem? (i := 1213) (by decide +kernel), List.mem_of_getElem? (i := 1709) (by decide +kernel), List.mem_of_getElem? (i := 1710) (by decide +kernel)⟩
theorem lw_p89 : lw_okq (⟨"NightHoursModel", "searches", "(Z)I"⟩, 97) := ⟨⟨by decide +kernel, by decide +kernel⟩, List.mem_of_getElem? (i := 1213) (by decide +kernel), List.mem_of_getElem? (i := 1713) (by decide +kernel), List.mem_of_getElem? (i := 1714) (by decide +kernel)⟩
theorem lw_p90 : lw_okq (⟨"NightHoursModel", "choices", "(I)I"⟩, 97) := ⟨⟨by decide +kernel, by decide +kernel⟩, List.mem_of_getElem? (i := 1213) (by decide +kernel), List.mem_of_getElem? (i := 1717) (by decide +kernel), List.mem_of_getElem? (i := 1718) (by decide +kernel)⟩
theorem lw_p91 : lw_okq (⟨"NightHoursModel", "copies", "(II)V"⟩, 97) := ⟨⟨by decide +kernel, by decide +kernel⟩, List.mem_of_getElem? (i := 1213) (by decide +kernel), List.mem_of_getElem? (i := 1721) (by decide +kernel), List.mem_of_getElem? (i := 1722) (by decide +kernel)⟩
theorem lw_p92 : lw_okq (⟨"NightHoursModel", "chooses", "(II)Z"⟩, 97) := ⟨⟨by decide +kernel, by decide +kernel⟩, List.mem_of_getElem? (i := 1213) (by decide +kernel), List.mem_of_getElem? (i := 1725) (by decide +kernel), List.mem_of_getElem? (i := 1726) (by decide +kernel)⟩
theorem lw_p93 : lw_okq (⟨"NightHoursModel", "notes", "(IIZ)V"⟩, 97) := ⟨⟨by decide +kernel, by decide +kernel⟩, List.mem_of_getElem? (i := 1213) (by decide +kernel), List.mem_of_getElem? (i := 1729) (by decide +kernel), List.mem_of_getElem? (i := 1730) (by decide +kernel)⟩
theorem lw_p94 : lw_okq (⟨"NightHoursModel", "asks", "(I)I"⟩, 97) := ⟨⟨by decide +kernel, by decide +kernel⟩, List.mem_of_getElem? (i := 1213) (by decide +kernel), List.mem_of_getElem? (i := 1737) (by decide +kernel), List.mem_of_getElem? (i := 1738) (by decide +kernel)⟩
theorem lw_p95 : lw_okq (⟨"NightHoursModel", "choiceOf", "(II)I"⟩, 97) := ⟨⟨by decide +kernel, by decide +kernel⟩, List.mem_of_getElem? (i := 1213) (by decide +kernel), List.mem_of_getElem? (i := 1741) (by decide +kernel), List.mem_of_getElem? (i := 1742) (by decide +kernel)⟩
def lw_privs_6 : List (MethodName × Nat) := [(⟨"NightHoursModel", "goesAll", "()V"⟩, 97), (⟨"NightHoursModel", "undoubted", "()I"⟩, 97), (⟨"NightHoursModel", "lists", "(I)V"⟩, 97), (⟨"NightHoursModel", "begins", "(I)Z"⟩, 97), (⟨"NightHoursModel", "bound", "(III)Z"⟩, 97), (⟨"NightHoursModel", "holdsSpan", "(II)Z"⟩, 97), (⟨"NightHoursModel", "between", "(IIII)Z"⟩, 97), (⟨"NightHoursModel", "atMost", "(III)Z"⟩, 97), (⟨"NightHoursModel", "openAt", "(I)I"⟩, 97), (⟨"NightHoursModel", "searches", "(Z)I"⟩, 97), (⟨"NightHoursModel", "choices", "(I)I"⟩, 97), (⟨"NightHoursModel", "copies", "(II)V"⟩, 97), (⟨"NightHoursModel", "chooses", "(II)Z"⟩, 97), (⟨"NightHoursModel", "notes", "(IIZ)V"⟩, 97), (⟨"NightHoursModel", "asks", "(I)I"⟩, 97), (⟨"NightHoursModel", "choiceOf", "(II)I"⟩, 97)]
theorem lw_r6 : ∀ q ∈ lw_privs_6, lw_okq q := List.forall_mem_cons.mpr ⟨lw_p80, List.forall_mem_cons.mpr ⟨lw_p81, List.forall_mem_cons.mpr ⟨lw_p82, List.forall_mem_cons.mpr ⟨lw_p83, List.forall_mem_cons.mpr ⟨lw_p84, List.forall_mem_cons.mpr ⟨lw_p85, List.forall_mem_cons.mpr ⟨lw_p86, List.forall_mem_cons.mpr ⟨lw_p87, List.forall_mem_cons.mpr ⟨lw_p88, List.forall_mem_cons.mpr ⟨lw_p89, List.forall_mem_cons.mpr ⟨lw_p90, List.forall_mem_cons.mpr ⟨lw_p91, List.forall_mem_cons.mpr ⟨lw_p92, List.forall_mem_cons.mpr ⟨lw_p93, List.forall_mem_cons.mpr ⟨lw_p94, List.forall_mem_cons.mpr ⟨lw_p95, fun _ h => absurd h List.not_mem_nil⟩⟩⟩⟩⟩⟩⟩⟩⟩⟩⟩⟩⟩⟩⟩⟩
theorem lw_p96 : lw_okq (⟨"NightHoursModel", "lays", "(IZ)Z"⟩, 97) := ⟨⟨by decide +kernel, by decide +kernel⟩, List.mem_of_getElem? (i := 1213) (by decide +kernel), List.mem_of_getElem? (i := 1753) (by decide +kernel), List.mem_of_getElem? (i := 1754) (by decide +kernel)⟩
theorem lw_p97 : lw_okq (⟨"NightHoursModel", "gapNow", "(IIZ)I"⟩, 97) := ⟨⟨by decide +kernel, by decide +kernel⟩, List.mem_of_getElem? (i := 1213) (by decide +kernel), List.mem_of_getElem? (i := 1757) (by decide +kernel), List.mem_of_getElem? (i := 1758) (by decide +kernel)⟩
theorem lw_p98 : lw_okq (⟨"NightHoursModel", "isMinute", "(I)Z"⟩, 97) := ⟨⟨by decide +kernel, by decide +kernel⟩, List.mem_of_getElem? (i := 1213) (by decide +kernel), List.mem_of_getElem? (i := 1773) (by decide +kernel), List.mem_of_getElem? (i := 1774) (by decide +kernel)⟩
theorem lw_p99 : lw_okq (⟨"NightHoursModel", "bearsSpan", "(I)I"⟩, 97) := ⟨⟨by decide +kernel, by decide +kernel⟩, List.mem_of_getElem? (i := 1213) (by decide +kernel), List.mem_of_getElem? (i := 1789) (by decide +kernel), List.mem_of_getElem? (i := 1790) (by decide +kernel)⟩
theorem lw_p100 : lw_okq (⟨"NightHoursModel", "sets", "()V"⟩, 97) := ⟨⟨by decide +kernel, by decide +kernel⟩, List.mem_of_getElem? (i := 1213) (by decide +kernel), List.mem_of_getElem? (i := 1801) (by decide +kernel), List.mem_of_getElem? (i := 1802) (by decide +kernel)⟩
theorem lw_p101 : lw_okq (⟨"NightHoursModel", "sureOnes", "()I"⟩, 97) := ⟨⟨by decide +kernel, by decide +kernel⟩, List.mem_of_getElem? (i := 1213) (by decide +kernel), List.mem_of_getElem? (i := 1805) (by decide +kernel), List.mem_of_getElem? (i := 1806) (by decide +kernel)⟩
theorem lw_p102 : lw_okq (⟨"NightHoursModel", "hasWay", "(I)Z"⟩, 97) := ⟨⟨by decide +kernel, by decide +kernel⟩, List.mem_of_getElem? (i := 1213) (by decide +kernel), List.mem_of_getElem? (i := 1809) (by decide +kernel), List.mem_of_getElem? (i := 1810) (by decide +kernel)⟩
theorem lw_p103 : lw_okq (⟨"NightHoursModel", "trustIn", "(I)I"⟩, 97) := ⟨⟨by decide +kernel, by decide +kernel⟩, List.mem_of_getElem? (i := 1213) (by decide +kernel), List.mem_of_getElem? (i := 1832) (by decide +kernel), List.mem_of_getElem? (i := 1833) (by decide +kernel)⟩
theorem lw_p104 : lw_okq (⟨"NightHoursModel", "itemAt", "(I)I"⟩, 97) := ⟨⟨by decide +kernel, by decide +kernel⟩, List.mem_of_getElem? (i := 1213) (by decide +kernel), List.mem_of_getElem? (i := 1845) (by decide +kernel), List.mem_of_getElem? (i := 1846) (by decide +kernel)⟩
theorem lw_p105 : lw_okq (⟨"NightHoursModel", "pickedStands", "()Z"⟩, 97) := ⟨⟨by decide +kernel, by decide +kernel⟩, List.mem_of_getElem? (i := 1213) (by decide +kernel), List.mem_of_getElem? (i := 1853) (by decide +kernel), List.mem_of_getElem? (i := 1854) (by decide +kernel)⟩
theorem lw_p106 : lw_okq (⟨"NightHoursModel", "rings", "()Z"⟩, 97) := ⟨⟨by decide +kernel, by decide +kernel⟩, List.mem_of_getElem? (i := 1213) (by decide +kernel), List.mem_of_getElem? (i := 1861) (by decide +kernel), List.mem_of_getElem? (i := 1862) (by decide +kernel)⟩
theorem lw_p107 : lw_okq (⟨"NightHoursModel", "isPerson", "(I)Z"⟩, 97) := ⟨⟨by decide +kernel, by decide +kernel⟩, List.mem_of_getElem? (i := 1213) (by decide +kernel), List.mem_of_getElem? (i := 1877) (by decide +kernel), List.mem_of_getElem? (i := 1878) (by decide +kernel)⟩
theorem lw_p108 : lw_okq (⟨"NightHoursModel", "oneMore", "(II)V"⟩, 97) := ⟨⟨by decide +kernel, by decide +kernel⟩, List.mem_of_getElem? (i := 1213) (by decide +kernel), List.mem_of_getElem? (i := 1881) (by decide +kernel), List.mem_of_getElem? (i := 1882) (by decide +kernel)⟩
theorem lw_p109 : lw_okq (⟨"NightHoursModel", "meetsAll", "()V"⟩, 97) := ⟨⟨by decide +kernel, by decide +kernel⟩, List.mem_of_getElem? (i := 1213) (by decide +kernel), List.mem_of_getElem? (i := 1889) (by decide +kernel), List.mem_of_getElem? (i := 1890) (by decide +kernel)⟩
theorem lw_p110 : lw_okq (⟨"NightHoursModel", "sees", "(I)V"⟩, 97) := ⟨⟨by decide +kernel, by decide +kernel⟩, List.mem_of_getElem? (i := 1213) (by decide +kernel), List.mem_of_getElem? (i := 1893) (by decide +kernel), List.mem_of_getElem? (i := 1894) (by decide +kernel)⟩
theorem lw_p111 : lw_okq (⟨"NightHoursModel", "leftOf", "(II)I"⟩, 97) := ⟨⟨by decide +kernel, by decide +kernel⟩, List.mem_of_getElem? (i := 1213) (by decide +kernel), List.mem_of_getElem? (i := 1901) (by decide +kernel), List.mem_of_getElem? (i := 1902) (by decide +kernel)⟩
def lw_privs_7 : List (MethodName × Nat) := [(⟨"NightHoursModel", "lays", "(IZ)Z"⟩, 97), (⟨"NightHoursModel", "gapNow", "(IIZ)I"⟩, 97), (⟨"NightHoursModel", "isMinute", "(I)Z"⟩, 97), (⟨"NightHoursModel", "bearsSpan", "(I)I"⟩, 97), (⟨"NightHoursModel", "sets", "()V"⟩, 97), (⟨"NightHoursModel", "sureOnes", "()I"⟩, 97), (⟨"NightHoursModel", "hasWay", "(I)Z"⟩, 97), (⟨"NightHoursModel", "trustIn", "(I)I"⟩, 97), (⟨"NightHoursModel", "itemAt", "(I)I"⟩, 97), (⟨"NightHoursModel", "pickedStands", "()Z"⟩, 97), (⟨"NightHoursModel", "rings", "()Z"⟩, 97), (⟨"NightHoursModel", "isPerson", "(I)Z"⟩, 97), (⟨"NightHoursModel", "oneMore", "(II)V"⟩, 97), (⟨"NightHoursModel", "meetsAll", "()V"⟩, 97), (⟨"NightHoursModel", "sees", "(I)V"⟩, 97), (⟨"NightHoursModel", "leftOf", "(II)I"⟩, 97)]
theorem lw_r7 : ∀ q ∈ lw_privs_7, lw_okq q := List.forall_mem_cons.mpr ⟨lw_p96, List.forall_mem_cons.mpr ⟨lw_p97, List.forall_mem_cons.mpr ⟨lw_p98, List.forall_mem_cons.mpr ⟨lw_p99, List.forall_mem_cons.mpr ⟨lw_p100, List.forall_mem_cons.mpr ⟨lw_p101, List.forall_mem_cons.mpr ⟨lw_p102, List.forall_mem_cons.mpr ⟨lw_p103, List.forall_mem_cons.mpr ⟨lw_p104, List.forall_mem_cons.mpr ⟨lw_p105, List.forall_mem_cons.mpr ⟨lw_p106, List.forall_mem_cons.mpr ⟨lw_p107, List.forall_mem_cons.mpr ⟨lw_p108, List.forall_mem_cons.mpr ⟨lw_p109, List.forall_mem_cons.mpr ⟨lw_p110, List.forall_mem_cons.mpr ⟨lw_p111, fun _ h => absurd h List.not_mem_nil⟩⟩⟩⟩⟩⟩⟩⟩⟩⟩⟩⟩⟩⟩⟩⟩
theorem lw_p112 : lw_okq (⟨"NightHoursModel", "isLeft", "(II)Z"⟩, 97) := ⟨⟨by decide +kernel, by decide +kernel⟩, List.mem_of_getElem? (i := 1213) (by decide +kernel), List.mem_of_getElem? (i := 1905) (by decide +kernel), List.mem_of_getElem? (i := 1906) (by decide +kernel)⟩
theorem lw_p113 : lw_okq (⟨"NightHoursModel", "answers", "(II)Z"⟩, 97) := ⟨⟨by decide +kernel, by decide +kernel⟩, List.mem_of_getElem? (i := 1213) (by decide +kernel), List.mem_of_getElem? (i := 1909) (by decide +kernel), List.mem_of_getElem? (i := 1910) (by decide +kernel)⟩
theorem lw_p114 : lw_okq (⟨"NightHoursModel", "planOf", "(IZ)I"⟩, 97) := ⟨⟨by decide +kernel, by decide +kernel⟩, List.mem_of_getElem? (i := 1213) (by decide +kernel), List.mem_of_getElem? (i := 1925) (by decide +kernel), List.mem_of_getElem? (i := 1926) (by decide +kernel)⟩
theorem lw_p115 : lw_okq (⟨"NightHoursModel", "plans", "(I)I"⟩, 97) := ⟨⟨by decide +kernel, by decide +kernel⟩, List.mem_of_getElem? (i := 1213) (by decide +kernel), List.mem_of_getElem? (i := 1929) (by decide +kernel), List.mem_of_getElem? (i := 1930) (by decide +kernel)⟩
theorem lw_p116 : lw_okq (⟨"NightHoursModel", "laysSet", "(I)Z"⟩, 97) := ⟨⟨by decide +kernel, by decide +kernel⟩, List.mem_of_getElem? (i := 1213) (by decide +kernel), List.mem_of_getElem? (i := 1945) (by decide +kernel), List.mem_of_getElem? (i := 1946) (by decide +kernel)⟩
theorem lw_p117 : lw_okq (⟨"NightHoursModel", "gives", "(I)I"⟩, 97) := ⟨⟨by decide +kernel, by decide +kernel⟩, List.mem_of_getElem? (i := 1213) (by decide +kernel), List.mem_of_getElem? (i := 1961) (by decide +kernel), List.mem_of_getElem? (i := 1962) (by decide +kernel)⟩
def lw_privs_8 : List (MethodName × Nat) := [(⟨"NightHoursModel", "isLeft", "(II)Z"⟩, 97), (⟨"NightHoursModel", "answers", "(II)Z"⟩, 97), (⟨"NightHoursModel", "planOf", "(IZ)I"⟩, 97), (⟨"NightHoursModel", "plans", "(I)I"⟩, 97), (⟨"NightHoursModel", "laysSet", "(I)Z"⟩, 97), (⟨"NightHoursModel", "gives", "(I)I"⟩, 97)]
theorem lw_r8 : ∀ q ∈ lw_privs_8, lw_okq q := List.forall_mem_cons.mpr ⟨lw_p112, List.forall_mem_cons.mpr ⟨lw_p113, List.forall_mem_cons.mpr ⟨lw_p114, List.forall_mem_cons.mpr ⟨lw_p115, List.forall_mem_cons.mpr ⟨lw_p116, List.forall_mem_cons.mpr ⟨lw_p117, fun _ h => absurd h List.not_mem_nil⟩⟩⟩⟩⟩⟩
def lw_privs : List (MethodName × Nat) := lw_privs_1 ++ (lw_privs_2 ++ (lw_privs_3 ++ (lw_privs_4 ++ (lw_privs_5 ++ (lw_privs_6 ++ (lw_privs_7 ++ (lw_privs_8)))))))
def lw_tbl : List Cond := k2_sels lw_privs ++ tables_1
theorem lw_privs_ok : ∀ q ∈ lw_privs, lw_okq q := by
  show ∀ q ∈ lw_privs_1 ++ (lw_privs_2 ++ (lw_privs_3 ++ (lw_privs_4 ++ (lw_privs_5 ++ (lw_privs_6 ++ (lw_privs_7 ++ (lw_privs_8))))))), lw_okq q
  exact List.forall_mem_append.mpr ⟨lw_r1, List.forall_mem_append.mpr ⟨lw_r2, List.forall_mem_append.mpr ⟨lw_r3, List.forall_mem_append.mpr ⟨lw_r4, List.forall_mem_append.mpr ⟨lw_r5, List.forall_mem_append.mpr ⟨lw_r6, List.forall_mem_append.mpr ⟨lw_r7, lw_r8⟩⟩⟩⟩⟩⟩⟩
end
section
def RX0 : String := "NightHours$Asking"
def TX0 : u_T := fun k => match k with
  | 0 => ("NightHours$Asking", "going", "LNightHours$Going;", true)
  | 1 => ("NightHours$Asking", "book", "LNightHours$Book;", true)
  | 2 => ("NightHours$Asking", "wholeAnswers", "[I", true)
  | 3 => ("NightHours$Asking", "leftRow", "[I", true)
  | 4 => ("NightHours$Asking", "needed", "[I", true)
  | _ => ("NightHours$Asking", "fresh", "Z", false)
def tyX0 : Nat → FieldType := fun k => match k with
  | 0 => .object "NightHours$Going"
  | 1 => .object "NightHours$Book"
  | 2 => .array .int
  | 3 => .array .int
  | 4 => .array .int
  | _ => .boolean
abbrev wsX00 : List Cond := u_ws RX0 TX0 6
theorem nmX0 : ∀ a, a < 6 → ∀ b, b < 6 → a ≠ b → (TX0 a).2.1 ≠ (TX0 b).2.1 := by decide +kernel
theorem tyX0_ok : ∀ k, k < 6 → parseFieldDescriptor (TX0 k).2.2.1 = some (tyX0 k) := by decide +kernel
abbrev cX0_init : ByteArray := prog_2_method_1_code
def yX0_init : MethodName := ⟨RX0, "<init>", "(LNightHours$Going;LNightHours$Book;)V"⟩
abbrev cX0_answered : ByteArray := prog_2_method_2_code
def yX0_answered : MethodName := ⟨RX0, "answered", "(LNightHours$Told;IZ)I"⟩
abbrev cX0_leftWith : ByteArray := prog_2_method_3_code
def yX0_leftWith : MethodName := ⟨RX0, "leftWith", "(LNightHours$Told;II)I"⟩
abbrev cX0_isLeft : ByteArray := prog_2_method_4_code
def yX0_isLeft : MethodName := ⟨RX0, "isLeft", "(LNightHours$Told;IIII)Z"⟩
abbrev cX0_answer : ByteArray := prog_2_method_5_code
def yX0_answer : MethodName := ⟨RX0, "answer", "(LNightHours$Told;III)Z"⟩
abbrev cX0_workOut : ByteArray := prog_2_method_6_code
def yX0_workOut : MethodName := ⟨RX0, "workOut", "(LNightHours$Told;I)V"⟩
abbrev cX0_neededWith : ByteArray := prog_2_method_7_code
def yX0_neededWith : MethodName := ⟨RX0, "neededWith", "(II)I"⟩
abbrev cX0_firstQuestion : ByteArray := prog_2_method_8_code
def yX0_firstQuestion : MethodName := ⟨RX0, "firstQuestion", "(LNightHours$Told;)I"⟩
abbrev cX0_countStates : ByteArray := prog_2_method_9_code
def yX0_countStates : MethodName := ⟨RX0, "countStates", "(LNightHours$Told;)V"⟩
abbrev cX0_answersOf : ByteArray := prog_2_method_10_code
def yX0_answersOf : MethodName := ⟨RX0, "answersOf", "(LNightHours$Told;I)I"⟩
abbrev cX0_countLeft : ByteArray := prog_2_method_11_code
def yX0_countLeft : MethodName := ⟨RX0, "countLeft", "(II)I"⟩
abbrev cX0_spread : ByteArray := prog_2_method_12_code
def yX0_spread : MethodName := ⟨RX0, "spread", "(LNightHours$Told;IIII)V"⟩
def RX1 : String := "NightHours$Book"
def TX1 : u_T := fun k => match k with
  | 0 => ("NightHours$Book", "tryRow", "[I", true)
  | 1 => ("NightHours$Book", "sayRow", "[I", true)
  | _ => ("NightHours$Book", "moveRow", "[J", true)
def tyX1 : Nat → FieldType := fun k => match k with
  | 0 => .array .int
  | 1 => .array .int
  | _ => .array .long
abbrev wsX10 : List Cond := u_ws RX1 TX1 3
theorem nmX1 : ∀ a, a < 3 → ∀ b, b < 3 → a ≠ b → (TX1 a).2.1 ≠ (TX1 b).2.1 := by decide +kernel
theorem tyX1_ok : ∀ k, k < 3 → parseFieldDescriptor (TX1 k).2.2.1 = some (tyX1 k) := by decide +kernel
abbrev cX1_init : ByteArray := prog_3_method_1_code
def yX1_init : MethodName := ⟨RX1, "<init>", "()V"⟩
abbrev cX1_addTry : ByteArray := prog_3_method_2_code
def yX1_addTry : MethodName := ⟨RX1, "addTry", "(IIIZ)V"⟩
abbrev cX1_addWay : ByteArray := prog_3_method_3_code
def yX1_addWay : MethodName := ⟨RX1, "addWay", "(I[I[II)V"⟩
abbrev cX1_choiceOf : ByteArray := prog_3_method_4_code
def yX1_choiceOf : MethodName := ⟨RX1, "choiceOf", "(II)I"⟩
abbrev cX1_tryOf : ByteArray := prog_3_method_5_code
def yX1_tryOf : MethodName := ⟨RX1, "tryOf", "(II)I"⟩
def RX2 : String := "NightHours$Going"
def TX2 : u_T := fun k => match k with
  | 0 => ("NightHours$Going", "net", "LNightHours$Net;", true)
  | 1 => ("NightHours$Going", "isHard", "Z", true)
  | 2 => ("NightHours$Going", "item", "[I", true)
  | 3 => ("NightHours$Going", "chosen", "[I", true)
  | 4 => ("NightHours$Going", "told", "LNightHours$Told;", false)
  | 5 => ("NightHours$Going", "held", "LNightHours$Held;", false)
  | 6 => ("NightHours$Going", "built", "I", false)
  | 7 => ("NightHours$Going", "widened", "I", false)
  | 8 => ("NightHours$Going", "give", "I", false)
  | 9 => ("NightHours$Going", "guestPlace", "I", false)
  | 10 => ("NightHours$Going", "hasGuest", "Z", false)
  | 11 => ("NightHours$Going", "items", "I", false)
  | 12 => ("NightHours$Going", "based", "Z", false)
  | 13 => ("NightHours$Going", "tries", "I", false)
  | 14 => ("NightHours$Going", "found", "I", false)
  | 15 => ("NightHours$Going", "spent", "Z", false)
  | 16 => ("NightHours$Going", "guestLeast", "I", false)
  | _ => ("NightHours$Going", "guestMost", "I", false)
def tyX2 : Nat → FieldType := fun k => match k with
  | 0 => .object "NightHours$Net"
  | 1 => .boolean
  | 2 => .array .int
  | 3 => .array .int
  | 4 => .object "NightHours$Told"
  | 5 => .object "NightHours$Held"
  | 6 => .int
  | 7 => .int
  | 8 => .int
  | 9 => .int
  | 10 => .boolean
  | 11 => .int
  | 12 => .boolean
  | 13 => .int
  | 14 => .int
  | 15 => .boolean
  | 16 => .int
  | _ => .int
abbrev wsX20 : List Cond := u_ws RX2 TX2 18
theorem nmX2 : ∀ a, a < 18 → ∀ b, b < 18 → a ≠ b → (TX2 a).2.1 ≠ (TX2 b).2.1 := by decide +kernel
theorem tyX2_ok : ∀ k, k < 18 → parseFieldDescriptor (TX2 k).2.2.1 = some (tyX2 k) := by decide +kernel
abbrev cX2_init : ByteArray := prog_4_method_1_code
def yX2_init : MethodName := ⟨RX2, "<init>", "(IIZLNightHours$Told;LNightHours$Held;)V"⟩
abbrev cX2_begin : ByteArray := prog_4_method_2_code
def yX2_begin : MethodName := ⟨RX2, "begin", "(LNightHours$Told;LNightHours$Held;II)V"⟩
abbrev cX2_addItem : ByteArray := prog_4_method_3_code
def yX2_addItem : MethodName := ⟨RX2, "addItem", "(I)V"⟩
abbrev cX2_layBase : ByteArray := prog_4_method_4_code
def yX2_layBase : MethodName := ⟨RX2, "layBase", "(I)V"⟩
abbrev cX2_host : ByteArray := prog_4_method_5_code
def yX2_host : MethodName := ⟨RX2, "host", "(IIII)V"⟩
abbrev cX2_widen : ByteArray := prog_4_method_6_code
def yX2_widen : MethodName := ⟨RX2, "widen", "(II)V"⟩
abbrev cX2_bind : ByteArray := prog_4_method_7_code
def yX2_bind : MethodName := ⟨RX2, "bind", "(IIIII)Z"⟩
abbrev cX2_choicesOf : ByteArray := prog_4_method_8_code
def yX2_choicesOf : MethodName := ⟨RX2, "choicesOf", "(I)I"⟩
abbrev cX2_walkOf : ByteArray := prog_4_method_9_code
def yX2_walkOf : MethodName := ⟨RX2, "walkOf", "(I)I"⟩
abbrev cX2_push : ByteArray := prog_4_method_10_code
def yX2_push : MethodName := ⟨RX2, "push", "(III)Z"⟩
abbrev cX2_pushMove : ByteArray := prog_4_method_11_code
def yX2_pushMove : MethodName := ⟨RX2, "pushMove", "(III)Z"⟩
abbrev cX2_goThrough : ByteArray := prog_4_method_12_code
def yX2_goThrough : MethodName := ⟨RX2, "goThrough", "(LNightHours$Book;Z)V"⟩
abbrev cX2_noteWay : ByteArray := prog_4_method_13_code
def yX2_noteWay : MethodName := ⟨RX2, "noteWay", "(LNightHours$Book;)V"⟩
abbrev cX2_bring : ByteArray := prog_4_method_14_code
def yX2_bring : MethodName := ⟨RX2, "bring", "(LNightHours$Book;I)Z"⟩
abbrev cX2_minute : ByteArray := prog_4_method_15_code
def yX2_minute : MethodName := ⟨RX2, "minute", "(IIZ)I"⟩
abbrev cX2_distance : ByteArray := prog_4_method_16_code
def yX2_distance : MethodName := ⟨RX2, "distance", "(IIIZ)I"⟩
abbrev cX2_takes : ByteArray := prog_4_method_17_code
def yX2_takes : MethodName := ⟨RX2, "takes", "(I[I)Z"⟩
abbrev cX2_minuteWith : ByteArray := prog_4_method_18_code
def yX2_minuteWith : MethodName := ⟨RX2, "minuteWith", "(II[IZ)I"⟩
def RX3 : String := "NightHours$Grammar"
def TX3 : u_T := fun k => match k with
  | 0 => ("NightHours$Grammar", "tells", "[I", true)
  | 1 => ("NightHours$Grammar", "tell", "I", false)
  | 2 => ("NightHours$Grammar", "alls", "I", false)
  | _ => ("NightHours$Grammar", "parts", "I", false)
def tyX3 : Nat → FieldType := fun k => match k with
  | 0 => .array .int
  | 1 => .int
  | 2 => .int
  | _ => .int
abbrev wsX30 : List Cond := u_ws RX3 TX3 4
theorem nmX3 : ∀ a, a < 4 → ∀ b, b < 4 → a ≠ b → (TX3 a).2.1 ≠ (TX3 b).2.1 := by decide +kernel
theorem tyX3_ok : ∀ k, k < 4 → parseFieldDescriptor (TX3 k).2.2.1 = some (tyX3 k) := by decide +kernel
abbrev cX3_init : ByteArray := prog_5_method_1_code
def yX3_init : MethodName := ⟨RX3, "<init>", "()V"⟩
abbrev cX3_clear : ByteArray := prog_5_method_2_code
def yX3_clear : MethodName := ⟨RX3, "clear", "()V"⟩
abbrev cX3_follow : ByteArray := prog_5_method_3_code
def yX3_follow : MethodName := ⟨RX3, "follow", "(II)I"⟩
abbrev cX3_faultOf : ByteArray := prog_5_method_4_code
def yX3_faultOf : MethodName := ⟨RX3, "faultOf", "(III)I"⟩
abbrev cX3_hasRoom : ByteArray := prog_5_method_5_code
def yX3_hasRoom : MethodName := ⟨RX3, "hasRoom", "(II)Z"⟩
def RX4 : String := "NightHours$Held"
def TX4 : u_T := fun k => match k with
  | 0 => ("NightHours$Held", "doubted", "I", false)
  | 1 => ("NightHours$Held", "moreCount", "I", false)
  | 2 => ("NightHours$Held", "hours", "[I", true)
  | 3 => ("NightHours$Held", "picks", "[I", true)
  | _ => ("NightHours$Held", "more", "LNightHours$Spans;", true)
def tyX4 : Nat → FieldType := fun k => match k with
  | 0 => .int
  | 1 => .int
  | 2 => .array .int
  | 3 => .array .int
  | _ => .object "NightHours$Spans"
abbrev wsX40 : List Cond := u_ws RX4 TX4 5
theorem nmX4 : ∀ a, a < 5 → ∀ b, b < 5 → a ≠ b → (TX4 a).2.1 ≠ (TX4 b).2.1 := by decide +kernel
theorem tyX4_ok : ∀ k, k < 5 → parseFieldDescriptor (TX4 k).2.2.1 = some (tyX4 k) := by decide +kernel
abbrev cX4_init : ByteArray := prog_6_method_1_code
def yX4_init : MethodName := ⟨RX4, "<init>", "()V"⟩
abbrev cX4_clear : ByteArray := prog_6_method_2_code
def yX4_clear : MethodName := ⟨RX4, "clear", "()V"⟩
def RX5 : String := "NightHours$Net"
def TX5 : u_T := fun k => match k with
  | 0 => ("NightHours$Net", "most", "[I", true)
  | 1 => ("NightHours$Net", "stead", "[I", true)
  | 2 => ("NightHours$Net", "nearest", "[I", true)
  | 3 => ("NightHours$Net", "farthest", "[I", true)
  | 4 => ("NightHours$Net", "nodes", "I", false)
  | _ => ("NightHours$Net", "area", "I", false)
def tyX5 : Nat → FieldType := fun k => match k with
  | 0 => .array .int
  | 1 => .array .int
  | 2 => .array .int
  | 3 => .array .int
  | 4 => .int
  | _ => .int
abbrev wsX50 : List Cond := u_ws RX5 TX5 6
theorem nmX5 : ∀ a, a < 6 → ∀ b, b < 6 → a ≠ b → (TX5 a).2.1 ≠ (TX5 b).2.1 := by decide +kernel
theorem tyX5_ok : ∀ k, k < 6 → parseFieldDescriptor (TX5 k).2.2.1 = some (tyX5 k) := by decide +kernel
abbrev cX5_init : ByteArray := prog_7_method_1_code
def yX5_init : MethodName := ⟨RX5, "<init>", "(II)V"⟩
abbrev cX5_hasLevel : ByteArray := prog_7_method_2_code
def yX5_hasLevel : MethodName := ⟨RX5, "hasLevel", "(I)Z"⟩
abbrev cX5_hasNode : ByteArray := prog_7_method_3_code
def yX5_hasNode : MethodName := ⟨RX5, "hasNode", "(I)Z"⟩
abbrev cX5_blank : ByteArray := prog_7_method_4_code
def yX5_blank : MethodName := ⟨RX5, "blank", "(I)V"⟩
abbrev cX5_loose : ByteArray := prog_7_method_5_code
def yX5_loose : MethodName := ⟨RX5, "loose", "(IIII)V"⟩
abbrev cX5_copyUp : ByteArray := prog_7_method_6_code
def yX5_copyUp : MethodName := ⟨RX5, "copyUp", "(I)V"⟩
abbrev cX5_reach : ByteArray := prog_7_method_7_code
def yX5_reach : MethodName := ⟨RX5, "reach", "(III)I"⟩
abbrev cX5_tighten : ByteArray := prog_7_method_8_code
def yX5_tighten : MethodName := ⟨RX5, "tighten", "(IIII)Z"⟩
abbrev cX5_tightenRow : ByteArray := prog_7_method_9_code
def yX5_tightenRow : MethodName := ⟨RX5, "tightenRow", "(III)V"⟩
def RX6 : String := "NightHours$Quarrelling"
def TX6 : u_T := fun k => match k with
  | 0 => ("NightHours$Quarrelling", "going", "LNightHours$Going;", true)
  | 1 => ("NightHours$Quarrelling", "hasWay", "[Z", true)
  | 2 => ("NightHours$Quarrelling", "quarrelRow", "[I", true)
  | 3 => ("NightHours$Quarrelling", "givingRow", "[I", true)
  | 4 => ("NightHours$Quarrelling", "quarrelCount", "I", false)
  | 5 => ("NightHours$Quarrelling", "givingCount", "I", false)
  | 6 => ("NightHours$Quarrelling", "ringRow", "[I", true)
  | 7 => ("NightHours$Quarrelling", "ringCount", "I", false)
  | 8 => ("NightHours$Quarrelling", "fresh", "Z", false)
  | 9 => ("NightHours$Quarrelling", "ringFresh", "Z", false)
  | 10 => ("NightHours$Quarrelling", "spent", "Z", false)
  | _ => ("NightHours$Quarrelling", "tight", "Z", false)
def tyX6 : Nat → FieldType := fun k => match k with
  | 0 => .object "NightHours$Going"
  | 1 => .array .boolean
  | 2 => .array .int
  | 3 => .array .int
  | 4 => .int
  | 5 => .int
  | 6 => .array .int
  | 7 => .int
  | 8 => .boolean
  | 9 => .boolean
  | 10 => .boolean
  | _ => .boolean
abbrev wsX60 : List Cond := u_ws RX6 TX6 12
theorem nmX6 : ∀ a, a < 12 → ∀ b, b < 12 → a ≠ b → (TX6 a).2.1 ≠ (TX6 b).2.1 := by decide +kernel
theorem tyX6_ok : ∀ k, k < 12 → parseFieldDescriptor (TX6 k).2.2.1 = some (tyX6 k) := by decide +kernel
abbrev cX6_init : ByteArray := prog_8_method_1_code
def yX6_init : MethodName := ⟨RX6, "<init>", "(LNightHours$Going;)V"⟩
abbrev cX6_isKnown : ByteArray := prog_8_method_2_code
def yX6_isKnown : MethodName := ⟨RX6, "isKnown", "(LNightHours$Told;LNightHours$Held;)Z"⟩
abbrev cX6_goThroughAll : ByteArray := prog_8_method_3_code
def yX6_goThroughAll : MethodName := ⟨RX6, "goThroughAll", "(LNightHours$Told;LNightHours$Held;I)Z"⟩
abbrev cX6_listSets : ByteArray := prog_8_method_4_code
def yX6_listSets : MethodName := ⟨RX6, "listSets", "(II)V"⟩
abbrev cX6_isQuarrel : ByteArray := prog_8_method_5_code
def yX6_isQuarrel : MethodName := ⟨RX6, "isQuarrel", "(I)Z"⟩
abbrev cX6_isGivingUp : ByteArray := prog_8_method_6_code
def yX6_isGivingUp : MethodName := ⟨RX6, "isGivingUp", "(II)Z"⟩
abbrev cX6_isTight : ByteArray := prog_8_method_7_code
def yX6_isTight : MethodName := ⟨RX6, "isTight", "(LNightHours$Told;LNightHours$Held;)Z"⟩
abbrev cX6_holdTogether : ByteArray := prog_8_method_8_code
def yX6_holdTogether : MethodName := ⟨RX6, "holdTogether", "(LNightHours$Held;J)Z"⟩
abbrev cX6_itemOf : ByteArray := prog_8_method_9_code
def yX6_itemOf : MethodName := ⟨RX6, "itemOf", "(I)I"⟩
abbrev cX6_listRing : ByteArray := prog_8_method_10_code
def yX6_listRing : MethodName := ⟨RX6, "listRing", "(LNightHours$Held;)V"⟩
abbrev cX6_cheapestGiving : ByteArray := prog_8_method_11_code
def yX6_cheapestGiving : MethodName := ⟨RX6, "cheapestGiving", "(LNightHours$Told;)I"⟩
def RX7 : String := "NightHours$Reader"
def TX7 : u_T := fun k => match k with
  | 0 => ("NightHours$Reader", "tokens", "LNightHours$Tokens;", true)
  | 1 => ("NightHours$Reader", "grammar", "LNightHours$Grammar;", true)
  | 2 => ("NightHours$Reader", "names", "[J", true)
  | 3 => ("NightHours$Reader", "nameKind", "[I", true)
  | 4 => ("NightHours$Reader", "nameNumber", "[I", true)
  | 5 => ("NightHours$Reader", "nameCount", "I", false)
  | 6 => ("NightHours$Reader", "into", "LNightHours$Told;", false)
  | 7 => ("NightHours$Reader", "tell", "I", false)
  | 8 => ("NightHours$Reader", "x", "I", false)
  | 9 => ("NightHours$Reader", "y", "I", false)
  | 10 => ("NightHours$Reader", "low", "I", false)
  | 11 => ("NightHours$Reader", "sign", "I", false)
  | _ => ("NightHours$Reader", "faultPlace", "I", false)
def tyX7 : Nat → FieldType := fun k => match k with
  | 0 => .object "NightHours$Tokens"
  | 1 => .object "NightHours$Grammar"
  | 2 => .array .long
  | 3 => .array .int
  | 4 => .array .int
  | 5 => .int
  | 6 => .object "NightHours$Told"
  | 7 => .int
  | 8 => .int
  | 9 => .int
  | 10 => .int
  | 11 => .int
  | _ => .int
abbrev wsX70 : List Cond := u_ws RX7 TX7 13
theorem nmX7 : ∀ a, a < 13 → ∀ b, b < 13 → a ≠ b → (TX7 a).2.1 ≠ (TX7 b).2.1 := by decide +kernel
theorem tyX7_ok : ∀ k, k < 13 → parseFieldDescriptor (TX7 k).2.2.1 = some (tyX7 k) := by decide +kernel
abbrev cX7_init : ByteArray := prog_9_method_1_code
def yX7_init : MethodName := ⟨RX7, "<init>", "()V"⟩
abbrev cX7_readTape : ByteArray := prog_9_method_2_code
def yX7_readTape : MethodName := ⟨RX7, "readTape", "([BI)I"⟩
abbrev cX7_changePlaces : ByteArray := prog_9_method_3_code
def yX7_changePlaces : MethodName := ⟨RX7, "changePlaces", "(LNightHours$Told;)LNightHours$Told;"⟩
abbrev cX7_syntaxFault : ByteArray := prog_9_method_4_code
def yX7_syntaxFault : MethodName := ⟨RX7, "syntaxFault", "()I"⟩
abbrev cX7_meaningFault : ByteArray := prog_9_method_5_code
def yX7_meaningFault : MethodName := ⟨RX7, "meaningFault", "()I"⟩
abbrev cX7_take : ByteArray := prog_9_method_6_code
def yX7_take : MethodName := ⟨RX7, "take", "(IIJ)I"⟩
abbrev cX7_takeNew : ByteArray := prog_9_method_7_code
def yX7_takeNew : MethodName := ⟨RX7, "takeNew", "(J)I"⟩
abbrev cX7_numberNew : ByteArray := prog_9_method_8_code
def yX7_numberNew : MethodName := ⟨RX7, "numberNew", "(I)I"⟩
abbrev cX7_addSaying : ByteArray := prog_9_method_9_code
def yX7_addSaying : MethodName := ⟨RX7, "addSaying", "()I"⟩
abbrev cX7_find : ByteArray := prog_9_method_10_code
def yX7_find : MethodName := ⟨RX7, "find", "(JI)I"⟩
abbrev cX7_takePath : ByteArray := prog_9_method_11_code
def yX7_takePath : MethodName := ⟨RX7, "takePath", "(IJ)I"⟩
abbrev cX7_takeWhere : ByteArray := prog_9_method_12_code
def yX7_takeWhere : MethodName := ⟨RX7, "takeWhere", "(IJ)I"⟩
abbrev cX7_takeOpen : ByteArray := prog_9_method_13_code
def yX7_takeOpen : MethodName := ⟨RX7, "takeOpen", "(IJ)I"⟩
abbrev cX7_takeSpanTime : ByteArray := prog_9_method_14_code
def yX7_takeSpanTime : MethodName := ⟨RX7, "takeSpanTime", "(IJ)I"⟩
abbrev cX7_takeJoin : ByteArray := prog_9_method_15_code
def yX7_takeJoin : MethodName := ⟨RX7, "takeJoin", "(I)V"⟩
abbrev cX7_takeTrust : ByteArray := prog_9_method_16_code
def yX7_takeTrust : MethodName := ⟨RX7, "takeTrust", "(I)I"⟩
abbrev cX7_takeInt : ByteArray := prog_9_method_17_code
def yX7_takeInt : MethodName := ⟨RX7, "takeInt", "(III)I"⟩
abbrev cX7_endPathOrOpen : ByteArray := prog_9_method_18_code
def yX7_endPathOrOpen : MethodName := ⟨RX7, "endPathOrOpen", "(I)V"⟩
abbrev cX7_endSpan : ByteArray := prog_9_method_19_code
def yX7_endSpan : MethodName := ⟨RX7, "endSpan", "(I)V"⟩
def RX8 : String := "NightHours$Spans"
def TX8 : u_T := fun k => match k with
  | 0 => ("NightHours$Spans", "x", "[I", true)
  | 1 => ("NightHours$Spans", "y", "[I", true)
  | 2 => ("NightHours$Spans", "low", "[I", true)
  | _ => ("NightHours$Spans", "high", "[I", true)
def tyX8 : Nat → FieldType := fun k => match k with
  | 0 => .array .int
  | 1 => .array .int
  | 2 => .array .int
  | _ => .array .int
abbrev wsX80 : List Cond := u_ws RX8 TX8 4
theorem nmX8 : ∀ a, a < 4 → ∀ b, b < 4 → a ≠ b → (TX8 a).2.1 ≠ (TX8 b).2.1 := by decide +kernel
theorem tyX8_ok : ∀ k, k < 4 → parseFieldDescriptor (TX8 k).2.2.1 = some (tyX8 k) := by decide +kernel
abbrev cX8_init : ByteArray := prog_10_method_1_code
def yX8_init : MethodName := ⟨RX8, "<init>", "(I)V"⟩
abbrev cX8_put : ByteArray := prog_10_method_2_code
def yX8_put : MethodName := ⟨RX8, "put", "(III)V"⟩
abbrev cX8_bound : ByteArray := prog_10_method_3_code
def yX8_bound : MethodName := ⟨RX8, "bound", "(III)V"⟩
abbrev cX8_isSet : ByteArray := prog_10_method_4_code
def yX8_isSet : MethodName := ⟨RX8, "isSet", "(I[I)Z"⟩
abbrev cX8_holds : ByteArray := prog_10_method_5_code
def yX8_holds : MethodName := ⟨RX8, "holds", "(I[I)Z"⟩
def RX9 : String := "NightHours$Tokens"
def TX9 : u_T := fun k => match k with
  | 0 => ("NightHours$Tokens", "kind", "[I", true)
  | 1 => ("NightHours$Tokens", "place", "[I", true)
  | 2 => ("NightHours$Tokens", "value", "[J", true)
  | _ => ("NightHours$Tokens", "count", "I", false)
def tyX9 : Nat → FieldType := fun k => match k with
  | 0 => .array .int
  | 1 => .array .int
  | 2 => .array .long
  | _ => .int
abbrev wsX90 : List Cond := u_ws RX9 TX9 4
theorem nmX9 : ∀ a, a < 4 → ∀ b, b < 4 → a ≠ b → (TX9 a).2.1 ≠ (TX9 b).2.1 := by decide +kernel
theorem tyX9_ok : ∀ k, k < 4 → parseFieldDescriptor (TX9 k).2.2.1 = some (tyX9 k) := by decide +kernel
abbrev cX9_init : ByteArray := prog_11_method_1_code
def yX9_init : MethodName := ⟨RX9, "<init>", "()V"⟩
abbrev cX9_scan : ByteArray := prog_11_method_2_code
def yX9_scan : MethodName := ⟨RX9, "scan", "([BI)V"⟩
abbrev cX9_scanOne : ByteArray := prog_11_method_3_code
def yX9_scanOne : MethodName := ⟨RX9, "scanOne", "([BII)I"⟩
abbrev cX9_endOfLetters : ByteArray := prog_11_method_4_code
def yX9_endOfLetters : MethodName := ⟨RX9, "endOfLetters", "([BII)I"⟩
abbrev cX9_endOfDigits : ByteArray := prog_11_method_5_code
def yX9_endOfDigits : MethodName := ⟨RX9, "endOfDigits", "([BII)I"⟩
abbrev cX9_wordOrName : ByteArray := prog_11_method_6_code
def yX9_wordOrName : MethodName := ⟨RX9, "wordOrName", "(J)I"⟩
abbrev cX9_sign : ByteArray := prog_11_method_7_code
def yX9_sign : MethodName := ⟨RX9, "sign", "(B)I"⟩
abbrev cX9_isBlank : ByteArray := prog_11_method_8_code
def yX9_isBlank : MethodName := ⟨RX9, "isBlank", "(B)Z"⟩
abbrev cX9_isLetter : ByteArray := prog_11_method_9_code
def yX9_isLetter : MethodName := ⟨RX9, "isLetter", "(B)Z"⟩
abbrev cX9_isDigit : ByteArray := prog_11_method_10_code
def yX9_isDigit : MethodName := ⟨RX9, "isDigit", "(B)Z"⟩
def RX10 : String := "NightHours$Told"
def TX10 : u_T := fun k => match k with
  | 0 => ("NightHours$Told", "persons", "I", false)
  | 1 => ("NightHours$Told", "places", "I", false)
  | 2 => ("NightHours$Told", "times", "I", false)
  | 3 => ("NightHours$Told", "sayings", "I", false)
  | 4 => ("NightHours$Told", "questions", "I", false)
  | 5 => ("NightHours$Told", "moves", "I", false)
  | 6 => ("NightHours$Told", "sureBits", "I", false)
  | 7 => ("NightHours$Told", "walks", "[I", true)
  | 8 => ("NightHours$Told", "timePerson", "[I", true)
  | 9 => ("NightHours$Told", "timePlace", "[I", true)
  | 10 => ("NightHours$Told", "opens", "LNightHours$Spans;", true)
  | 11 => ("NightHours$Told", "trust", "[I", true)
  | 12 => ("NightHours$Told", "choices", "[I", true)
  | 13 => ("NightHours$Told", "parts", "[I", true)
  | 14 => ("NightHours$Told", "spans", "LNightHours$Spans;", true)
  | 15 => ("NightHours$Told", "asked", "LNightHours$Spans;", true)
  | 16 => ("NightHours$Told", "moveLesser", "[I", true)
  | 17 => ("NightHours$Told", "moveGreater", "[I", true)
  | _ => ("NightHours$Told", "moveWalk", "[I", true)
def tyX10 : Nat → FieldType := fun k => match k with
  | 0 => .int
  | 1 => .int
  | 2 => .int
  | 3 => .int
  | 4 => .int
  | 5 => .int
  | 6 => .int
  | 7 => .array .int
  | 8 => .array .int
  | 9 => .array .int
  | 10 => .object "NightHours$Spans"
  | 11 => .array .int
  | 12 => .array .int
  | 13 => .array .int
  | 14 => .object "NightHours$Spans"
  | 15 => .object "NightHours$Spans"
  | 16 => .array .int
  | 17 => .array .int
  | _ => .array .int
abbrev wsX100 : List Cond := u_ws RX10 TX10 19
theorem nmX10 : ∀ a, a < 19 → ∀ b, b < 19 → a ≠ b → (TX10 a).2.1 ≠ (TX10 b).2.1 := by decide +kernel
theorem tyX10_ok : ∀ k, k < 19 → parseFieldDescriptor (TX10 k).2.2.1 = some (tyX10 k) := by decide +kernel
abbrev cX10_init : ByteArray := prog_12_method_1_code
def yX10_init : MethodName := ⟨RX10, "<init>", "()V"⟩
abbrev cX10_clear : ByteArray := prog_12_method_2_code
def yX10_clear : MethodName := ⟨RX10, "clear", "()V"⟩
abbrev cX10_allBits : ByteArray := prog_12_method_3_code
def yX10_allBits : MethodName := ⟨RX10, "allBits", "()I"⟩
abbrev cX10_firstSpan : ByteArray := prog_12_method_4_code
def yX10_firstSpan : MethodName := ⟨RX10, "firstSpan", "(II)I"⟩
abbrev cX10_partsOf : ByteArray := prog_12_method_5_code
def yX10_partsOf : MethodName := ⟨RX10, "partsOf", "(II)I"⟩
abbrev cX10_walkBetween : ByteArray := prog_12_method_6_code
def yX10_walkBetween : MethodName := ⟨RX10, "walkBetween", "(II)I"⟩
abbrev cX10_trustOf : ByteArray := prog_12_method_7_code
def yX10_trustOf : MethodName := ⟨RX10, "trustOf", "(I)I"⟩
abbrev cX10_addPath : ByteArray := prog_12_method_8_code
def yX10_addPath : MethodName := ⟨RX10, "addPath", "(III)V"⟩
abbrev cX10_findWalks : ByteArray := prog_12_method_9_code
def yX10_findWalks : MethodName := ⟨RX10, "findWalks", "()V"⟩
abbrev cX10_findMoves : ByteArray := prog_12_method_10_code
def yX10_findMoves : MethodName := ⟨RX10, "findMoves", "()V"⟩
def RX11 : String := "NightHours"
def TX11 : u_T := fun k => match k with
  | 0 => ("NightHours", "tape", "[B", true)
  | 1 => ("NightHours", "reader", "LNightHours$Reader;", true)
  | 2 => ("NightHours", "held", "LNightHours$Held;", true)
  | 3 => ("NightHours", "book", "LNightHours$Book;", true)
  | 4 => ("NightHours", "all", "LNightHours$Going;", true)
  | 5 => ("NightHours", "hard", "LNightHours$Going;", true)
  | 6 => ("NightHours", "side", "LNightHours$Going;", true)
  | 7 => ("NightHours", "quarrelling", "LNightHours$Quarrelling;", true)
  | 8 => ("NightHours", "asking", "LNightHours$Asking;", true)
  | 9 => ("NightHours", "told", "LNightHours$Told;", false)
  | 10 => ("NightHours", "bytes", "I", false)
  | 11 => ("NightHours", "faultPlace", "I", false)
  | 12 => ("NightHours", "allFresh", "Z", false)
  | _ => ("NightHours", "hardFresh", "Z", false)
def tyX11 : Nat → FieldType := fun k => match k with
  | 0 => .array .byte
  | 1 => .object "NightHours$Reader"
  | 2 => .object "NightHours$Held"
  | 3 => .object "NightHours$Book"
  | 4 => .object "NightHours$Going"
  | 5 => .object "NightHours$Going"
  | 6 => .object "NightHours$Going"
  | 7 => .object "NightHours$Quarrelling"
  | 8 => .object "NightHours$Asking"
  | 9 => .object "NightHours$Told"
  | 10 => .int
  | 11 => .int
  | 12 => .boolean
  | _ => .boolean
abbrev wsX110 : List Cond := u_ws RX11 TX11 14
theorem nmX11 : ∀ a, a < 14 → ∀ b, b < 14 → a ≠ b → (TX11 a).2.1 ≠ (TX11 b).2.1 := by decide +kernel
theorem tyX11_ok : ∀ k, k < 14 → parseFieldDescriptor (TX11 k).2.2.1 = some (tyX11 k) := by decide +kernel
abbrev cX11_init : ByteArray := prog_1_method_1_code
def yX11_init : MethodName := ⟨RX11, "<init>", "()V"⟩
abbrev cX11_feed : ByteArray := prog_1_method_2_code
def yX11_feed : MethodName := ⟨RX11, "feed", "(IIIII)I"⟩
abbrev cX11_putFour : ByteArray := prog_1_method_3_code
def yX11_putFour : MethodName := ⟨RX11, "putFour", "(I)V"⟩
abbrev cX11_back : ByteArray := prog_1_method_4_code
def yX11_back : MethodName := ⟨RX11, "back", "(I)I"⟩
abbrev cX11_read : ByteArray := prog_1_method_5_code
def yX11_read : MethodName := ⟨RX11, "read", "()I"⟩
abbrev cX11_stale : ByteArray := prog_1_method_6_code
def yX11_stale : MethodName := ⟨RX11, "stale", "()V"⟩
abbrev cX11_place : ByteArray := prog_1_method_7_code
def yX11_place : MethodName := ⟨RX11, "place", "()I"⟩
abbrev cX11_doubt : ByteArray := prog_1_method_8_code
def yX11_doubt : MethodName := ⟨RX11, "doubt", "(IZ)Z"⟩
abbrev cX11_isSaying : ByteArray := prog_1_method_9_code
def yX11_isSaying : MethodName := ⟨RX11, "isSaying", "(I)Z"⟩
abbrev cX11_isSay : ByteArray := prog_1_method_10_code
def yX11_isSay : MethodName := ⟨RX11, "isSay", "(I)Z"⟩
abbrev cX11_isDoubted : ByteArray := prog_1_method_11_code
def yX11_isDoubted : MethodName := ⟨RX11, "isDoubted", "(I)Z"⟩
abbrev cX11_isTime : ByteArray := prog_1_method_12_code
def yX11_isTime : MethodName := ⟨RX11, "isTime", "(I)Z"⟩
abbrev cX11_isPlace : ByteArray := prog_1_method_13_code
def yX11_isPlace : MethodName := ⟨RX11, "isPlace", "(I)Z"⟩
abbrev cX11_isPerson : ByteArray := prog_1_method_14_code
def yX11_isPerson : MethodName := ⟨RX11, "isPerson", "(I)Z"⟩
abbrev cX11_isMinute : ByteArray := prog_1_method_15_code
def yX11_isMinute : MethodName := ⟨RX11, "isMinute", "(I)Z"⟩
abbrev cX11_walk : ByteArray := prog_1_method_16_code
def yX11_walk : MethodName := ⟨RX11, "walk", "(II)I"⟩
abbrev cX11_move : ByteArray := prog_1_method_17_code
def yX11_move : MethodName := ⟨RX11, "move", "(II)I"⟩
abbrev cX11_isGoneThrough : ByteArray := prog_1_method_18_code
def yX11_isGoneThrough : MethodName := ⟨RX11, "isGoneThrough", "()Z"⟩
abbrev cX11_levelOf : ByteArray := prog_1_method_19_code
def yX11_levelOf : MethodName := ⟨RX11, "levelOf", "(I)I"⟩
abbrev cX11_ways : ByteArray := prog_1_method_20_code
def yX11_ways : MethodName := ⟨RX11, "ways", "()I"⟩
abbrev cX11_choice : ByteArray := prog_1_method_21_code
def yX11_choice : MethodName := ⟨RX11, "choice", "(II)I"⟩
abbrev cX11_goes : ByteArray := prog_1_method_22_code
def yX11_goes : MethodName := ⟨RX11, "goes", "(II)I"⟩
abbrev cX11_hour : ByteArray := prog_1_method_23_code
def yX11_hour : MethodName := ⟨RX11, "hour", "(IIZ)I"⟩
abbrev cX11_gap : ByteArray := prog_1_method_24_code
def yX11_gap : MethodName := ⟨RX11, "gap", "(IIIZ)I"⟩
abbrev cX11_ends : ByteArray := prog_1_method_25_code
def yX11_ends : MethodName := ⟨RX11, "ends", "(IZ)I"⟩
abbrev cX11_can : ByteArray := prog_1_method_26_code
def yX11_can : MethodName := ⟨RX11, "can", "(II)I"⟩
abbrev cX11_forced : ByteArray := prog_1_method_27_code
def yX11_forced : MethodName := ⟨RX11, "forced", "(I)I"⟩
abbrev cX11_set : ByteArray := prog_1_method_28_code
def yX11_set : MethodName := ⟨RX11, "set", "(II)Z"⟩
abbrev cX11_bears : ByteArray := prog_1_method_29_code
def yX11_bears : MethodName := ⟨RX11, "bears", "(I)I"⟩
abbrev cX11_breaks : ByteArray := prog_1_method_30_code
def yX11_breaks : MethodName := ⟨RX11, "breaks", "()I"⟩
abbrev cX11_quarrels : ByteArray := prog_1_method_31_code
def yX11_quarrels : MethodName := ⟨RX11, "quarrels", "()I"⟩
abbrev cX11_quarrel : ByteArray := prog_1_method_32_code
def yX11_quarrel : MethodName := ⟨RX11, "quarrel", "(I)I"⟩
abbrev cX11_givingUps : ByteArray := prog_1_method_33_code
def yX11_givingUps : MethodName := ⟨RX11, "givingUps", "()I"⟩
abbrev cX11_givingUp : ByteArray := prog_1_method_34_code
def yX11_givingUp : MethodName := ⟨RX11, "givingUp", "(I)I"⟩
abbrev cX11_cheapest : ByteArray := prog_1_method_35_code
def yX11_cheapest : MethodName := ⟨RX11, "cheapest", "()I"⟩
abbrev cX11_price : ByteArray := prog_1_method_36_code
def yX11_price : MethodName := ⟨RX11, "price", "()I"⟩
abbrev cX11_pick : ByteArray := prog_1_method_37_code
def yX11_pick : MethodName := ⟨RX11, "pick", "(II)Z"⟩
abbrev cX11_stands : ByteArray := prog_1_method_38_code
def yX11_stands : MethodName := ⟨RX11, "stands", "()I"⟩
abbrev cX11_ring : ByteArray := prog_1_method_39_code
def yX11_ring : MethodName := ⟨RX11, "ring", "()I"⟩
abbrev cX11_ringAt : ByteArray := prog_1_method_40_code
def yX11_ringAt : MethodName := ⟨RX11, "ringAt", "(I)I"⟩
abbrev cX11_could : ByteArray := prog_1_method_41_code
def yX11_could : MethodName := ⟨RX11, "could", "(IIII)I"⟩
abbrev cX11_goWithGuest : ByteArray := prog_1_method_42_code
def yX11_goWithGuest : MethodName := ⟨RX11, "goWithGuest", "(IIII)V"⟩
abbrev cX11_been : ByteArray := prog_1_method_43_code
def yX11_been : MethodName := ⟨RX11, "been", "(IIZ)I"⟩
abbrev cX11_ask : ByteArray := prog_1_method_44_code
def yX11_ask : MethodName := ⟨RX11, "ask", "(IZ)I"⟩
abbrev cX11_next : ByteArray := prog_1_method_45_code
def yX11_next : MethodName := ⟨RX11, "next", "()I"⟩
abbrev cX11_left : ByteArray := prog_1_method_46_code
def yX11_left : MethodName := ⟨RX11, "left", "(II)I"⟩
abbrev cX11_planTo : ByteArray := prog_1_method_47_code
def yX11_planTo : MethodName := ⟨RX11, "planTo", "(I)I"⟩
abbrev cX11_plan : ByteArray := prog_1_method_48_code
def yX11_plan : MethodName := ⟨RX11, "plan", "(I)I"⟩
abbrev cX11_first : ByteArray := prog_1_method_49_code
def yX11_first : MethodName := ⟨RX11, "first", "(I)I"⟩
abbrev cX11_more : ByteArray := prog_1_method_50_code
def yX11_more : MethodName := ⟨RX11, "more", "(IIII)I"⟩
abbrev cX11_fewer : ByteArray := prog_1_method_51_code
def yX11_fewer : MethodName := ⟨RX11, "fewer", "()I"⟩
abbrev cX11_tried : ByteArray := prog_1_method_52_code
def yX11_tried : MethodName := ⟨RX11, "tried", "(II)I"⟩
abbrev cX11_setWays : ByteArray := prog_1_method_53_code
def yX11_setWays : MethodName := ⟨RX11, "setWays", "()I"⟩
abbrev cX11_slack : ByteArray := prog_1_method_54_code
def yX11_slack : MethodName := ⟨RX11, "slack", "(IIZ)I"⟩
abbrev cX11_drawn : ByteArray := prog_1_method_55_code
def yX11_drawn : MethodName := ⟨RX11, "drawn", "(III)I"⟩
abbrev cX11_whereAt : ByteArray := prog_1_method_56_code
def yX11_whereAt : MethodName := ⟨RX11, "whereAt", "(III)I"⟩
abbrev cX11_give : ByteArray := prog_1_method_57_code
def yX11_give : MethodName := ⟨RX11, "give", "()I"⟩
abbrev cX11_alone : ByteArray := prog_1_method_58_code
def yX11_alone : MethodName := ⟨RX11, "alone", "(I)I"⟩
abbrev cX11_leastGive : ByteArray := prog_1_method_59_code
def yX11_leastGive : MethodName := ⟨RX11, "leastGive", "(I)I"⟩
abbrev cX11_isKept : ByteArray := prog_1_method_60_code
def yX11_isKept : MethodName := ⟨RX11, "isKept", "(I)Z"⟩
abbrev cX11_kept : ByteArray := prog_1_method_61_code
def yX11_kept : MethodName := ⟨RX11, "kept", "(I)I"⟩
abbrev cX11_keep : ByteArray := prog_1_method_62_code
def yX11_keep : MethodName := ⟨RX11, "keep", "()I"⟩
abbrev cX11_hand : ByteArray := prog_1_method_63_code
def yX11_hand : MethodName := ⟨RX11, "hand", "(II)I"⟩
abbrev cX11_count : ByteArray := prog_1_method_64_code
def yX11_count : MethodName := ⟨RX11, "count", "(I)I"⟩
def RX12 : String := "NightHoursModel"
def TX12 : u_T := fun k => match k with
  | 0 => ("NightHoursModel", "thrown", "I", false)
  | 1 => ("NightHoursModel", "tape", "[B", true)
  | 2 => ("NightHoursModel", "taped", "I", false)
  | 3 => ("NightHoursModel", "text", "[B", true)
  | 4 => ("NightHoursModel", "size", "I", false)
  | 5 => ("NightHoursModel", "tKind", "[I", true)
  | 6 => ("NightHoursModel", "tPlace", "[I", true)
  | 7 => ("NightHoursModel", "tValue", "[I", true)
  | 8 => ("NightHoursModel", "tName", "[J", true)
  | 9 => ("NightHoursModel", "keys", "[J", true)
  | 10 => ("NightHoursModel", "tokens", "I", false)
  | 11 => ("NightHoursModel", "t", "I", false)
  | 12 => ("NightHoursModel", "open", "I", false)
  | 13 => ("NightHoursModel", "fault", "I", false)
  | 14 => ("NightHoursModel", "faultPlace", "I", false)
  | 15 => ("NightHoursModel", "worst", "I", false)
  | 16 => ("NightHoursModel", "worstPlace", "I", false)
  | 17 => ("NightHoursModel", "place", "I", false)
  | 18 => ("NightHoursModel", "live", "I", false)
  | 19 => ("NightHoursModel", "side", "I", false)
  | 20 => ("NightHoursModel", "names", "I", false)
  | 21 => ("NightHoursModel", "nameOf", "[J", true)
  | 22 => ("NightHoursModel", "nameSort", "[I", true)
  | 23 => ("NightHoursModel", "nameAt", "[I", true)
  | 24 => ("NightHoursModel", "persons", "[I", true)
  | 25 => ("NightHoursModel", "places", "[I", true)
  | 26 => ("NightHoursModel", "waysTold", "[I", true)
  | 27 => ("NightHoursModel", "wayOf", "[I", true)
  | 28 => ("NightHoursModel", "times", "[I", true)
  | 29 => ("NightHoursModel", "personOf", "[I", true)
  | 30 => ("NightHoursModel", "placeOf", "[I", true)
  | 31 => ("NightHoursModel", "sayings", "[I", true)
  | 32 => ("NightHoursModel", "isSure", "[Z", true)
  | 33 => ("NightHoursModel", "trustOf", "[I", true)
  | 34 => ("NightHoursModel", "alls", "[I", true)
  | 35 => ("NightHoursModel", "spans", "[I", true)
  | 36 => ("NightHoursModel", "spanX", "[I", true)
  | 37 => ("NightHoursModel", "spanY", "[I", true)
  | 38 => ("NightHoursModel", "spanA", "[I", true)
  | 39 => ("NightHoursModel", "spanB", "[I", true)
  | 40 => ("NightHoursModel", "opens", "[I", true)
  | 41 => ("NightHoursModel", "openOf", "[I", true)
  | 42 => ("NightHoursModel", "questions", "[I", true)
  | 43 => ("NightHoursModel", "isDoubted", "[Z", true)
  | 44 => ("NightHoursModel", "setAt", "[I", true)
  | 45 => ("NightHoursModel", "walkOf", "[I", true)
  | 46 => ("NightHoursModel", "moves", "I", false)
  | 47 => ("NightHoursModel", "moveA", "[I", true)
  | 48 => ("NightHoursModel", "moveB", "[I", true)
  | 49 => ("NightHoursModel", "moveWalk", "[I", true)
  | 50 => ("NightHoursModel", "far", "[I", true)
  | 51 => ("NightHoursModel", "nodes", "I", false)
  | 52 => ("NightHoursModel", "page", "I", false)
  | 53 => ("NightHoursModel", "isHand", "Z", false)
  | 54 => ("NightHoursModel", "mores", "I", false)
  | 55 => ("NightHoursModel", "moreX", "[I", true)
  | 56 => ("NightHoursModel", "moreY", "[I", true)
  | 57 => ("NightHoursModel", "moreA", "[I", true)
  | 58 => ("NightHoursModel", "moreB", "[I", true)
  | 59 => ("NightHoursModel", "items", "I", false)
  | 60 => ("NightHoursModel", "itemOf", "[I", true)
  | 61 => ("NightHoursModel", "chosen", "[I", true)
  | 62 => ("NightHoursModel", "nextChoice", "[I", true)
  | 63 => ("NightHoursModel", "tries", "I", false)
  | 64 => ("NightHoursModel", "isSpent", "Z", false)
  | 65 => ("NightHoursModel", "extraOf", "[I", true)
  | 66 => ("NightHoursModel", "extraWalk", "[I", true)
  | 67 => ("NightHoursModel", "extras", "I", false)
  | 68 => ("NightHoursModel", "giveSet", "I", false)
  | 69 => ("NightHoursModel", "giveBy", "I", false)
  | 70 => ("NightHoursModel", "isGone", "Z", false)
  | 71 => ("NightHoursModel", "isAllSpent", "Z", false)
  | 72 => ("NightHoursModel", "allTries", "I", false)
  | 73 => ("NightHoursModel", "ways", "I", false)
  | 74 => ("NightHoursModel", "wayItems", "I", false)
  | 75 => ("NightHoursModel", "wayChoice", "[B", true)
  | 76 => ("NightHoursModel", "triedItem", "[B", true)
  | 77 => ("NightHoursModel", "triedChoice", "[B", true)
  | 78 => ("NightHoursModel", "triedCan", "[Z", true)
  | 79 => ("NightHoursModel", "isSetsDone", "Z", false)
  | 80 => ("NightHoursModel", "isSetsSpent", "Z", false)
  | 81 => ("NightHoursModel", "hasWayOf", "[Z", true)
  | 82 => ("NightHoursModel", "quarrelMany", "I", false)
  | 83 => ("NightHoursModel", "quarrelOf", "[I", true)
  | 84 => ("NightHoursModel", "givingMany", "I", false)
  | 85 => ("NightHoursModel", "givingOf", "[I", true)
  | 86 => ("NightHoursModel", "picked", "[I", true)
  | 87 => ("NightHoursModel", "ringMany", "I", false)
  | 88 => ("NightHoursModel", "ringOf", "[I", true)
  | 89 => ("NightHoursModel", "isOut", "[Z", true)
  | 90 => ("NightHoursModel", "isBeen", "Z", false)
  | 91 => ("NightHoursModel", "beenLeast", "I", false)
  | 92 => ("NightHoursModel", "beenMost", "I", false)
  | 93 => ("NightHoursModel", "leftBy", "[I", true)
  | 94 => ("NightHoursModel", "planBy", "[I", true)
  | 95 => ("NightHoursModel", "power", "[I", true)
  | _ => ("NightHoursModel", "firstAsked", "I", false)
def tyX12 : Nat → FieldType := fun k => match k with
  | 0 => .int
  | 1 => .array .byte
  | 2 => .int
  | 3 => .array .byte
  | 4 => .int
  | 5 => .array .int
  | 6 => .array .int
  | 7 => .array .int
  | 8 => .array .long
  | 9 => .array .long
  | 10 => .int
  | 11 => .int
  | 12 => .int
  | 13 => .int
  | 14 => .int
  | 15 => .int
  | 16 => .int
  | 17 => .int
  | 18 => .int
  | 19 => .int
  | 20 => .int
  | 21 => .array .long
  | 22 => .array .int
  | 23 => .array .int
  | 24 => .array .int
  | 25 => .array .int
  | 26 => .array .int
  | 27 => .array .int
  | 28 => .array .int
  | 29 => .array .int
  | 30 => .array .int
  | 31 => .array .int
  | 32 => .array .boolean
  | 33 => .array .int
  | 34 => .array .int
  | 35 => .array .int
  | 36 => .array .int
  | 37 => .array .int
  | 38 => .array .int
  | 39 => .array .int
  | 40 => .array .int
  | 41 => .array .int
  | 42 => .array .int
  | 43 => .array .boolean
  | 44 => .array .int
  | 45 => .array .int
  | 46 => .int
  | 47 => .array .int
  | 48 => .array .int
  | 49 => .array .int
  | 50 => .array .int
  | 51 => .int
  | 52 => .int
  | 53 => .boolean
  | 54 => .int
  | 55 => .array .int
  | 56 => .array .int
  | 57 => .array .int
  | 58 => .array .int
  | 59 => .int
  | 60 => .array .int
  | 61 => .array .int
  | 62 => .array .int
  | 63 => .int
  | 64 => .boolean
  | 65 => .array .int
  | 66 => .array .int
  | 67 => .int
  | 68 => .int
  | 69 => .int
  | 70 => .boolean
  | 71 => .boolean
  | 72 => .int
  | 73 => .int
  | 74 => .int
  | 75 => .array .byte
  | 76 => .array .byte
  | 77 => .array .byte
  | 78 => .array .boolean
  | 79 => .boolean
  | 80 => .boolean
  | 81 => .array .boolean
  | 82 => .int
  | 83 => .array .int
  | 84 => .int
  | 85 => .array .int
  | 86 => .array .int
  | 87 => .int
  | 88 => .array .int
  | 89 => .array .boolean
  | 90 => .boolean
  | 91 => .int
  | 92 => .int
  | 93 => .array .int
  | 94 => .array .int
  | 95 => .array .int
  | _ => .int
abbrev wsX120 : List Cond := u_ws RX12 TX12 97
theorem nmX12 : ∀ a, a < 97 → ∀ b, b < 97 → a ≠ b → (TX12 a).2.1 ≠ (TX12 b).2.1 := by decide +kernel
theorem tyX12_ok : ∀ k, k < 97 → parseFieldDescriptor (TX12 k).2.2.1 = some (tyX12 k) := by decide +kernel
abbrev cX12_init : ByteArray := prog_14_method_2_code
def yX12_init : MethodName := ⟨RX12, "<init>", "()V"⟩
abbrev cX12_feed : ByteArray := prog_14_method_3_code
def yX12_feed : MethodName := ⟨RX12, "feed", "(IIIII)I"⟩
abbrev cX12_put : ByteArray := prog_14_method_4_code
def yX12_put : MethodName := ⟨RX12, "put", "(I)V"⟩
abbrev cX12_back : ByteArray := prog_14_method_5_code
def yX12_back : MethodName := ⟨RX12, "back", "(I)I"⟩
abbrev cX12_byteAt : ByteArray := prog_14_method_6_code
def yX12_byteAt : MethodName := ⟨RX12, "byteAt", "(I)I"⟩
abbrev cX12_isDigit : ByteArray := prog_14_method_7_code
def yX12_isDigit : MethodName := ⟨RX12, "isDigit", "(I)Z"⟩
abbrev cX12_isLetter : ByteArray := prog_14_method_8_code
def yX12_isLetter : MethodName := ⟨RX12, "isLetter", "(I)Z"⟩
abbrev cX12_appends : ByteArray := prog_14_method_9_code
def yX12_appends : MethodName := ⟨RX12, "appends", "(JI)J"⟩
abbrev cX12_word : ByteArray := prog_14_method_10_code
def yX12_word : MethodName := ⟨RX12, "word", "(IIIIIII)J"⟩
abbrev cX12_token : ByteArray := prog_14_method_11_code
def yX12_token : MethodName := ⟨RX12, "token", "(IIIJ)V"⟩
abbrev cX12_cut : ByteArray := prog_14_method_12_code
def yX12_cut : MethodName := ⟨RX12, "cut", "()V"⟩
abbrev cX12_sign : ByteArray := prog_14_method_13_code
def yX12_sign : MethodName := ⟨RX12, "sign", "(I)I"⟩
abbrev cX12_is : ByteArray := prog_14_method_14_code
def yX12_is : MethodName := ⟨RX12, "is", "(I)Z"⟩
abbrev cX12_fail : ByteArray := prog_14_method_15_code
def yX12_fail : MethodName := ⟨RX12, "fail", "(I)V"⟩
abbrev cX12_wrong : ByteArray := prog_14_method_16_code
def yX12_wrong : MethodName := ⟨RX12, "wrong", "(II)V"⟩
abbrev cX12_goesOn : ByteArray := prog_14_method_17_code
def yX12_goesOn : MethodName := ⟨RX12, "goesOn", "()V"⟩
abbrev cX12_must : ByteArray := prog_14_method_18_code
def yX12_must : MethodName := ⟨RX12, "must", "(I)V"⟩
abbrev cX12_read : ByteArray := prog_14_method_19_code
def yX12_read : MethodName := ⟨RX12, "read", "()I"⟩
abbrev cX12_changes : ByteArray := prog_14_method_20_code
def yX12_changes : MethodName := ⟨RX12, "changes", "()V"⟩
abbrev cX12_place : ByteArray := prog_14_method_21_code
def yX12_place : MethodName := ⟨RX12, "place", "()I"⟩
abbrev cX12_tell : ByteArray := prog_14_method_22_code
def yX12_tell : MethodName := ⟨RX12, "tell", "()V"⟩
abbrev cX12_named : ByteArray := prog_14_method_23_code
def yX12_named : MethodName := ⟨RX12, "named", "()I"⟩
abbrev cX12_knows : ByteArray := prog_14_method_24_code
def yX12_knows : MethodName := ⟨RX12, "knows", "(III)V"⟩
abbrev cX12_known : ByteArray := prog_14_method_25_code
def yX12_known : MethodName := ⟨RX12, "known", "(I)I"⟩
abbrev cX12_number : ByteArray := prog_14_method_26_code
def yX12_number : MethodName := ⟨RX12, "number", "(Z)I"⟩
abbrev cX12_tellName : ByteArray := prog_14_method_27_code
def yX12_tellName : MethodName := ⟨RX12, "tellName", "(I)V"⟩
abbrev cX12_tellWay : ByteArray := prog_14_method_28_code
def yX12_tellWay : MethodName := ⟨RX12, "tellWay", "()V"⟩
abbrev cX12_tellTime : ByteArray := prog_14_method_29_code
def yX12_tellTime : MethodName := ⟨RX12, "tellTime", "()V"⟩
abbrev cX12_tellSpan : ByteArray := prog_14_method_30_code
def yX12_tellSpan : MethodName := ⟨RX12, "tellSpan", "(I)V"⟩
abbrev cX12_tellSaying : ByteArray := prog_14_method_31_code
def yX12_tellSaying : MethodName := ⟨RX12, "tellSaying", "()V"⟩
abbrev cX12_tellAll : ByteArray := prog_14_method_32_code
def yX12_tellAll : MethodName := ⟨RX12, "tellAll", "(I)V"⟩
abbrev cX12_tellOpen : ByteArray := prog_14_method_33_code
def yX12_tellOpen : MethodName := ⟨RX12, "tellOpen", "()V"⟩
abbrev cX12_tellQuestion : ByteArray := prog_14_method_34_code
def yX12_tellQuestion : MethodName := ⟨RX12, "tellQuestion", "()V"⟩
abbrev cX12_walks : ByteArray := prog_14_method_35_code
def yX12_walks : MethodName := ⟨RX12, "walks", "()V"⟩
abbrev cX12_meets : ByteArray := prog_14_method_36_code
def yX12_meets : MethodName := ⟨RX12, "meets", "()V"⟩
abbrev cX12_copies : ByteArray := prog_14_method_37_code
def yX12_copies : MethodName := ⟨RX12, "copies", "(II)V"⟩
abbrev cX12_bound : ByteArray := prog_14_method_38_code
def yX12_bound : MethodName := ⟨RX12, "bound", "(III)Z"⟩
abbrev cX12_openAt : ByteArray := prog_14_method_39_code
def yX12_openAt : MethodName := ⟨RX12, "openAt", "(I)I"⟩
abbrev cX12_atMost : ByteArray := prog_14_method_40_code
def yX12_atMost : MethodName := ⟨RX12, "atMost", "(III)Z"⟩
abbrev cX12_between : ByteArray := prog_14_method_41_code
def yX12_between : MethodName := ⟨RX12, "between", "(IIII)Z"⟩
abbrev cX12_holdsSpan : ByteArray := prog_14_method_42_code
def yX12_holdsSpan : MethodName := ⟨RX12, "holdsSpan", "(II)Z"⟩
abbrev cX12_begins : ByteArray := prog_14_method_43_code
def yX12_begins : MethodName := ⟨RX12, "begins", "(I)Z"⟩
abbrev cX12_more : ByteArray := prog_14_method_44_code
def yX12_more : MethodName := ⟨RX12, "more", "(IIII)I"⟩
abbrev cX12_fewer : ByteArray := prog_14_method_45_code
def yX12_fewer : MethodName := ⟨RX12, "fewer", "()I"⟩
abbrev cX12_choices : ByteArray := prog_14_method_46_code
def yX12_choices : MethodName := ⟨RX12, "choices", "(I)I"⟩
abbrev cX12_chooses : ByteArray := prog_14_method_47_code
def yX12_chooses : MethodName := ⟨RX12, "chooses", "(II)Z"⟩
abbrev cX12_lists : ByteArray := prog_14_method_48_code
def yX12_lists : MethodName := ⟨RX12, "lists", "(I)V"⟩
abbrev cX12_notes : ByteArray := prog_14_method_49_code
def yX12_notes : MethodName := ⟨RX12, "notes", "(IIZ)V"⟩
abbrev cX12_searches : ByteArray := prog_14_method_50_code
def yX12_searches : MethodName := ⟨RX12, "searches", "(Z)I"⟩
abbrev cX12_undoubted : ByteArray := prog_14_method_51_code
def yX12_undoubted : MethodName := ⟨RX12, "undoubted", "()I"⟩
abbrev cX12_goesAll : ByteArray := prog_14_method_52_code
def yX12_goesAll : MethodName := ⟨RX12, "goesAll", "()V"⟩
abbrev cX12_hasWay : ByteArray := prog_14_method_53_code
def yX12_hasWay : MethodName := ⟨RX12, "hasWay", "(I)Z"⟩
abbrev cX12_lays : ByteArray := prog_14_method_54_code
def yX12_lays : MethodName := ⟨RX12, "lays", "(IZ)Z"⟩
abbrev cX12_in : ByteArray := prog_14_method_55_code
def yX12_in : MethodName := ⟨RX12, "in", "(III)Z"⟩
abbrev cX12_isTime : ByteArray := prog_14_method_56_code
def yX12_isTime : MethodName := ⟨RX12, "isTime", "(I)Z"⟩
abbrev cX12_isSaying : ByteArray := prog_14_method_57_code
def yX12_isSaying : MethodName := ⟨RX12, "isSaying", "(I)Z"⟩
abbrev cX12_isMinute : ByteArray := prog_14_method_58_code
def yX12_isMinute : MethodName := ⟨RX12, "isMinute", "(I)Z"⟩
abbrev cX12_doubt : ByteArray := prog_14_method_59_code
def yX12_doubt : MethodName := ⟨RX12, "doubt", "(IZ)Z"⟩
abbrev cX12_walk : ByteArray := prog_14_method_60_code
def yX12_walk : MethodName := ⟨RX12, "walk", "(II)I"⟩
abbrev cX12_move : ByteArray := prog_14_method_61_code
def yX12_move : MethodName := ⟨RX12, "move", "(II)I"⟩
abbrev cX12_ways : ByteArray := prog_14_method_62_code
def yX12_ways : MethodName := ⟨RX12, "ways", "()I"⟩
abbrev cX12_asks : ByteArray := prog_14_method_63_code
def yX12_asks : MethodName := ⟨RX12, "asks", "(I)I"⟩
abbrev cX12_choiceOf : ByteArray := prog_14_method_64_code
def yX12_choiceOf : MethodName := ⟨RX12, "choiceOf", "(II)I"⟩
abbrev cX12_choice : ByteArray := prog_14_method_65_code
def yX12_choice : MethodName := ⟨RX12, "choice", "(II)I"⟩
abbrev cX12_goes : ByteArray := prog_14_method_66_code
def yX12_goes : MethodName := ⟨RX12, "goes", "(II)I"⟩
abbrev cX12_gapNow : ByteArray := prog_14_method_67_code
def yX12_gapNow : MethodName := ⟨RX12, "gapNow", "(IIZ)I"⟩
abbrev cX12_hour : ByteArray := prog_14_method_68_code
def yX12_hour : MethodName := ⟨RX12, "hour", "(IIZ)I"⟩
abbrev cX12_gap : ByteArray := prog_14_method_69_code
def yX12_gap : MethodName := ⟨RX12, "gap", "(IIIZ)I"⟩
abbrev cX12_ends : ByteArray := prog_14_method_70_code
def yX12_ends : MethodName := ⟨RX12, "ends", "(IZ)I"⟩
abbrev cX12_can : ByteArray := prog_14_method_71_code
def yX12_can : MethodName := ⟨RX12, "can", "(II)I"⟩
abbrev cX12_forced : ByteArray := prog_14_method_72_code
def yX12_forced : MethodName := ⟨RX12, "forced", "(I)I"⟩
abbrev cX12_set : ByteArray := prog_14_method_73_code
def yX12_set : MethodName := ⟨RX12, "set", "(II)Z"⟩
abbrev cX12_bearsSpan : ByteArray := prog_14_method_74_code
def yX12_bearsSpan : MethodName := ⟨RX12, "bearsSpan", "(I)I"⟩
abbrev cX12_bears : ByteArray := prog_14_method_75_code
def yX12_bears : MethodName := ⟨RX12, "bears", "(I)I"⟩
abbrev cX12_breaks : ByteArray := prog_14_method_76_code
def yX12_breaks : MethodName := ⟨RX12, "breaks", "()I"⟩
abbrev cX12_bits : ByteArray := prog_14_method_77_code
def yX12_bits : MethodName := ⟨RX12, "bits", "(I)I"⟩
abbrev cX12_sureOnes : ByteArray := prog_14_method_78_code
def yX12_sureOnes : MethodName := ⟨RX12, "sureOnes", "()I"⟩
abbrev cX12_sets : ByteArray := prog_14_method_79_code
def yX12_sets : MethodName := ⟨RX12, "sets", "()V"⟩
abbrev cX12_quarrels : ByteArray := prog_14_method_80_code
def yX12_quarrels : MethodName := ⟨RX12, "quarrels", "()I"⟩
abbrev cX12_quarrel : ByteArray := prog_14_method_81_code
def yX12_quarrel : MethodName := ⟨RX12, "quarrel", "(I)I"⟩
abbrev cX12_givingUps : ByteArray := prog_14_method_82_code
def yX12_givingUps : MethodName := ⟨RX12, "givingUps", "()I"⟩
abbrev cX12_givingUp : ByteArray := prog_14_method_83_code
def yX12_givingUp : MethodName := ⟨RX12, "givingUp", "(I)I"⟩
abbrev cX12_trustIn : ByteArray := prog_14_method_84_code
def yX12_trustIn : MethodName := ⟨RX12, "trustIn", "(I)I"⟩
abbrev cX12_cheapest : ByteArray := prog_14_method_85_code
def yX12_cheapest : MethodName := ⟨RX12, "cheapest", "()I"⟩
abbrev cX12_price : ByteArray := prog_14_method_86_code
def yX12_price : MethodName := ⟨RX12, "price", "()I"⟩
abbrev cX12_itemAt : ByteArray := prog_14_method_87_code
def yX12_itemAt : MethodName := ⟨RX12, "itemAt", "(I)I"⟩
abbrev cX12_toldItem : ByteArray := prog_14_method_88_code
def yX12_toldItem : MethodName := ⟨RX12, "toldItem", "(I)I"⟩
abbrev cX12_pick : ByteArray := prog_14_method_89_code
def yX12_pick : MethodName := ⟨RX12, "pick", "(II)Z"⟩
abbrev cX12_pickedStands : ByteArray := prog_14_method_90_code
def yX12_pickedStands : MethodName := ⟨RX12, "pickedStands", "()Z"⟩
abbrev cX12_stands : ByteArray := prog_14_method_91_code
def yX12_stands : MethodName := ⟨RX12, "stands", "()I"⟩
abbrev cX12_rings : ByteArray := prog_14_method_92_code
def yX12_rings : MethodName := ⟨RX12, "rings", "()Z"⟩
abbrev cX12_ring : ByteArray := prog_14_method_93_code
def yX12_ring : MethodName := ⟨RX12, "ring", "()I"⟩
abbrev cX12_ringAt : ByteArray := prog_14_method_94_code
def yX12_ringAt : MethodName := ⟨RX12, "ringAt", "(I)I"⟩
abbrev cX12_isPerson : ByteArray := prog_14_method_95_code
def yX12_isPerson : MethodName := ⟨RX12, "isPerson", "(I)Z"⟩
abbrev cX12_oneMore : ByteArray := prog_14_method_96_code
def yX12_oneMore : MethodName := ⟨RX12, "oneMore", "(II)V"⟩
abbrev cX12_could : ByteArray := prog_14_method_97_code
def yX12_could : MethodName := ⟨RX12, "could", "(IIII)I"⟩
abbrev cX12_been : ByteArray := prog_14_method_98_code
def yX12_been : MethodName := ⟨RX12, "been", "(IIZ)I"⟩
abbrev cX12_meetsAll : ByteArray := prog_14_method_99_code
def yX12_meetsAll : MethodName := ⟨RX12, "meetsAll", "()V"⟩
abbrev cX12_sees : ByteArray := prog_14_method_100_code
def yX12_sees : MethodName := ⟨RX12, "sees", "(I)V"⟩
abbrev cX12_answers : ByteArray := prog_14_method_101_code
def yX12_answers : MethodName := ⟨RX12, "answers", "(II)Z"⟩
abbrev cX12_isLeft : ByteArray := prog_14_method_102_code
def yX12_isLeft : MethodName := ⟨RX12, "isLeft", "(II)Z"⟩
abbrev cX12_leftOf : ByteArray := prog_14_method_103_code
def yX12_leftOf : MethodName := ⟨RX12, "leftOf", "(II)I"⟩
abbrev cX12_ask : ByteArray := prog_14_method_104_code
def yX12_ask : MethodName := ⟨RX12, "ask", "(IZ)I"⟩
abbrev cX12_next : ByteArray := prog_14_method_105_code
def yX12_next : MethodName := ⟨RX12, "next", "()I"⟩
abbrev cX12_left : ByteArray := prog_14_method_106_code
def yX12_left : MethodName := ⟨RX12, "left", "(II)I"⟩
abbrev cX12_plans : ByteArray := prog_14_method_107_code
def yX12_plans : MethodName := ⟨RX12, "plans", "(I)I"⟩
abbrev cX12_planOf : ByteArray := prog_14_method_108_code
def yX12_planOf : MethodName := ⟨RX12, "planOf", "(IZ)I"⟩
abbrev cX12_plan : ByteArray := prog_14_method_109_code
def yX12_plan : MethodName := ⟨RX12, "plan", "(I)I"⟩
abbrev cX12_first : ByteArray := prog_14_method_110_code
def yX12_first : MethodName := ⟨RX12, "first", "(I)I"⟩
abbrev cX12_tried : ByteArray := prog_14_method_111_code
def yX12_tried : MethodName := ⟨RX12, "tried", "(II)I"⟩
abbrev cX12_laysSet : ByteArray := prog_14_method_112_code
def yX12_laysSet : MethodName := ⟨RX12, "laysSet", "(I)Z"⟩
abbrev cX12_setWays : ByteArray := prog_14_method_113_code
def yX12_setWays : MethodName := ⟨RX12, "setWays", "()I"⟩
abbrev cX12_slack : ByteArray := prog_14_method_114_code
def yX12_slack : MethodName := ⟨RX12, "slack", "(IIZ)I"⟩
abbrev cX12_drawn : ByteArray := prog_14_method_115_code
def yX12_drawn : MethodName := ⟨RX12, "drawn", "(III)I"⟩
abbrev cX12_gives : ByteArray := prog_14_method_116_code
def yX12_gives : MethodName := ⟨RX12, "gives", "(I)I"⟩
abbrev cX12_give : ByteArray := prog_14_method_117_code
def yX12_give : MethodName := ⟨RX12, "give", "()I"⟩
abbrev cX12_alone : ByteArray := prog_14_method_118_code
def yX12_alone : MethodName := ⟨RX12, "alone", "(I)I"⟩
abbrev cX12_kept : ByteArray := prog_14_method_119_code
def yX12_kept : MethodName := ⟨RX12, "kept", "(I)I"⟩
abbrev cX12_keep : ByteArray := prog_14_method_120_code
def yX12_keep : MethodName := ⟨RX12, "keep", "()I"⟩
abbrev cX12_hand : ByteArray := prog_14_method_121_code
def yX12_hand : MethodName := ⟨RX12, "hand", "(II)I"⟩
abbrev cX12_count : ByteArray := prog_14_method_122_code
def yX12_count : MethodName := ⟨RX12, "count", "(I)I"⟩
def RJ6 : String := "java/lang/Integer"
abbrev cJ6_bitCount_0f7a4 : ByteArray := prog_15_method_49_code
def yJ6_bitCount_0f7a4 : MethodName := ⟨RJ6, "bitCount", "(I)I"⟩
def RJ9 : String := "java/lang/Math"
abbrev cJ9_abs_0f7a4 : ByteArray := prog_16_method_59_code
def yJ9_abs_0f7a4 : MethodName := ⟨RJ9, "abs", "(I)I"⟩
abbrev cJ9_max_7cf53 : ByteArray := prog_16_method_65_code
def yJ9_max_7cf53 : MethodName := ⟨RJ9, "max", "(II)I"⟩
abbrev cJ9_min_7cf53 : ByteArray := prog_16_method_69_code
def yJ9_min_7cf53 : MethodName := ⟨RJ9, "min", "(II)I"⟩
def RJ10 : String := "java/lang/System"
def RJ7 : String := "java/util/Arrays"
abbrev cJ7_fill_53178 : ByteArray := prog_18_method_103_code
def yJ7_fill_53178 : MethodName := ⟨RJ7, "fill", "([II)V"⟩
def RL : String := "NightHoursLaw"
abbrev cL_law : ByteArray := code
def yL_law : MethodName := ⟨RL, "law", "([I)Z"⟩
abbrev vwCl : List vw_C := [(RX0, TX0, 6), (RX1, TX1, 3), (RX2, TX2, 18), (RX3, TX3, 4), (RX4, TX4, 5), (RX5, TX5, 6), (RX6, TX6, 12), (RX7, TX7, 13), (RX8, TX8, 4), (RX9, TX9, 4), (RX10, TX10, 19), (RX11, TX11, 14), (RX12, TX12, 97)]
end
section
/-! THE SMALL MACHINE: the same bytecode over numbered cells; all else of the machine is left out. Part 03 shows that the machine does what it does. -/
abbrev sm_I : Type := Nat → Nat → Int32
abbrev sm_L : Type := Nat → Nat → Int64
abbrev sm_R : Type := Nat → Nat → Option Nat
abbrev sm_Y : Type := sm_I × sm_L × sm_R
abbrev sm_W : Type := List (Nat × Nat) × sm_Y
abbrev sm_V : Type := List (Nat × Value)
/-- a block: its pc, the live locals if it is a cut, the block behind it, its instructions with what they mean -/
abbrev sm_B : Type := Nat × Option (List Nat) × Nat × List (Instr × List Nat)
/-- a method: name, bytes, locals, what it returns, parameters, cells and slots that it makes, places of its words, blocks -/
abbrev sm_M : Type := MethodName × ByteArray × Nat × Option FieldType × Nat × Nat × Nat × List Nat × List sm_B
abbrev sm_Z : Type := Option Value × sm_W
abbrev sm_C : Type := Nat × (Nat → Int32)
def sm_up {α : Type} (f : Nat → Nat → α) (p j : Nat) (v : α) : Nat → Nat → α := fun a => if a = p then (fun b => if b = j then v else f a b) else f a
def sm_row {α : Type} (f : Nat → Nat → α) (p : Nat) (g : Nat → α) : Nat → Nat → α := fun a => if a = p then g else f a
def sm_rv : Option Nat → Value
  | none => .null
  | some p => .ref p
def sm_lk : sm_V → Nat → Option Value
  | [], _ => none
  | (j, v) :: r, i => if j = i then some v else sm_lk r i
def sm_pick : List Nat → sm_V → Option (List Value)
  | [], _ => some []
  | i :: r, lv => match sm_lk lv i with
    | none => none
    | some v => match sm_pick r lv with
      | none => none
      | some vs => some (v :: vs)
def sm_s1 (lv : sm_V) (i : Nat) (v : Value) : sm_V := (i, v) :: lv.filter (fun q => !(q.1 == i) && !(q.1 + 1 == i && q.2.category == 2))
def sm_s2 (lv : sm_V) (i : Nat) (v : Value) : sm_V := (i, v) :: lv.filter (fun q => !(q.1 == i) && (!(q.1 == i + 1) && !(q.1 + 1 == i && q.2.category == 2)))
/-! kinds of cells: (0, c) one of the kind c; (1, n) ints, (2, n) bytes, (3, n) booleans, (4, n) longs, n of them. sm_tab: what each kind's fields are: 0 int, 1 reference, 2 boolean -/
def sm_tab : List (List Nat) := [[1, 1, 1, 1, 1, 2], [1, 1, 1], [1, 2, 1, 1, 1, 1, 0, 0, 0, 0, 2, 0, 2, 0, 0, 2, 0, 0], [1, 0, 0, 0], [0, 0, 1, 1, 1], [1, 1, 1, 1, 0, 0], [1, 1, 1, 1, 0, 0, 1, 0, 2, 2, 2, 2], [1, 1, 1, 1, 1, 0, 1, 0, 0, 0, 0, 0, 0], [1, 1, 1, 1], [1, 1, 1, 0], [0, 0, 0, 0, 0, 0, 0, 1, 1, 1, 1, 1, 1, 1, 1, 1, 1, 1, 1], [1, 1, 1, 1, 1, 1, 1, 1, 1, 1, 0, 0, 2, 2], [0, 1, 0, 1, 0, 1, 1, 1, 1, 1, 0, 0, 0, 0, 0, 0, 0, 0, 0, 0, 0, 1, 1, 1, 1, 1, 1, 1, 1, 1, 1, 1, 1, 1, 1, 1, 1, 1, 1, 1, 1, 1, 1, 1, 1, 1, 0, 1, 1, 1, 1, 0, 0, 2, 0, 1, 1, 1, 1, 0, 1, 1, 1, 0, 2, 1, 1, 0, 0, 0, 2, 2, 0, 0, 0, 1, 1, 1, 1, 2, 2, 1, 0, 1, 0, 1, 1, 0, 1, 1, 2, 0, 0, 1, 1, 1, 0]]
def sm_N (c : Nat) : Nat := (sm_tab.getD c []).length
def sm_cd (c k : Nat) : Nat := (sm_tab.getD c []).getD k 0
/-! the arrays that stand from the beginning: 1000 WORDS, 1001 STEPS, 1002 ROOM, 1003 WITH_YES, 1004 the script -/
def sm_words : List Int64 := [7825519, 482854658917, 7823737, 1953066341, 28518, 26990, 7561593, 500136506228, 1937076837, 28530, 1869636974, 108187682958948, 6386539, 6385252, 24948]
def sm_steps : List Int32 := [0, 0, 1, 0, 1, 1, 1, 15, 2, 2, 17, 0, 0, 2, 3, 3, 15, 4, 4, 15, 5, 5, 16, 2, 0, 3, 6, 6, 15, 7, 7, 17, 0, 7, 4, 8, 8, 15, 9, 9, 5, 10, 10, 15, 2, 0, 6, 11, 11, 15, 12, 12, 18, 17, 12, 7, 13, 13, 16, 16, 16, 18, 17, 0, 8, 14, 14, 15, 16, 0, 12, 15, 15, 15, 16, 17, 15, 18, 18, 14, 19, 19, 16, 25, 18, 11, 20, 20, 15, 21, 21, 16, 23, 21, 19, 22, 22, 16, 23, 23, 16, 26, 23, 19, 24, 24, 16, 26, 25, 16, 26, 26, 9, 17, 26, 13, 17, 26, 17, 0, 0, 10, 27, 27, 15, 28, 28, 11, 29, 29, 15, 30, 30, 16, 5, 0, 21, 0]
def sm_room : List Int32 := [4, 6, 12, 10, 0, 0, 10, 0, 10, 0, 4, 0, 5, 0, 0]
def sm_withyes : List Int32 := [-1431655766, -858993460, -252645136, -16711936, -65536]
def sm_sI (S : sm_C) (p : Nat) : Option (Nat × (Nat → Int32)) := match p with
  | 1001 => some (sm_steps.length, fun j => sm_steps.getD j 0)
  | 1002 => some (sm_room.length, fun j => sm_room.getD j 0)
  | 1003 => some (sm_withyes.length, fun j => sm_withyes.getD j 0)
  | 1004 => some S
  | _ => none
def sm_sL (p : Nat) : Option (Nat × (Nat → Int64)) := match p with
  | 1000 => some (sm_words.length, fun j => sm_words.getD j 0)
  | _ => none
/-! what an instruction does to locals and stack and cells' contents -/
abbrev sm_O : Type := Option (sm_V × List Value × sm_Y)
def sm_p (lv : sm_V) (m : sm_Y) (o : Option (List Value)) : sm_O := match o with
  | some s => some (lv, s, m)
  | none => none
def sm_ii (f : Int32 → Int32 → Int32) (st : List Value) : Option (List Value) := match st with
  | .int y :: .int x :: r => some (.int (f x y) :: r)
  | _ => none
def sm_iq (f : Int32 → Int32 → Int32) (st : List Value) : Option (List Value) := match st with
  | .int y :: .int x :: r => if y = 0 then none else some (.int (f x y) :: r)
  | _ => none
def sm_ll (f : Int64 → Int64 → Int64) (st : List Value) : Option (List Value) := match st with
  | .long y :: .long x :: r => some (.long (f x y) :: r)
  | _ => none
def sm_li (f : Int64 → Int32 → Int64) (st : List Value) : Option (List Value) := match st with
  | .int y :: .long x :: r => some (.long (f x y) :: r)
  | _ => none
def sm_i1 (f : Int32 → Value) (st : List Value) : Option (List Value) := match st with
  | .int x :: r => some (f x :: r)
  | _ => none
def sm_l1 (f : Int64 → Value) (st : List Value) : Option (List Value) := match st with
  | .long x :: r => some (f x :: r)
  | _ => none
def sm_lc (st : List Value) : Option (List Value) := match st with
  | .long y :: .long x :: r => some (.int (lg_cmp x y) :: r)
  | _ => none
def sm_ldi (lv : sm_V) (i : Nat) (st : List Value) : Option (List Value) := match sm_lk lv i with
  | some (.int x) => some (.int x :: st)
  | _ => none
def sm_ldl (lv : sm_V) (i : Nat) (st : List Value) : Option (List Value) := match sm_lk lv i with
  | some (.long x) => some (.long x :: st)
  | _ => none
def sm_lda (lv : sm_V) (i : Nat) (st : List Value) : Option (List Value) := match sm_lk lv i with
  | some (.ref x) => some (.ref x :: st)
  | some .null => some (.null :: st)
  | _ => none
def sm_sti (lv : sm_V) (i nL : Nat) (st : List Value) (m : sm_Y) : sm_O := match st with
  | .int x :: r => if i < nL then some (sm_s1 lv i (.int x), r, m) else none
  | _ => none
def sm_stl (lv : sm_V) (i nL : Nat) (st : List Value) (m : sm_Y) : sm_O := match st with
  | .long x :: r => if i + 1 < nL then some (sm_s2 lv i (.long x), r, m) else none
  | _ => none
def sm_sta (lv : sm_V) (i nL : Nat) (st : List Value) (m : sm_Y) : sm_O := match st with
  | .ref x :: r => if i < nL then some (sm_s1 lv i (.ref x), r, m) else none
  | .null :: r => if i < nL then some (sm_s1 lv i .null, r, m) else none
  | _ => none
def sm_inc (lv : sm_V) (i : Nat) (n : Int) (nL : Nat) (st : List Value) (m : sm_Y) : sm_O := match sm_lk lv i with
  | some (.int x) => if i < nL then some (sm_s1 lv i (.int (x + Int32.ofInt n)), st, m) else none
  | _ => none
def sm_dup (st : List Value) : Option (List Value) := match st with
  | v :: r => if v.category = 1 then some (v :: v :: r) else none
  | _ => none
def sm_dupx1 (st : List Value) : Option (List Value) := match st with
  | v :: u :: r => if v.category = 1 ∧ u.category = 1 then some (v :: u :: v :: r) else none
  | _ => none
def sm_dup2 (st : List Value) : Option (List Value) := match st with
  | v :: u :: r => if v.category = 1 ∧ u.category = 1 then some (v :: u :: v :: u :: r) else none
  | _ => none
def sm_pop (st : List Value) : Option (List Value) := match st with
  | v :: r => if v.category = 1 then some r else none
  | _ => none
def sm_out (i : Int32) (n : Nat) : Prop := i < 0 ∨ n ≤ i.toNatClampNeg
def sm_gI (S : sm_C) (lay : List (Nat × Nat)) (m : sm_Y) (st : List Value) : Option (List Value) := match st with
  | .int i :: .ref p :: r => match lay[p]? with
    | some (1, n) => if i < 0 ∨ n ≤ i.toNatClampNeg then none else some (.int (m.1 p i.toNatClampNeg) :: r)
    | some _ => none
    | none => match sm_sI S p with
      | some q => if i < 0 ∨ q.1 ≤ i.toNatClampNeg then none else some (.int (q.2 i.toNatClampNeg) :: r)
      | none => none
  | _ => none
def sm_gB (lay : List (Nat × Nat)) (m : sm_Y) (st : List Value) : Option (List Value) := match st with
  | .int i :: .ref p :: r => match lay[p]? with
    | some (2, n) => if i < 0 ∨ n ≤ i.toNatClampNeg then none else some (.int (m.1 p i.toNatClampNeg) :: r)
    | some (3, n) => if i < 0 ∨ n ≤ i.toNatClampNeg then none else some (.int (m.1 p i.toNatClampNeg) :: r)
    | _ => none
  | _ => none
def sm_gL (lay : List (Nat × Nat)) (m : sm_Y) (st : List Value) : Option (List Value) := match st with
  | .int i :: .ref p :: r => match lay[p]? with
    | some (4, n) => if i < 0 ∨ n ≤ i.toNatClampNeg then none else some (.long (m.2.1 p i.toNatClampNeg) :: r)
    | some _ => none
    | none => match sm_sL p with
      | some q => if i < 0 ∨ q.1 ≤ i.toNatClampNeg then none else some (.long (q.2 i.toNatClampNeg) :: r)
      | none => none
  | _ => none
def sm_len (S : sm_C) (lay : List (Nat × Nat)) (st : List Value) : Option (List Value) := match st with
  | .ref p :: r => match lay[p]? with
    | some (0, _) => none
    | some (t + 1, n) => if t < 4 then some (.int (Int32.ofNat n) :: r) else none
    | none => match sm_sI S p with
      | some q => some (.int (Int32.ofNat q.1) :: r)
      | none => match sm_sL p with
        | some q => some (.int (Int32.ofNat q.1) :: r)
        | none => none
  | _ => none
def sm_pI (lv : sm_V) (lay : List (Nat × Nat)) (m : sm_Y) (st : List Value) : sm_O := match st with
  | .int x :: .int i :: .ref p :: r => match lay[p]? with
    | some (1, n) => if i < 0 ∨ n ≤ i.toNatClampNeg then none else some (lv, r, sm_up m.1 p i.toNatClampNeg x, m.2)
    | _ => none
  | _ => none
def sm_pB (lv : sm_V) (lay : List (Nat × Nat)) (m : sm_Y) (st : List Value) : sm_O := match st with
  | .int x :: .int i :: .ref p :: r => match lay[p]? with
    | some (2, n) => if i < 0 ∨ n ≤ i.toNatClampNeg then none else some (lv, r, sm_up m.1 p i.toNatClampNeg (vp_nar .byte x), m.2)
    | some (3, n) => if i < 0 ∨ n ≤ i.toNatClampNeg then none else some (lv, r, sm_up m.1 p i.toNatClampNeg (vp_nar .boolean x), m.2)
    | _ => none
  | _ => none
def sm_pL (lv : sm_V) (lay : List (Nat × Nat)) (m : sm_Y) (st : List Value) : sm_O := match st with
  | .long x :: .int i :: .ref p :: r => match lay[p]? with
    | some (4, n) => if i < 0 ∨ n ≤ i.toNatClampNeg then none else some (lv, r, m.1, sm_up m.2.1 p i.toNatClampNeg x, m.2.2)
    | _ => none
  | _ => none
def sm_get (lay : List (Nat × Nat)) (m : sm_Y) (c k : Nat) (st : List Value) : Option (List Value) := match st with
  | .ref p :: r => match lay[p]? with
    | some (0, c') => if c' = c then (if sm_cd c k = 1 then some (sm_rv (m.2.2 p k) :: r) else some (.int (m.1 p k) :: r)) else none
    | _ => none
  | _ => none
def sm_put (lv : sm_V) (lay : List (Nat × Nat)) (m : sm_Y) (c k : Nat) (st : List Value) : sm_O := match st with
  | v :: .ref p :: r => match lay[p]? with
    | some (0, c') => if c' = c then (match sm_cd c k, v with
      | 0, .int x => some (lv, r, sm_up m.1 p k x, m.2)
      | 1, .ref q => some (lv, r, m.1, m.2.1, sm_up m.2.2 p k (some q))
      | 1, .null => some (lv, r, m.1, m.2.1, sm_up m.2.2 p k none)
      | 2, .int x => if x = 0 ∨ x = 1 then some (lv, r, sm_up m.1 p k x, m.2) else none
      | _, _ => none) else none
    | _ => none
  | _ => none
def sm_cpy (lv : sm_V) (lay : List (Nat × Nat)) (m : sm_Y) (st : List Value) : sm_O := match st with
  | .int n :: .int dp :: .ref a :: .int sp :: .ref a0 :: r => match lay[a0]?, lay[a]? with
    | some (1, n0), some (1, n1) => if sp < 0 ∨ dp < 0 ∨ n < 0 ∨ n0 < sp.toNatClampNeg + n.toNatClampNeg ∨ n1 < dp.toNatClampNeg + n.toNatClampNeg ∨ 8 < (r.map fun v => v.category).sum then none else some (lv, r, sm_row m.1 a (va_cpy (m.1 a0) (m.1 a) sp.toNatClampNeg dp.toNatClampNeg n.toNatClampNeg), m.2)
    | _, _ => none
  | _ => none
def sm_oin (st : List Value) : Option (List Value) := match st with
  | .ref _ :: r => if (r.map fun v => v.category).sum ≤ 8 then some r else none
  | _ => none
def sm_ma (f : Int32 → Int32 → Int32) (st : List Value) : Option (List Value) := match st with
  | .int y :: .int x :: r => if (r.map fun v => v.category).sum ≤ 8 then some (.int (f x y) :: r) else none
  | _ => none
def sm_mb (f : Int32 → Int32) (st : List Value) : Option (List Value) := match st with
  | .int x :: r => if (r.map fun v => v.category).sum ≤ 8 then some (.int (f x) :: r) else none
  | _ => none
def sm_st4 (ops : List Nat) (lv : sm_V) (lay : List (Nat × Nat)) (m : sm_Y) (st : List Value) : sm_O := match ops with
  | 0 :: _ => sm_cpy lv lay m st
  | 1 :: _ => sm_p lv m (sm_ma (fun x y => if x < y then y else x) st)
  | 2 :: _ => sm_p lv m (sm_ma (fun x y => if y < x then y else x) st)
  | 3 :: _ => sm_p lv m (sm_mb (fun x => if 0 ≤ x then x else 0 - x) st)
  | _ => none
def sm_one (S : sm_C) (nL : Nat) (i : Instr) (ops : List Nat) (lv : sm_V) (st : List Value) (lay : List (Nat × Nat)) (m : sm_Y) : sm_O := match i with
  | .iconst n => some (lv, .int (Int32.ofInt n) :: st, m)
  | .bipush n => some (lv, .int (Int8.ofInt n).toInt32 :: st, m)
  | .sipush n => some (lv, .int (Int16.ofInt n).toInt32 :: st, m)
  | .lconst n => some (lv, .long (Int64.ofNat n) :: st, m)
  | .ldc _ => some (lv, .int (Int32.ofNat (ops.getD 0 0)) :: st, m)
  | .ldc_w _ => some (lv, .int (Int32.ofNat (ops.getD 0 0)) :: st, m)
  | .ldc2_w _ => some (lv, .long (Int64.ofNat (ops.getD 0 0)) :: st, m)
  | .aconst_null => some (lv, .null :: st, m)
  | .iload k => sm_p lv m (sm_ldi lv k st)
  | .iload_n k => sm_p lv m (sm_ldi lv k st)
  | .lload k => sm_p lv m (sm_ldl lv k st)
  | .lload_n k => sm_p lv m (sm_ldl lv k st)
  | .aload k => sm_p lv m (sm_lda lv k st)
  | .aload_n k => sm_p lv m (sm_lda lv k st)
  | .istore k => sm_sti lv k nL st m
  | .istore_n k => sm_sti lv k nL st m
  | .lstore k => sm_stl lv k nL st m
  | .lstore_n k => sm_stl lv k nL st m
  | .astore k => sm_sta lv k nL st m
  | .astore_n k => sm_sta lv k nL st m
  | .iinc k n => sm_inc lv k n nL st m
  | .iadd => sm_p lv m (sm_ii (fun x y => x + y) st)
  | .isub => sm_p lv m (sm_ii (fun x y => x - y) st)
  | .imul => sm_p lv m (sm_ii (fun x y => x * y) st)
  | .iand => sm_p lv m (sm_ii (fun x y => x &&& y) st)
  | .ior => sm_p lv m (sm_ii (fun x y => x ||| y) st)
  | .ixor => sm_p lv m (sm_ii (fun x y => x ^^^ y) st)
  | .ishl => sm_p lv m (sm_ii (fun x y => x <<< (y &&& 31)) st)
  | .ishr => sm_p lv m (sm_ii (fun x y => x >>> (y &&& 31)) st)
  | .iushr => sm_p lv m (sm_ii (fun x y => (x.toUInt32 >>> (y.toUInt32 &&& Int32.toUInt32 31)).toInt32) st)
  | .idiv => sm_p lv m (sm_iq (fun x y => x / y) st)
  | .irem => sm_p lv m (sm_iq (fun x y => x - x / y * y) st)
  | .ineg => sm_p lv m (sm_i1 (fun x => .int (-x)) st)
  | .i2b => sm_p lv m (sm_i1 (fun x => .int x.toInt8.toInt32) st)
  | .i2l => sm_p lv m (sm_i1 (fun x => .long x.toInt64) st)
  | .l2i => sm_p lv m (sm_l1 (fun x => .int x.toInt32) st)
  | .ladd => sm_p lv m (sm_ll (fun x y => x + y) st)
  | .lsub => sm_p lv m (sm_ll (fun x y => x - y) st)
  | .lmul => sm_p lv m (sm_ll (fun x y => x * y) st)
  | .land => sm_p lv m (sm_ll (fun x y => x &&& y) st)
  | .lor => sm_p lv m (sm_ll (fun x y => x ||| y) st)
  | .lshl => sm_p lv m (sm_li (fun x y => x <<< (y.toInt64 &&& 63)) st)
  | .lshr => sm_p lv m (sm_li (fun x y => x >>> (y.toInt64 &&& 63)) st)
  | .lcmp => sm_p lv m (sm_lc st)
  | .dup => sm_p lv m (sm_dup st)
  | .dup_x1 => sm_p lv m (sm_dupx1 st)
  | .dup2 => sm_p lv m (sm_dup2 st)
  | .pop => sm_p lv m (sm_pop st)
  | .iaload => sm_p lv m (sm_gI S lay m st)
  | .baload => sm_p lv m (sm_gB lay m st)
  | .laload => sm_p lv m (sm_gL lay m st)
  | .arraylength => sm_p lv m (sm_len S lay st)
  | .iastore => sm_pI lv lay m st
  | .bastore => sm_pB lv lay m st
  | .lastore => sm_pL lv lay m st
  | .getfield _ => sm_p lv m (sm_get lay m (ops.getD 0 0) (ops.getD 1 0) st)
  | .putfield _ => sm_put lv lay m (ops.getD 0 0) (ops.getD 1 0) st
  | .getstatic _ => some (lv, .ref (ops.getD 0 0) :: st, m)
  | .invokestatic _ => sm_st4 ops lv lay m st
  | .invokespecial _ => sm_p lv m (sm_oin st)
  | _ => none
/-! branches -/
def sm_b1 {α : Type} (c : ClassFile.Cond) (st : List Value) (a b : List Value → Option α) : Option α := match st with
  | .int x :: r => match c with
    | .eq => if x = 0 then a r else b r
    | .ne => if x = 0 then b r else a r
    | .lt => if x < 0 then a r else b r
    | .ge => if 0 ≤ x then a r else b r
    | .gt => if 0 < x then a r else b r
    | .le => if x ≤ 0 then a r else b r
  | _ => none
def sm_b2 {α : Type} (c : ClassFile.Cond) (st : List Value) (a b : List Value → Option α) : Option α := match st with
  | .int y :: .int x :: r => match c with
    | .eq => if x = y then a r else b r
    | .ne => if x = y then b r else a r
    | .lt => if x < y then a r else b r
    | .ge => if y ≤ x then a r else b r
    | .gt => if y < x then a r else b r
    | .le => if x ≤ y then a r else b r
  | _ => none
def sm_bn {α : Type} (st : List Value) (a b : List Value → Option α) : Option α := match st with
  | .null :: r => a r
  | .ref _ :: r => b r
  | _ => none
def sm_sw {α : Type} (x : Int32) (k : Nat → Option α) (d : Nat) : Int → List Nat → Option α
  | _, [] => k d
  | v, b :: r => if x.toInt = v then k b else sm_sw x k d (v + 1) r
def sm_lo {α : Type} (x : Int32) (k : Nat → Option α) (d : Nat) : List (Int × Int) → List Nat → Option α
  | [], _ => k d
  | _ :: _, [] => none
  | v :: vs, b :: r => if x.toInt = v.1 then k b else sm_lo x k d vs r
def sm_isZ (r : Option FieldType) : Bool := match r with
  | some .boolean => true
  | _ => false
/-- the receiver of a call -/
def sm_rc (inst ci : Nat) (lay : List (Nat × Nat)) (st : List Value) (n : Nat) : Bool := match inst with
  | 0 => true
  | _ => match st.drop n with
    | .ref b :: _ => match lay[b]? with
      | some (0, c') => decide (c' = ci)
      | _ => false
    | _ => false
/-- a call: what is asked of it, then what comes back -/
def sm_inv (rec : List Value → Option sm_Z) (n nL mc ms : Nat) (rc : Bool) (st : List Value) (cs : Nat × Nat) (lim : Nat × Nat) (k : List Value → sm_W → Nat × Nat → Option sm_Z) : Option sm_Z :=
  if rc = false ∨ st.length < n ∨ nL < (lg_sl (st.take n).reverse).length ∨ 8 < ((st.drop n).map fun v => v.category).sum ∨ lim.1 < cs.1 + mc ∨ lim.2 < cs.2 + ms then none else
  match rec (st.take n).reverse with
  | none => none
  | some z => k (z.1.toList ++ st.drop n) z.2 (cs.1 + mc, cs.2 + ms)
def sm_else (P : Nat → sm_M) (S : sm_C) (rec : Nat → Nat → Nat → List Value → List Value → sm_W → Nat × Nat → Option sm_Z) (d : Nat) (M : sm_M) (i : Instr) (ops : List Nat) (lv : sm_V) (st : List Value) (w : sm_W) (cs : Nat × Nat) (k : sm_V → List Value → sm_W → Nat × Nat → Option sm_Z) : Option sm_Z := match ops with
  | g :: inst :: ci :: _ :: _ :: _ :: _ :: _ => match d with
    | 0 => none
    | d + 1 => sm_inv (fun as => rec d g 0 as [] w (0, 0)) ((P g).2.2.2.2.1 + inst) (P g).2.2.1 (P g).2.2.2.2.2.1 (P g).2.2.2.2.2.2.1 (sm_rc inst ci w.1 st (P g).2.2.2.2.1) st cs (M.2.2.2.2.2.1, M.2.2.2.2.2.2.1) (fun s' w' cs' => k lv s' w' cs')
  | _ => match sm_one S M.2.2.1 i ops lv st w.1 w.2 with
    | some q => k q.1 q.2.1 (w.1, q.2.2) cs
    | none => none
def sm_blk (P : Nat → sm_M) (S : sm_C) (rec : Nat → Nat → Nat → List Value → List Value → sm_W → Nat × Nat → Option sm_Z) (jmp : Nat → sm_V → List Value → sm_W → Nat × Nat → Option sm_Z) (d : Nat) (M : sm_M) (fall : Nat) : List (Instr × List Nat) → sm_V → List Value → sm_W → Nat × Nat → Option sm_Z
  | [], lv, st, w, cs => jmp fall lv st w cs
  | (i, ops) :: is, lv, st, w, cs => match i with
    | .goto _ => jmp (ops.getD 0 0) lv st w cs
    | .ifCond c _ => sm_b1 c st (fun r => jmp (ops.getD 0 0) lv r w cs) (fun r => jmp (ops.getD 1 0) lv r w cs)
    | .if_icmp c _ => sm_b2 c st (fun r => jmp (ops.getD 0 0) lv r w cs) (fun r => jmp (ops.getD 1 0) lv r w cs)
    | .ifnull _ => sm_bn st (fun r => jmp (ops.getD 0 0) lv r w cs) (fun r => jmp (ops.getD 1 0) lv r w cs)
    | .ifnonnull _ => sm_bn st (fun r => jmp (ops.getD 1 0) lv r w cs) (fun r => jmp (ops.getD 0 0) lv r w cs)
    | .tableswitch _ lo _ _ => match st with
      | .int x :: r => sm_sw x (fun b => jmp b lv r w cs) (ops.getD 0 0) lo (ops.drop 1)
      | _ => none
    | .lookupswitch _ ps => match st with
      | .int x :: r => sm_lo x (fun b => jmp b lv r w cs) (ops.getD 0 0) ps.toList (ops.drop 1)
      | _ => none
    | .ireturn => match st with
      | [.int x] => if cs = (M.2.2.2.2.2.1, M.2.2.2.2.2.2.1) then (if sm_isZ M.2.2.2.1 = true then (if x = 0 ∨ x = 1 then some (some (.int x), w) else none) else some (some (.int x), w)) else none
      | _ => none
    | .lreturn => match st with
      | [.long x] => if cs = (M.2.2.2.2.2.1, M.2.2.2.2.2.2.1) then some (some (.long x), w) else none
      | _ => none
    | .areturn => match st with
      | [.ref x] => if cs = (M.2.2.2.2.2.1, M.2.2.2.2.2.2.1) then some (some (.ref x), w) else none
      | _ => none
    | .return_ => match st with
      | [] => if cs = (M.2.2.2.2.2.1, M.2.2.2.2.2.2.1) then some (none, w) else none
      | _ => none
    | .new _ => if 1000 ≤ w.1.length ∨ M.2.2.2.2.2.1 < cs.1 + 1 ∨ M.2.2.2.2.2.2.1 < cs.2 + sm_N (ops.getD 0 0) then none else
        sm_blk P S rec jmp d M fall is lv (.ref w.1.length :: st) (w.1 ++ [(0, ops.getD 0 0)], sm_row w.2.1 w.1.length (fun _ => 0), w.2.2.1, sm_row w.2.2.2 w.1.length (fun _ => none)) (cs.1 + 1, cs.2 + sm_N (ops.getD 0 0))
    | .newarray _ => match st with
      | .int n :: r => if n < 0 ∨ 100000 < n.toNatClampNeg ∨ 1000 ≤ w.1.length ∨ M.2.2.2.2.2.1 < cs.1 + 1 ∨ M.2.2.2.2.2.2.1 < cs.2 + n.toNatClampNeg then none else
        sm_blk P S rec jmp d M fall is lv (.ref w.1.length :: r) (w.1 ++ [(ops.getD 0 0 + 1, n.toNatClampNeg)], sm_row w.2.1 w.1.length (fun _ => 0), sm_row w.2.2.1 w.1.length (fun _ => 0), w.2.2.2) (cs.1 + 1, cs.2 + n.toNatClampNeg)
      | _ => none
    | _ => sm_else P S rec d M i ops lv st w cs (fun lv st w cs => sm_blk P S rec jmp d M fall is lv st w cs)
def sm_go (P : Nat → sm_M) (S : sm_C) (rec : Nat → Nat → Nat → List Value → List Value → sm_W → Nat × Nat → Option sm_Z) (d f : Nat) (M : sm_M) : Nat → Nat → sm_V → List Value → sm_W → Nat × Nat → Option sm_Z
  | 0, _, _, _, _, _ => none
  | n + 1, b, lv, st, w, cs => if b = 0 then none else match M.2.2.2.2.2.2.2.2[b]? with
    | none => none
    | some (_, some live, _, _) => match sm_pick live lv with
      | none => none
      | some vs => rec d f b vs st w cs
    | some (_, none, fall, is) => sm_blk P S rec (sm_go P S rec d f M n) d M fall is lv st w cs
def sm_F (P : Nat → sm_M) (S : sm_C) (rec : Nat → Nat → Nat → List Value → List Value → sm_W → Nat × Nat → Option sm_Z) (d f b : Nat) (vs st : List Value) (w : sm_W) (cs : Nat × Nat) : Option sm_Z :=
  match (P f).2.2.2.2.2.2.2.2[b]? with
  | some (_, some live, fall, is) => sm_blk P S rec (sm_go P S rec d f (P f) 64) d (P f) fall is (if b = 0 then lv_args 0 vs else live.zip vs) st w cs
  | _ => none
def sm_run (P : Nat → sm_M) (S : sm_C) : Nat → Nat → Nat → Nat → List Value → List Value → sm_W → Nat × Nat → Option sm_Z
  | 0, _, _, _, _, _, _, _ => none
  | n + 1, d, f, b, vs, st, w, cs => sm_F P S (sm_run P S n) d f b vs st w cs
end
section
/-! the world that the small machine's cells are in the heap: cell k lies at base + k -/
def sm_wl : List Cond := lw_tbl.filter goodWord
theorem sm_wl_good {w : Cond} (h : w ∈ sm_wl) : (w.onTables && w.keeps) = true ∨ ∃ ty, w = .arrayClass ty := good_of_word (List.mem_filter.mp h).2
def sm_chunk (k : Nat) : List Cond := match k with
  | 0 => tables_1_1
  | 1 => tables_1_2
  | 2 => tables_1_3
  | 3 => tables_1_4
  | 4 => tables_1_5
  | 5 => tables_1_6
  | 6 => tables_1_7
  | 7 => tables_1_8
  | 8 => tables_1_9
  | 9 => k2_sels lw_privs_1
  | 10 => k2_sels lw_privs_2
  | 11 => k2_sels lw_privs_3
  | 12 => k2_sels lw_privs_4
  | 13 => k2_sels lw_privs_5
  | 14 => k2_sels lw_privs_6
  | 15 => k2_sels lw_privs_7
  | 16 => k2_sels lw_privs_8
  | _ => []
theorem sm_sels_app (a b : List (MethodName × Nat)) : k2_sels (a ++ b) = k2_sels a ++ k2_sels b := List.map_append
theorem sm_chunk_in {k : Nat} {w : Cond} (h : w ∈ sm_chunk k) : w ∈ lw_tbl := by
  have ht : ∀ u, u ∈ tables_1 → u ∈ lw_tbl := fun u hu => List.mem_append_right _ hu
  have hp : ∀ u, u ∈ k2_sels lw_privs → u ∈ lw_tbl := fun u hu => List.mem_append_left _ hu
  unfold sm_chunk at h
  split at h
  · exact ht w (by unfold tables_1; simp only [List.mem_append]; simp [h])
  · exact ht w (by unfold tables_1; simp only [List.mem_append]; simp [h])
  · exact ht w (by unfold tables_1; simp only [List.mem_append]; simp [h])
  · exact ht w (by unfold tables_1; simp only [List.mem_append]; simp [h])
  · exact ht w (by unfold tables_1; simp only [List.mem_append]; simp [h])
  · exact ht w (by unfold tables_1; simp only [List.mem_append]; simp [h])
  · exact ht w (by unfold tables_1; simp only [List.mem_append]; simp [h])
  · exact ht w (by unfold tables_1; simp only [List.mem_append]; simp [h])
  · exact ht w (by unfold tables_1; simp only [List.mem_append]; simp [h])
  · exact hp w (by unfold lw_privs; simp only [sm_sels_app, List.mem_append]; simp [h])
  · exact hp w (by unfold lw_privs; simp only [sm_sels_app, List.mem_append]; simp [h])
  · exact hp w (by unfold lw_privs; simp only [sm_sels_app, List.mem_append]; simp [h])
  · exact hp w (by unfold lw_privs; simp only [sm_sels_app, List.mem_append]; simp [h])
  · exact hp w (by unfold lw_privs; simp only [sm_sels_app, List.mem_append]; simp [h])
  · exact hp w (by unfold lw_privs; simp only [sm_sels_app, List.mem_append]; simp [h])
  · exact hp w (by unfold lw_privs; simp only [sm_sels_app, List.mem_append]; simp [h])
  · exact hp w (by unfold lw_privs; simp only [sm_sels_app, List.mem_append]; simp [h])
  · cases h
/-- the word is the one at that place of the tables -/
def sm_has (pos : Nat) (w : Cond) : Bool := decide ((sm_chunk (pos / 256))[pos % 256]? = some w) && goodWord w
theorem sm_has_in {pos : Nat} {w : Cond} (h : sm_has pos w = true) : w ∈ sm_wl := by
  simp only [sm_has, Bool.and_eq_true, decide_eq_true_eq] at h
  exact List.mem_filter.mpr ⟨sm_chunk_in (List.mem_of_getElem? h.1), h.2⟩
theorem sm_inw0 (k j : Nat) {w : Cond} (h : (sm_chunk k)[j]? = some w) (hg : goodWord w = true) : w ∈ sm_wl := List.mem_filter.mpr ⟨sm_chunk_in (List.mem_of_getElem? h), hg⟩
def sm_ty : Nat → FieldType
  | 0 => .int
  | 1 => .byte
  | 2 => .boolean
  | _ => .long
def sm_tys (ct : Nat → ClassId) : List (ClassId × FieldType) := [(ct 0, .int), (ct 1, .byte), (ct 2, .boolean), (ct 3, .long)]
def sm_ad (base : Nat) (tt : Nat → Nat) (p : Nat) : Nat := if p < 1000 then base + p else tt (p - 1000)
def sm_cv (base : Nat) (tt : Nat → Nat) : Value → Value
  | .ref p => .ref (sm_ad base tt p)
  | v => v
def sm_cq (base : Nat) (tt : Nat → Nat) (q : Nat × Value) : Nat × Value := (q.1, sm_cv base tt q.2)
def sm_fv (base : Nat) (tt : Nat → Nat) (w : sm_W) (c k j : Nat) : Value := if sm_cd c j = 1 then sm_cv base tt (sm_rv (w.2.2.2 k j)) else .int (w.2.1 k j)
def sm_fs (base : Nat) (tt : Nat → Nat) (w : sm_W) (c k : Nat) : List Value := (List.range (sm_N c)).map (sm_fv base tt w c k)
def sm_E (base : Nat) (ct : Nat → ClassId) (tt : Nat → Nat) (w : sm_W) (k : Nat) (q : Nat × Nat) : Nat × va_E := (base + k, match q with
  | (0, c) => .inr (c, sm_fs base tt w c k)
  | (t + 1, n) => .inl (ct t, n, if t = 3 then .inr (.inl (w.2.2.1 k)) else .inl (w.2.1 k)))
def sm_ws (base : Nat) (ct : Nat → ClassId) (tt : Nat → Nat) (w : sm_W) : va_W := w.1.mapIdx (sm_E base ct tt w)
def sm_A (base : Nat) : Nat → Prop := fun q => base ≤ q
section SmWorld
variable {base : Nat} {ct : Nat → ClassId} {tt : Nat → Nat} {lay : List (Nat × Nat)} {m m' : sm_Y} {p : Nat}
theorem sm_cv_cat (v : Value) : (sm_cv base tt v).category = v.category := by cases v <;> rfl
theorem sm_cats (r : List Value) : ((r.map (sm_cv base tt)).map fun v => v.category) = r.map fun v => v.category := by
  rw [List.map_map]; exact List.map_congr_left (fun v _ => sm_cv_cat v)
theorem sm_ws_get (w : sm_W) (k : Nat) : (sm_ws base ct tt w)[k]? = w.1[k]?.map (sm_E base ct tt w k) := by
  simp [sm_ws, List.getElem?_mapIdx]
theorem sm_lt {α : Type} {l : List α} {k : Nat} {q : α} (h : l[k]? = some q) : k < l.length := (List.getElem?_eq_some_iff.mp h).1
theorem sm_ad_w (h : p < 1000) : sm_ad base tt p = base + p := by simp [sm_ad, h]
theorem sm_ad_s (h : 1000 ≤ p) : sm_ad base tt p = tt (p - 1000) := by simp [sm_ad, Nat.not_lt.mpr h]
theorem sm_at (hn : lay.length ≤ 1000) {q : Nat × Nat} (h : lay[p]? = some q) : (sm_ws base ct tt (lay, m))[p]? = some (sm_ad base tt p, (sm_E base ct tt (lay, m) p q).2) := by
  rw [sm_ws_get]
  show lay[p]?.map _ = _
  rw [h, sm_ad_w (Nat.lt_of_lt_of_le (sm_lt h) hn)]
  rfl
theorem sm_atI (hn : lay.length ≤ 1000) {n t : Nat} (h : lay[p]? = some (t + 1, n)) (ht : ¬ t = 3) : (sm_ws base ct tt (lay, m))[p]? = some (sm_ad base tt p, .inl (ct t, n, .inl (m.1 p))) := by
  rw [sm_at hn h]; simp [sm_E, ht]
theorem sm_atL (hn : lay.length ≤ 1000) {n : Nat} (h : lay[p]? = some (4, n)) : (sm_ws base ct tt (lay, m))[p]? = some (sm_ad base tt p, .inl (ct 3, n, .inr (.inl (m.2.1 p)))) := by
  rw [sm_at hn h]; simp [sm_E]
theorem sm_atO (hn : lay.length ≤ 1000) {c : Nat} (h : lay[p]? = some (0, c)) : (sm_ws base ct tt (lay, m))[p]? = some (sm_ad base tt p, .inr (c, sm_fs base tt (lay, m) c p)) := by
  rw [sm_at hn h]; simp [sm_E]
theorem sm_atA (hn : lay.length ≤ 1000) {n t : Nat} (h : lay[p]? = some (t + 1, n)) : ∃ x : vp_A, x.1 = n ∧ (sm_ws base ct tt (lay, m))[p]? = some (sm_ad base tt p, .inl (ct t, x)) := by
  rw [sm_at hn h]; exact ⟨(n, if t = 3 then .inr (.inl (m.2.1 p)) else .inl (m.1 p)), rfl, rfl⟩
theorem sm_D (w : sm_W) : va_D (sm_A base) (sm_ws base ct tt w) := by
  refine ⟨fun i j x y hx hy hxy => ?_, fun k q hk => ?_⟩
  · rw [sm_ws_get] at hx hy
    obtain ⟨u, -, rfl⟩ := Option.map_eq_some_iff.mp hx
    obtain ⟨v, -, rfl⟩ := Option.map_eq_some_iff.mp hy
    exact Nat.add_left_cancel hxy
  · rw [sm_ws_get] at hk
    obtain ⟨u, -, rfl⟩ := Option.map_eq_some_iff.mp hk
    exact Nat.le_add_right base k
/-- one cell changes -/
theorem sm_set (hn : lay.length ≤ 1000) {q : Nat × Nat} {e : va_E} (h : lay[p]? = some q) (ho : ∀ k, k ≠ p → ∀ u, sm_E base ct tt (lay, m') k u = sm_E base ct tt (lay, m) k u) (he : (sm_E base ct tt (lay, m') p q).2 = e) :
    (sm_ws base ct tt (lay, m)).set p (sm_ad base tt p, e) = sm_ws base ct tt (lay, m') := by
  have hp := sm_lt h
  refine List.ext_getElem? (fun k => ?_)
  rw [List.getElem?_set, sm_ws_get, sm_ws_get]
  show _ = lay[k]?.map _
  by_cases hk : p = k
  · subst hk
    have hl : p < (sm_ws base ct tt (lay, m)).length := by simp [sm_ws]; exact hp
    rw [if_pos rfl, if_pos hl, h, sm_ad_w (Nat.lt_of_lt_of_le hp hn), ← he]
    rfl
  · rw [if_neg hk]
    show lay[k]?.map _ = _
    cases lay[k]? with
    | none => rfl
    | some u => simp [ho k (fun x => hk x.symm) u]
theorem sm_E_I {j : Nat} {x : Int32} {k : Nat} (hk : k ≠ p) (u : Nat × Nat) : sm_E base ct tt (lay, sm_up m.1 p j x, m.2) k u = sm_E base ct tt (lay, m) k u := by
  unfold sm_E sm_fs sm_fv sm_up; simp [hk]
theorem sm_E_L {j : Nat} {x : Int64} {k : Nat} (hk : k ≠ p) (u : Nat × Nat) : sm_E base ct tt (lay, m.1, sm_up m.2.1 p j x, m.2.2) k u = sm_E base ct tt (lay, m) k u := by
  unfold sm_E sm_fs sm_fv sm_up; simp [hk]
theorem sm_E_R {j : Nat} {x : Option Nat} {k : Nat} (hk : k ≠ p) (u : Nat × Nat) : sm_E base ct tt (lay, m.1, m.2.1, sm_up m.2.2 p j x) k u = sm_E base ct tt (lay, m) k u := by
  unfold sm_E sm_fs sm_fv sm_up; simp [hk]
theorem sm_E_row {g : Nat → Int32} {k : Nat} (hk : k ≠ p) (u : Nat × Nat) : sm_E base ct tt (lay, sm_row m.1 p g, m.2) k u = sm_E base ct tt (lay, m) k u := by
  unfold sm_E sm_fs sm_fv sm_row; simp [hk]
theorem sm_upI (f : Nat → Nat → Int32) (p j : Nat) (x : Int32) : sm_up f p j x p = upd (f p) j x := by
  unfold sm_up; rw [if_pos rfl]; rfl
theorem sm_upL (f : Nat → Nat → Int64) (p j : Nat) (x : Int64) : sm_up f p j x p = vp_updL (f p) j x := by
  unfold sm_up; rw [if_pos rfl]; rfl
theorem sm_setI (hn : lay.length ≤ 1000) {n t j : Nat} {x : Int32} (h : lay[p]? = some (t + 1, n)) (ht : ¬ t = 3) : (sm_ws base ct tt (lay, m)).set p (sm_ad base tt p, .inl (ct t, n, .inl (upd (m.1 p) j x))) = sm_ws base ct tt (lay, sm_up m.1 p j x, m.2) :=
  sm_set hn h (fun k hk u => sm_E_I hk u) (by simp [sm_E, ht, sm_upI])
theorem sm_setL (hn : lay.length ≤ 1000) {n j : Nat} {x : Int64} (h : lay[p]? = some (4, n)) : (sm_ws base ct tt (lay, m)).set p (sm_ad base tt p, .inl (ct 3, n, .inr (.inl (vp_updL (m.2.1 p) j x)))) = sm_ws base ct tt (lay, m.1, sm_up m.2.1 p j x, m.2.2) :=
  sm_set hn h (fun k hk u => sm_E_L hk u) (by simp [sm_E, sm_upL])
theorem sm_setRow (hn : lay.length ≤ 1000) {n : Nat} {g : Nat → Int32} (h : lay[p]? = some (1, n)) : (sm_ws base ct tt (lay, m)).set p (sm_ad base tt p, .inl (ct 0, n, .inl g)) = sm_ws base ct tt (lay, sm_row m.1 p g, m.2) :=
  sm_set hn h (fun k hk u => sm_E_row hk u) (by simp [sm_E, sm_row])
theorem sm_fs_get {w : sm_W} {c k j : Nat} (hj : j < sm_N c) : (sm_fs base tt w c k)[j]? = some (sm_fv base tt w c k j) := by
  simp [sm_fs, hj]
theorem sm_fs_len {w : sm_W} {c k : Nat} : (sm_fs base tt w c k).length = sm_N c := by simp [sm_fs]
theorem sm_fs_set {m m' : sm_Y} {c k j : Nat} {v : Value} (hj : j < sm_N c) (hv : sm_fv base tt (lay, m') c k j = v) (ho : ∀ i, i ≠ j → sm_fv base tt (lay, m') c k i = sm_fv base tt (lay, m) c k i) : (sm_fs base tt (lay, m) c k).set j v = sm_fs base tt (lay, m') c k := by
  refine List.ext_getElem? (fun i => ?_)
  rw [List.getElem?_set, sm_fs_len]
  by_cases hi : j = i
  · subst hi
    rw [if_pos rfl, if_pos hj, sm_fs_get hj, hv]
  · rw [if_neg hi]
    by_cases hl : i < sm_N c
    · rw [sm_fs_get hl, sm_fs_get hl, ho i (fun x => hi x.symm)]
    · rw [List.getElem?_eq_none (by rw [sm_fs_len]; omega), List.getElem?_eq_none (by rw [sm_fs_len]; omega)]
theorem sm_setFI (hn : lay.length ≤ 1000) {c j : Nat} {x : Int32} (h : lay[p]? = some (0, c)) (hj : j < sm_N c) (hc : ¬ sm_cd c j = 1) : (sm_ws base ct tt (lay, m)).set p (sm_ad base tt p, .inr (c, (sm_fs base tt (lay, m) c p).set j (.int x))) = sm_ws base ct tt (lay, sm_up m.1 p j x, m.2) :=
  sm_set hn h (fun k hk u => sm_E_I hk u) (by
    show Sum.inr (c, _) = Sum.inr (c, _)
    rw [sm_fs_set (m' := (sm_up m.1 p j x, m.2)) hj]
    · simp [sm_fv, hc, sm_up]
    · intro i hi; simp [sm_fv, sm_up, hi])
theorem sm_setFR (hn : lay.length ≤ 1000) {c j : Nat} {x : Option Nat} (h : lay[p]? = some (0, c)) (hj : j < sm_N c) (hc : sm_cd c j = 1) : (sm_ws base ct tt (lay, m)).set p (sm_ad base tt p, .inr (c, (sm_fs base tt (lay, m) c p).set j (sm_cv base tt (sm_rv x)))) = sm_ws base ct tt (lay, m.1, m.2.1, sm_up m.2.2 p j x) :=
  sm_set hn h (fun k hk u => sm_E_R hk u) (by
    show Sum.inr (c, _) = Sum.inr (c, _)
    rw [sm_fs_set (m' := (m.1, m.2.1, sm_up m.2.2 p j x)) hj]
    · simp [sm_fv, hc, sm_up]
    · intro i hi; simp [sm_fv, sm_up, hi])
theorem sm_E_new {k : Nat} {w w' : sm_W} (h1 : w'.2.1 k = w.2.1 k) (h2 : w'.2.2.1 k = w.2.2.1 k) (h3 : w'.2.2.2 k = w.2.2.2 k) (u : Nat × Nat) : sm_E base ct tt w' k u = sm_E base ct tt w k u := by
  unfold sm_E sm_fs sm_fv; rw [h1, h2, h3]
/-- one more cell -/
theorem sm_push {q : Nat × Nat} (h : ∀ k, k < lay.length → ∀ u, sm_E base ct tt (lay ++ [q], m') k u = sm_E base ct tt (lay, m) k u) : sm_ws base ct tt (lay ++ [q], m') = sm_ws base ct tt (lay, m) ++ [(base + lay.length, (sm_E base ct tt (lay ++ [q], m') lay.length q).2)] := by
  refine List.ext_getElem? (fun k => ?_)
  rw [sm_ws_get, List.getElem?_append, List.getElem?_append, sm_ws_get]
  have hl : (sm_ws base ct tt (lay, m)).length = lay.length := by simp [sm_ws]
  rw [hl]
  by_cases hk : k < lay.length
  · rw [if_pos hk, if_pos hk]
    show lay[k]?.map _ = lay[k]?.map _
    cases hq : lay[k]? with
    | none => rfl
    | some u => simp [h k hk u]
  · rw [if_neg hk, if_neg hk]
    by_cases h0 : k = lay.length
    · subst h0; simp [sm_E]
    · rw [List.getElem?_eq_none (by simp; omega), List.getElem?_eq_none (by simp; omega)]; rfl
end SmWorld
end
section
/-! each instruction: the machine does what the small machine does -/
def sm_stn : List (String × String × String) := [("NightHours$Tokens", "WORDS", "[J"), ("NightHours$Grammar", "STEPS", "[I"), ("NightHours$Grammar", "ROOM", "[I"), ("NightHours$Asking", "WITH_YES", "[I")]
def sm_nest : List (String × Nat × MethodName) := [("NightHours", 15, ⟨"NightHours$Reader", "<init>", "()V"⟩), ("NightHours$Reader", 11, ⟨"NightHours$Tokens", "<init>", "()V"⟩), ("NightHours$Reader", 20, ⟨"NightHours$Grammar", "<init>", "()V"⟩), ("NightHours", 29, ⟨"NightHours$Book", "<init>", "()V"⟩)]
def sm_G (base : Nat) (ct : Nat → ClassId) (tt : Nat → Nat) (D : va_G) (S : sm_C) (U : State) : Prop :=
  va_K D vwCl (sm_tys ct) U ∧ base ≤ U.heap.size ∧
  (∀ k q, sm_stn[k]? = some q → va_Z q.1 q.2.1 q.2.2 (.ref (tt k)) (sm_A base) U U.heap) ∧
  (∀ p q, sm_sI S p = some q → 1000 ≤ p ∧ va_T .int (tt (p - 1000)) q.1 (fun j => .int (q.2 j)) (sm_A base) U U.heap) ∧
  (∀ p q, sm_sL p = some q → 1000 ≤ p ∧ va_T .long (tt (p - 1000)) q.1 (fun j => .long (q.2 j)) (sm_A base) U U.heap) ∧
  (∀ q ∈ sm_nest, va_Nw (.methodLinkNest q.1 q.2.1 q.2.2 "NightHours") U)
def sm_X (base : Nat) (ct : Nat → ClassId) (tt : Nat → Nat) (D : va_G) (S : sm_C) (M : sm_M) (d : Nat) (p : Program) (R : Room) (s : State) (m : MethodId) (args : Array Value) (meth : Method) (c : Code) : Prop :=
  p.tables.exec = Jvm.exec ∧ c.code = M.2.1 ∧ c.maxLocals = M.2.2.1 ∧ s.vm.findClass M.1.cls = some m.cls ∧ (∀ w ∈ sm_wl, w.before args s = true) ∧ (M.1.name = "<init>" → meth.name = "<init>") ∧
  d + 1 ≤ R.frames ∧ 80 * d + 100 ≤ R.locals ∧ M.2.2.2.2.2.1 ≤ R.cells ∧ M.2.2.2.2.2.2.1 ≤ R.slots ∧ sm_G base ct tt D S s
def sm_TW (base : Nat) (ct : Nat → ClassId) (tt : Nat → Nat) (D : va_G) (M : sm_M) (p : Program) (l : Launch) (e : Env) (R : Room) (s : State) (m : MethodId) (args : Array Value) (below : List Frame) (meth : Method) (c : Code) (Q : State → Prop)
    (pc : Nat) (lv : sm_V) (st : List Value) (w : sm_W) (cs : Nat × Nat) : Prop :=
  ∀ (H : Heap) (locs : List Loc) (ls : Array Slot), lv_has ls M.2.2.1 (lv.map (sm_cq base tt)) → va_P D vwCl (sm_ws base ct tt w) H → va_S (sm_A base) s.heap H locs → s.heap.size + cs.1 = base + w.1.length → w.1.length ≤ 1000 → (cs.1 ≤ M.2.2.2.2.2.1 ∧ cs.2 ≤ M.2.2.2.2.2.2.1) →
    W p l e R s m args below meth c H locs cs.1 cs.2 Q (F0 m pc ls (st.map (sm_cv base tt)))
/-! what the kinds' tables say -/
def sm_fty : Nat → Nat → FieldType
  | 0 => tyX0
  | 1 => tyX1
  | 2 => tyX2
  | 3 => tyX3
  | 4 => tyX4
  | 5 => tyX5
  | 6 => tyX6
  | 7 => tyX7
  | 8 => tyX8
  | 9 => tyX9
  | 10 => tyX10
  | 11 => tyX11
  | _ => tyX12
def sm_CF : Prop := ∀ (ci : Nat) (C : String) (T : u_T) (N : Nat), vwCl[ci]? = some (C, T, N) → (∀ w ∈ u_ws C T N, w ∈ sm_wl) ∧ (∀ k, k < N → parseFieldDescriptor (T k).2.2.1 = some (sm_fty ci k)) ∧ (∀ a, a < N → ∀ b, b < N → a ≠ b → (T a).2.1 ≠ (T b).2.1) ∧ sm_N ci = N ∧
  ∀ k, k < N → (sm_cd ci k = 0 → sm_fty ci k = .int) ∧ (sm_cd ci k = 2 → sm_fty ci k = .boolean) ∧ (sm_cd ci k = 1 → (∃ n, sm_fty ci k = .object n) ∨ ∃ t, sm_fty ci k = .array t) ∧ sm_cd ci k ≤ 2
theorem sm_lk_in : ∀ {lv : sm_V} {i : Nat} {v : Value}, sm_lk lv i = some v → (i, v) ∈ lv
  | (j, u) :: r, i, v, h => by
    unfold sm_lk at h
    split at h
    · next e => subst e; cases h; exact List.mem_cons_self
    · exact List.mem_cons_of_mem _ (sm_lk_in h)
theorem sm_lk_ls {base : Nat} {tt : Nat → Nat} {lv : sm_V} {i : Nat} {v : Value} {ls : Array Slot} {n : Nat} (hl : lv_has ls n (lv.map (sm_cq base tt))) (h : sm_lk lv i = some v) : ls[i]? = some (.val (sm_cv base tt v)) :=
  hl.2.2 (i, sm_cv base tt v) (List.mem_map.mpr ⟨(i, v), sm_lk_in h, rfl⟩)
theorem sm_s1_map {base : Nat} {tt : Nat → Nat} {lv : sm_V} {i : Nat} {v : Value} : (i, sm_cv base tt v) :: (lv.map (sm_cq base tt)).filter (fun q => !(q.1 == i) && !(q.1 + 1 == i && q.2.category == 2)) = (sm_s1 lv i v).map (sm_cq base tt) := by
  unfold sm_s1
  rw [List.map_cons, List.filter_map]
  congr 1
  congr 1
  refine List.filter_congr (fun q _ => ?_)
  simp [sm_cq, sm_cv_cat]
theorem sm_s2_map {base : Nat} {tt : Nat → Nat} {lv : sm_V} {i : Nat} {v : Value} : (i, sm_cv base tt v) :: (lv.map (sm_cq base tt)).filter (fun q => !(q.1 == i) && (!(q.1 == i + 1) && !(q.1 + 1 == i && q.2.category == 2))) = (sm_s2 lv i v).map (sm_cq base tt) := by
  unfold sm_s2
  rw [List.map_cons, List.filter_map]
  congr 1
  congr 1
  refine List.filter_congr (fun q _ => ?_)
  simp [sm_cq, sm_cv_cat]
section SmSteps
variable {base : Nat} {ct : Nat → ClassId} {tt : Nat → Nat} {D : va_G} {S : sm_C} {M : sm_M} {d : Nat} {p : Program} {l : Launch} {e : Env} {R : Room} {s : State} {m : MethodId} {args : Array Value} {below : List Frame} {meth : Method} {c : Code} {Q : State → Prop}
variable {pc : Nat} {lv lv' : sm_V} {st st' r : List Value} {lay : List (Nat × Nat)} {me me' : sm_Y} {cs : Nat × Nat} {ops : List Nat}
/-! what an outcome says of the stack -/
theorem sm_p_of {o : Option (List Value)} (h : sm_p lv me o = some (lv', st', me')) : o = some st' ∧ lv' = lv ∧ me' = me := by
  cases o with
  | none => cases h
  | some u => cases h; exact ⟨rfl, rfl, rfl⟩
theorem sm_ii_of {f : Int32 → Int32 → Int32} (h : sm_ii f st = some st') : ∃ x y r, st = .int y :: .int x :: r ∧ st' = .int (f x y) :: r := by
  unfold sm_ii at h; split at h
  · cases h; exact ⟨_, _, _, rfl, rfl⟩
  · cases h
theorem sm_iq_of {f : Int32 → Int32 → Int32} (h : sm_iq f st = some st') : ∃ x y r, st = .int y :: .int x :: r ∧ ¬ y = 0 ∧ st' = .int (f x y) :: r := by
  unfold sm_iq at h; split at h
  · split at h
    · cases h
    · next hz => cases h; exact ⟨_, _, _, rfl, hz, rfl⟩
  · cases h
theorem sm_ll_of {f : Int64 → Int64 → Int64} (h : sm_ll f st = some st') : ∃ x y r, st = .long y :: .long x :: r ∧ st' = .long (f x y) :: r := by
  unfold sm_ll at h; split at h
  · cases h; exact ⟨_, _, _, rfl, rfl⟩
  · cases h
theorem sm_li_of {f : Int64 → Int32 → Int64} (h : sm_li f st = some st') : ∃ x y r, st = .int y :: .long x :: r ∧ st' = .long (f x y) :: r := by
  unfold sm_li at h; split at h
  · cases h; exact ⟨_, _, _, rfl, rfl⟩
  · cases h
theorem sm_i1_of {f : Int32 → Value} (h : sm_i1 f st = some st') : ∃ x r, st = .int x :: r ∧ st' = f x :: r := by
  unfold sm_i1 at h; split at h
  · cases h; exact ⟨_, _, rfl, rfl⟩
  · cases h
theorem sm_l1_of {f : Int64 → Value} (h : sm_l1 f st = some st') : ∃ x r, st = .long x :: r ∧ st' = f x :: r := by
  unfold sm_l1 at h; split at h
  · cases h; exact ⟨_, _, rfl, rfl⟩
  · cases h
theorem sm_lc_of (h : sm_lc st = some st') : ∃ x y r, st = .long y :: .long x :: r ∧ st' = .int (lg_cmp x y) :: r := by
  unfold sm_lc at h; split at h
  · cases h; exact ⟨_, _, _, rfl, rfl⟩
  · cases h
theorem sm_ldi_of {i : Nat} (h : sm_ldi lv i st = some st') : ∃ x, sm_lk lv i = some (.int x) ∧ st' = .int x :: st := by
  unfold sm_ldi at h; split at h
  · next e => cases h; exact ⟨_, e, rfl⟩
  · cases h
theorem sm_ldl_of {i : Nat} (h : sm_ldl lv i st = some st') : ∃ x, sm_lk lv i = some (.long x) ∧ st' = .long x :: st := by
  unfold sm_ldl at h; split at h
  · next e => cases h; exact ⟨_, e, rfl⟩
  · cases h
theorem sm_lda_of {i : Nat} (h : sm_lda lv i st = some st') : (∃ x, sm_lk lv i = some (.ref x) ∧ st' = .ref x :: st) ∨ (sm_lk lv i = some .null ∧ st' = .null :: st) := by
  unfold sm_lda at h; split at h
  · next e => cases h; exact Or.inl ⟨_, e, rfl⟩
  · next e => cases h; exact Or.inr ⟨e, rfl⟩
  · cases h
theorem sm_sti_of {i n : Nat} (h : sm_sti lv i n st me = some (lv', st', me')) : ∃ x, st = .int x :: st' ∧ i < n ∧ lv' = sm_s1 lv i (.int x) ∧ me' = me := by
  unfold sm_sti at h; split at h
  · split at h
    · next hi => cases h; exact ⟨_, rfl, hi, rfl, rfl⟩
    · cases h
  · cases h
theorem sm_stl_of {i n : Nat} (h : sm_stl lv i n st me = some (lv', st', me')) : ∃ x, st = .long x :: st' ∧ i + 1 < n ∧ lv' = sm_s2 lv i (.long x) ∧ me' = me := by
  unfold sm_stl at h; split at h
  · split at h
    · next hi => cases h; exact ⟨_, rfl, hi, rfl, rfl⟩
    · cases h
  · cases h
theorem sm_sta_of {i n : Nat} (h : sm_sta lv i n st me = some (lv', st', me')) : i < n ∧ me' = me ∧ ((∃ x, st = .ref x :: st' ∧ lv' = sm_s1 lv i (.ref x)) ∨ (st = .null :: st' ∧ lv' = sm_s1 lv i .null)) := by
  unfold sm_sta at h; split at h
  · split at h
    · next hi => cases h; exact ⟨hi, rfl, Or.inl ⟨_, rfl, rfl⟩⟩
    · cases h
  · split at h
    · next hi => cases h; exact ⟨hi, rfl, Or.inr ⟨rfl, rfl⟩⟩
    · cases h
  · cases h
theorem sm_inc_of {i n : Nat} {z : Int} (h : sm_inc lv i z n st me = some (lv', st', me')) : ∃ x, sm_lk lv i = some (.int x) ∧ i < n ∧ lv' = sm_s1 lv i (.int (x + Int32.ofInt z)) ∧ st' = st ∧ me' = me := by
  unfold sm_inc at h; split at h
  · next e => split at h
              · next hi => cases h; exact ⟨_, e, hi, rfl, rfl, rfl⟩
              · cases h
  · cases h
theorem sm_dup_of (h : sm_dup st = some st') : ∃ v r, st = v :: r ∧ v.category = 1 ∧ st' = v :: v :: r := by
  unfold sm_dup at h; split at h
  · split at h
    · next hc => cases h; exact ⟨_, _, rfl, hc, rfl⟩
    · cases h
  · cases h
theorem sm_dupx1_of (h : sm_dupx1 st = some st') : ∃ v u r, st = v :: u :: r ∧ v.category = 1 ∧ u.category = 1 ∧ st' = v :: u :: v :: r := by
  unfold sm_dupx1 at h; split at h
  · split at h
    · next hc => cases h; exact ⟨_, _, _, rfl, hc.1, hc.2, rfl⟩
    · cases h
  · cases h
theorem sm_dup2_of (h : sm_dup2 st = some st') : ∃ v u r, st = v :: u :: r ∧ v.category = 1 ∧ u.category = 1 ∧ st' = v :: u :: v :: u :: r := by
  unfold sm_dup2 at h; split at h
  · split at h
    · next hc => cases h; exact ⟨_, _, _, rfl, hc.1, hc.2, rfl⟩
    · cases h
  · cases h
theorem sm_pop_of (h : sm_pop st = some st') : ∃ v, st = v :: st' ∧ v.category = 1 := by
  unfold sm_pop at h; split at h
  · split at h
    · next hc => cases h; exact ⟨_, rfl, hc⟩
    · cases h
  · cases h
theorem sm_gI_of (h : sm_gI S lay me st = some st') : ∃ i a r, st = .int i :: .ref a :: r ∧ ((∃ n, lay[a]? = some (1, n) ∧ vp_in i n ∧ st' = .int (me.1 a i.toNatClampNeg) :: r) ∨ (∃ q, sm_sI S a = some q ∧ vp_in i q.1 ∧ st' = .int (q.2 i.toNatClampNeg) :: r)) := by
  unfold sm_gI at h; split at h
  · split at h
    · next e => split at h
                · cases h
                · next hi => cases h; exact ⟨_, _, _, rfl, Or.inl ⟨_, e, hi, rfl⟩⟩
    · cases h
    · split at h
      · next e => split at h
                  · cases h
                  · next hi => cases h; exact ⟨_, _, _, rfl, Or.inr ⟨_, e, hi, rfl⟩⟩
      · cases h
  · cases h
theorem sm_gB_of (h : sm_gB lay me st = some st') : ∃ i a r n, st = .int i :: .ref a :: r ∧ (lay[a]? = some (2, n) ∨ lay[a]? = some (3, n)) ∧ vp_in i n ∧ st' = .int (me.1 a i.toNatClampNeg) :: r := by
  unfold sm_gB at h; split at h
  · split at h
    · next e => split at h
                · cases h
                · next hi => cases h; exact ⟨_, _, _, _, rfl, Or.inl e, hi, rfl⟩
    · next e => split at h
                · cases h
                · next hi => cases h; exact ⟨_, _, _, _, rfl, Or.inr e, hi, rfl⟩
    · cases h
  · cases h
theorem sm_gL_of (h : sm_gL lay me st = some st') : ∃ i a r, st = .int i :: .ref a :: r ∧ ((∃ n, lay[a]? = some (4, n) ∧ vp_in i n ∧ st' = .long (me.2.1 a i.toNatClampNeg) :: r) ∨ (∃ q, sm_sL a = some q ∧ vp_in i q.1 ∧ st' = .long (q.2 i.toNatClampNeg) :: r)) := by
  unfold sm_gL at h; split at h
  · split at h
    · next e => split at h
                · cases h
                · next hi => cases h; exact ⟨_, _, _, rfl, Or.inl ⟨_, e, hi, rfl⟩⟩
    · cases h
    · split at h
      · next e => split at h
                  · cases h
                  · next hi => cases h; exact ⟨_, _, _, rfl, Or.inr ⟨_, e, hi, rfl⟩⟩
      · cases h
  · cases h
theorem sm_len_of (h : sm_len S lay st = some st') : ∃ a r, st = .ref a :: r ∧ ((∃ t n, lay[a]? = some (t + 1, n) ∧ t < 4 ∧ st' = .int (Int32.ofNat n) :: r) ∨ (∃ q, sm_sI S a = some q ∧ st' = .int (Int32.ofNat q.1) :: r) ∨ (∃ q, sm_sL a = some q ∧ st' = .int (Int32.ofNat q.1) :: r)) := by
  unfold sm_len at h; split at h
  · split at h
    · cases h
    · next e => split at h
                · next ht => cases h; exact ⟨_, _, rfl, Or.inl ⟨_, _, e, ht, rfl⟩⟩
                · cases h
    · split at h
      · next e => cases h; exact ⟨_, _, rfl, Or.inr (Or.inl ⟨_, e, rfl⟩)⟩
      · split at h
        · next e => cases h; exact ⟨_, _, rfl, Or.inr (Or.inr ⟨_, e, rfl⟩)⟩
        · cases h
  · cases h
theorem sm_pI_of (h : sm_pI lv lay me st = some (lv', st', me')) : ∃ x i a n, st = .int x :: .int i :: .ref a :: st' ∧ lay[a]? = some (1, n) ∧ vp_in i n ∧ lv' = lv ∧ me' = (sm_up me.1 a i.toNatClampNeg x, me.2) := by
  unfold sm_pI at h; split at h
  · split at h
    · next e => split at h
                · cases h
                · next hi => cases h; exact ⟨_, _, _, _, rfl, e, hi, rfl, rfl⟩
    · cases h
  · cases h
theorem sm_pB_of (h : sm_pB lv lay me st = some (lv', st', me')) : ∃ x i a n, st = .int x :: .int i :: .ref a :: st' ∧ vp_in i n ∧ lv' = lv ∧ ((lay[a]? = some (2, n) ∧ me' = (sm_up me.1 a i.toNatClampNeg (vp_nar .byte x), me.2)) ∨ (lay[a]? = some (3, n) ∧ me' = (sm_up me.1 a i.toNatClampNeg (vp_nar .boolean x), me.2))) := by
  unfold sm_pB at h; split at h
  · split at h
    · next e => split at h
                · cases h
                · next hi => cases h; exact ⟨_, _, _, _, rfl, hi, rfl, Or.inl ⟨e, rfl⟩⟩
    · next e => split at h
                · cases h
                · next hi => cases h; exact ⟨_, _, _, _, rfl, hi, rfl, Or.inr ⟨e, rfl⟩⟩
    · cases h
  · cases h
theorem sm_pL_of (h : sm_pL lv lay me st = some (lv', st', me')) : ∃ x i a n, st = .long x :: .int i :: .ref a :: st' ∧ lay[a]? = some (4, n) ∧ vp_in i n ∧ lv' = lv ∧ me' = (me.1, sm_up me.2.1 a i.toNatClampNeg x, me.2.2) := by
  unfold sm_pL at h; split at h
  · split at h
    · next e => split at h
                · cases h
                · next hi => cases h; exact ⟨_, _, _, _, rfl, e, hi, rfl, rfl⟩
    · cases h
  · cases h
theorem sm_get_of {ci k : Nat} (h : sm_get lay me ci k st = some st') : ∃ a r, st = .ref a :: r ∧ lay[a]? = some (0, ci) ∧ ((sm_cd ci k = 1 ∧ st' = sm_rv (me.2.2 a k) :: r) ∨ (¬ sm_cd ci k = 1 ∧ st' = .int (me.1 a k) :: r)) := by
  unfold sm_get at h; split at h
  · split at h
    · next e => split at h
                · next hc =>
                  subst hc
                  split at h
                  · next h1 => cases h; exact ⟨_, _, rfl, e, Or.inl ⟨h1, rfl⟩⟩
                  · next h1 => cases h; exact ⟨_, _, rfl, e, Or.inr ⟨h1, rfl⟩⟩
                · cases h
    · cases h
  · cases h
theorem sm_put_of {ci k : Nat} (h : sm_put lv lay me ci k st = some (lv', st', me')) : ∃ a v, st = v :: .ref a :: st' ∧ lay[a]? = some (0, ci) ∧ lv' = lv ∧ ((∃ x, v = .int x ∧ sm_cd ci k = 0 ∧ me' = (sm_up me.1 a k x, me.2)) ∨ (∃ x, v = .int x ∧ sm_cd ci k = 2 ∧ (x = 0 ∨ x = 1) ∧ me' = (sm_up me.1 a k x, me.2)) ∨ (∃ q, v = sm_rv q ∧ sm_cd ci k = 1 ∧ me' = (me.1, me.2.1, sm_up me.2.2 a k q))) := by
  unfold sm_put at h; split at h
  · split at h
    · next e => split at h
                · next hc =>
                  subst hc
                  split at h
                  · next h1 => cases h; exact ⟨_, _, rfl, e, rfl, Or.inl ⟨_, rfl, h1, rfl⟩⟩
                  · next h1 => cases h; exact ⟨_, _, rfl, e, rfl, Or.inr (Or.inr ⟨some _, rfl, h1, rfl⟩)⟩
                  · next h1 => cases h; exact ⟨_, _, rfl, e, rfl, Or.inr (Or.inr ⟨none, rfl, h1, rfl⟩)⟩
                  · next h1 => split at h
                               · next h2 => cases h; exact ⟨_, _, rfl, e, rfl, Or.inr (Or.inl ⟨_, rfl, h1, h2, rfl⟩)⟩
                               · cases h
                  · cases h
                · cases h
    · cases h
  · cases h
theorem sm_cpy_of (h : sm_cpy lv lay me st = some (lv', st', me')) : ∃ n dp a sp a0 n0 n1, st = .int n :: .int dp :: .ref a :: .int sp :: .ref a0 :: st' ∧ lay[a0]? = some (1, n0) ∧ lay[a]? = some (1, n1) ∧ ¬ (sp < 0 ∨ dp < 0 ∨ n < 0 ∨ n0 < sp.toNatClampNeg + n.toNatClampNeg ∨ n1 < dp.toNatClampNeg + n.toNatClampNeg ∨ 8 < (st'.map fun v => v.category).sum) ∧ lv' = lv ∧ me' = (sm_row me.1 a (va_cpy (me.1 a0) (me.1 a) sp.toNatClampNeg dp.toNatClampNeg n.toNatClampNeg), me.2) := by
  unfold sm_cpy at h; split at h
  · split at h
    · next e1 e2 => split at h
                    · cases h
                    · next hi => cases h; exact ⟨_, _, _, _, _, _, _, rfl, e1, e2, hi, rfl, rfl⟩
    · cases h
  · cases h
theorem sm_ma_of {f : Int32 → Int32 → Int32} (h : sm_ma f st = some st') : ∃ x y r, st = .int y :: .int x :: r ∧ (r.map fun v => v.category).sum ≤ 8 ∧ st' = .int (f x y) :: r := by
  unfold sm_ma at h; split at h
  · split at h
    · next hc => cases h; exact ⟨_, _, _, rfl, hc, rfl⟩
    · cases h
  · cases h
theorem sm_mb_of {f : Int32 → Int32} (h : sm_mb f st = some st') : ∃ x r, st = .int x :: r ∧ (r.map fun v => v.category).sum ≤ 8 ∧ st' = .int (f x) :: r := by
  unfold sm_mb at h; split at h
  · split at h
    · next hc => cases h; exact ⟨_, _, rfl, hc, rfl⟩
    · cases h
  · cases h
theorem sm_oin_of (h : sm_oin st = some st') : ∃ a, st = .ref a :: st' ∧ (st'.map fun v => v.category).sum ≤ 8 := by
  unfold sm_oin at h; split at h
  · split at h
    · next hc => cases h; exact ⟨_, rfl, hc⟩
    · cases h
  · cases h
end SmSteps
end
section
/-! the instructions that stay in their block -/
def sm_ln : Instr → Nat
  | .bipush _ => 2
  | .iload _ => 2
  | .lload _ => 2
  | .aload _ => 2
  | .istore _ => 2
  | .lstore _ => 2
  | .astore _ => 2
  | .ldc _ => 2
  | .newarray _ => 2
  | .sipush _ => 3
  | .ldc_w _ => 3
  | .ldc2_w _ => 3
  | .iinc _ _ => 3
  | .getfield _ => 3
  | .putfield _ => 3
  | .getstatic _ => 3
  | .invokevirtual _ => 3
  | .invokestatic _ => 3
  | .invokespecial _ => 3
  | .new _ => 3
  | .goto _ => 3
  | .ifCond _ _ => 3
  | .if_icmp _ _ => 3
  | .ifnull _ => 3
  | .ifnonnull _ => 3
  | _ => 1
def sm_fl (M : sm_M) (x : Nat) (ci k pos : Nat) : Bool := match vwCl[ci]? with
  | some (C, T, N) => decide (k < N) && sm_has pos (.fieldLink M.1.cls x C (T k).2.1 (T k).2.2.1) && decide ((T k).1 = C)
  | none => false
def sm_fp (M : sm_M) (ci k : Nat) : Bool := match vwCl[ci]? with
  | some (_, T, _) => if (T k).2.2.2 = true then decide (M.1.name = "<init>") && decide ((T k).1 = M.1.cls) else true
  | none => false
def sm_gs (M : sm_M) (x a pos : Nat) : Bool := match sm_stn[a - 1000]? with
  | some q => decide (1000 ≤ a) && sm_has pos (.fieldLink M.1.cls x q.1 q.2.1 q.2.2)
  | none => false
def sm_okst (M : sm_M) (x : Nat) (ops : List Nat) : Bool := match ops with
  | 0 :: r => sm_has (r.getD 0 0) (.methodLink M.1.cls x arraycopyName) && sm_has (r.getD 1 0) (.native arraycopyName) && sm_has (r.getD 2 0) (.static arraycopyName) && sm_has (r.getD 3 0) (.initialized "java/lang/System")
  | 1 :: r => sm_has (r.getD 0 0) (.methodLink M.1.cls x Lib.Math.max.name) && sm_has (r.getD 1 0) (.static Lib.Math.max.name)
  | 2 :: r => sm_has (r.getD 0 0) (.methodLink M.1.cls x Lib.Math.min.name) && sm_has (r.getD 1 0) (.static Lib.Math.min.name)
  | 3 :: r => sm_has (r.getD 0 0) (.methodLink M.1.cls x Lib.Math.abs.name) && sm_has (r.getD 1 0) (.static Lib.Math.abs.name)
  | _ => false
def sm_ok1 (M : sm_M) (i : Instr) (ops : List Nat) : Bool := match i with
  | .getfield x => sm_fl M x (ops.getD 0 0) (ops.getD 1 0) (ops.getD 2 0)
  | .putfield x => sm_fl M x (ops.getD 0 0) (ops.getD 1 0) (ops.getD 2 0) && sm_fp M (ops.getD 0 0) (ops.getD 1 0)
  | .ldc x => sm_has (ops.getD 1 0) (.constant M.1.cls x (Int32.ofNat (ops.getD 0 0)))
  | .ldc_w x => sm_has (ops.getD 1 0) (.constant M.1.cls x (Int32.ofNat (ops.getD 0 0)))
  | .ldc2_w x => sm_has (ops.getD 1 0) (.constantLong M.1.cls x (Int64.ofNat (ops.getD 0 0)))
  | .getstatic x => sm_gs M x (ops.getD 0 0) (ops.getD 1 0)
  | .invokestatic x => sm_okst M x ops
  | .invokespecial x => sm_has (ops.getD 0 0) (.methodLink M.1.cls x Lib.objectInit) && sm_has (ops.getD 1 0) (.instanceMethod Lib.objectInit) && sm_has (ops.getD 2 0) (.code Lib.objectInit ⟨#[0xb1]⟩ 1 none)
  | _ => true
theorem sm_tt0 {ct : Nat → ClassId} : (sm_tys ct)[0]? = some (ct 0, .int) := rfl
theorem sm_tt1 {ct : Nat → ClassId} : (sm_tys ct)[1]? = some (ct 1, .byte) := rfl
theorem sm_tt2 {ct : Nat → ClassId} : (sm_tys ct)[2]? = some (ct 2, .boolean) := rfl
theorem sm_tt3 {ct : Nat → ClassId} : (sm_tys ct)[3]? = some (ct 3, .long) := rfl
theorem sm_ttt {ct : Nat → ClassId} {t : Nat} (h : t < 4) : ∃ ty, (sm_tys ct)[t]? = some (ct t, ty) := by
  match t, h with
  | 0, _ => exact ⟨_, rfl⟩
  | 1, _ => exact ⟨_, rfl⟩
  | 2, _ => exact ⟨_, rfl⟩
  | 3, _ => exact ⟨_, rfl⟩
/-! the words of the three of Math: their code is among the tables -/
def sm_MW : Prop := Cond.code Lib.Math.max.name Lib.Math.max.code 2 (some .int) ∈ sm_wl ∧ Cond.code Lib.Math.min.name Lib.Math.min.code 2 (some .int) ∈ sm_wl ∧ Cond.code Lib.Math.abs.name Lib.Math.abs.code 1 (some .int) ∈ sm_wl ∧ Cond.initialized "java/lang/Math" ∈ sm_wl
theorem sm_mth : sm_MW := ⟨(sm_inw0 3 103 rfl rfl), (sm_inw0 3 100 rfl rfl), (sm_inw0 3 219 rfl rfl), (sm_inw0 0 15 rfl rfl)⟩
section SmOne
variable {base : Nat} {ct : Nat → ClassId} {tt : Nat → Nat} {D : va_G} {S : sm_C} {M : sm_M} {d : Nat} {p : Program} {l : Launch} {e : Env} {R : Room} {s : State} {m : MethodId} {args : Array Value} {below : List Frame} {meth : Method} {c : Code} {Q : State → Prop}
variable {pc : Nat} {lv lv' : sm_V} {st st' r : List Value} {lay : List (Nat × Nat)} {me me' : sm_Y} {cs : Nat × Nat} {ops : List Nat}
theorem sm_fl_of {x ci k pos : Nat} (h : sm_fl M x ci k pos = true) : ∃ C T N, vwCl[ci]? = some (C, T, N) ∧ k < N ∧ (Cond.fieldLink M.1.cls x C (T k).2.1 (T k).2.2.1) ∈ sm_wl ∧ (T k).1 = C := by
  unfold sm_fl at h; split at h
  · next C T N e => simp only [Bool.and_eq_true, decide_eq_true_eq] at h; exact ⟨C, T, N, e, h.1.1, sm_has_in h.1.2, h.2⟩
  · cases h
set_option maxHeartbeats 4000000 in
theorem sm_k_get (cf : sm_CF) (hX : sm_X base ct tt D S M d p R s m args meth c) {x ci k pos : Nat} (hd : decode M.2.1 pc = .ok (.getfield x, 3)) (ho : sm_fl M x ci k pos = true) (h : sm_get lay me ci k st = some st') (kk : sm_TW base ct tt D M p l e R s m args below meth c Q (pc + 3) lv st' (lay, me) cs) : sm_TW base ct tt D M p l e R s m args below meth c Q pc lv st (lay, me) cs := by
  obtain ⟨a, r, rfl, ha, hv⟩ := sm_get_of h
  obtain ⟨C, T, N, hc, hk, hw, hT⟩ := sm_fl_of ho
  obtain ⟨c1, -, -, c4, -⟩ := cf ci C T N hc
  obtain ⟨hx, hb, -, hown, hts, -, -, -, -, -, hG⟩ := hX
  intro H locs ls hl hP hS hz hn hcs
  have hfv : (sm_fs base tt (lay, me) ci a)[k]? = some (sm_fv base tt (lay, me) ci a k) := sm_fs_get (by rw [c4]; exact hk)
  refine va_get hx hb hts c1 hown hG.1 hP a (sm_atO hn ha) hc k hk (hts _ hw) (fun z hz => by rw [hT] at hz; exact hz) hfv hd ?_
  rcases hv with ⟨h1, rfl⟩ | ⟨h1, rfl⟩
  · have e : sm_fv base tt (lay, me) ci a k = sm_cv base tt (sm_rv (me.2.2 a k)) := by simp [sm_fv, h1]
    rw [e]; exact kk H locs ls hl hP hS hz hn hcs
  · have e : sm_fv base tt (lay, me) ci a k = .int (me.1 a k) := by simp [sm_fv, h1]
    rw [e]; exact kk H locs ls hl hP hS hz hn hcs
set_option maxHeartbeats 4000000 in
theorem sm_k_putG (cf : sm_CF) (hX : sm_X base ct tt D S M d p R s m args meth c) {x ci k pos a : Nat} {v : Value} (hd : decode M.2.1 pc = .ok (.putfield x, 3)) (ho : sm_fl M x ci k pos = true) (hf : sm_fp M ci k = true) (ha : lay[a]? = some (0, ci)) (hnar : narrow (sm_fty ci k) (sm_cv base tt v) = sm_cv base tt v) (hfit : fits (sm_fty ci k) (sm_cv base tt v) = true)
    (hw' : lay.length ≤ 1000 → (sm_ws base ct tt (lay, me)).set a (sm_ad base tt a, .inr (ci, (sm_fs base tt (lay, me) ci a).set k (sm_cv base tt v))) = sm_ws base ct tt (lay, me')) (kk : sm_TW base ct tt D M p l e R s m args below meth c Q (pc + 3) lv r (lay, me') cs) : sm_TW base ct tt D M p l e R s m args below meth c Q pc lv (v :: .ref a :: r) (lay, me) cs := by
  obtain ⟨C, T, N, hc, hk, hw, hT⟩ := sm_fl_of ho
  obtain ⟨c1, c2, c3, c4, -⟩ := cf ci C T N hc
  obtain ⟨hx, hb, -, hown, hts, hnm, -, -, -, -, hG⟩ := hX
  intro H locs ls hl hP hS hz hn hcs
  unfold sm_fp at hf
  rw [hc] at hf
  by_cases hfin : (T k).2.2.2 = true
  · simp only [hfin, if_true, Bool.and_eq_true, decide_eq_true_eq] at hf
    refine va_putF hx hb hts c1 (sm_fty ci) c2 c3 hown hG.1 hP (sm_D _) hS a (sm_atO hn ha) hc k hk (hts _ hw) (fun z hz => by rw [hT] at hz; exact hz) hfin (hnm hf.1) hf.2 (c2 k hk) hnar hfit (by rw [sm_fs_len, c4]; exact hk) hd (fun H1 locs1 hP1 _ hS1 => ?_)
    rw [hw' hn] at hP1
    exact kk H1 locs1 ls hl hP1 hS1 hz hn hcs
  · refine va_put hx hb hts c1 (sm_fty ci) c2 c3 hown hG.1 hP (sm_D _) hS a (sm_atO hn ha) hc k hk (hts _ hw) (fun z hz => by rw [hT] at hz; exact hz) (by simpa using hfin) (c2 k hk) hnar hfit (by rw [sm_fs_len, c4]; exact hk) hd (fun H1 locs1 hP1 _ hS1 => ?_)
    rw [hw' hn] at hP1
    exact kk H1 locs1 ls hl hP1 hS1 hz hn hcs
theorem sm_k_put (cf : sm_CF) (hX : sm_X base ct tt D S M d p R s m args meth c) {x ci k pos : Nat} (hd : decode M.2.1 pc = .ok (.putfield x, 3)) (ho : sm_fl M x ci k pos = true) (hf : sm_fp M ci k = true) (h : sm_put lv lay me ci k st = some (lv', st', me')) (kk : sm_TW base ct tt D M p l e R s m args below meth c Q (pc + 3) lv' st' (lay, me') cs) : sm_TW base ct tt D M p l e R s m args below meth c Q pc lv st (lay, me) cs := by
  obtain ⟨a, v, rfl, ha, rfl, hv⟩ := sm_put_of h
  obtain ⟨C, T, N, hc, hk, hw, hT⟩ := sm_fl_of ho
  obtain ⟨-, -, -, c4, c5⟩ := cf ci C T N hc
  obtain ⟨k0, k2, k1, -⟩ := c5 k hk
  rcases hv with ⟨x, rfl, hc0, rfl⟩ | ⟨x, rfl, hc2, hx2, rfl⟩ | ⟨q, rfl, hc1, rfl⟩
  · exact sm_k_putG cf hX (v := .int x) hd ho hf ha (by rw [k0 hc0]; rfl) (by rw [k0 hc0]; rfl) (fun hn => sm_setFI hn ha (by rw [c4]; exact hk) (by omega)) kk
  · exact sm_k_putG cf hX (v := .int x) hd ho hf ha (by rw [k2 hc2]; rcases hx2 with rfl | rfl <;> rfl) (by rw [k2 hc2]; rcases hx2 with rfl | rfl <;> rfl) (fun hn => sm_setFI hn ha (by rw [c4]; exact hk) (by omega)) kk
  · exact sm_k_putG cf hX (v := sm_rv q) hd ho hf ha (by rcases k1 hc1 with ⟨n, e⟩ | ⟨n, e⟩ <;> (rw [e]; cases q <;> rfl)) (by rcases k1 hc1 with ⟨n, e⟩ | ⟨n, e⟩ <;> (rw [e]; cases q <;> rfl)) (fun hn => sm_setFR hn ha (by rw [c4]; exact hk) hc1) kk
theorem sm_k_iald (hX : sm_X base ct tt D S M d p R s m args meth c) (hd : decode M.2.1 pc = .ok (.iaload, 1)) (h : sm_gI S lay me st = some st') (kk : sm_TW base ct tt D M p l e R s m args below meth c Q (pc + 1) lv st' (lay, me) cs) : sm_TW base ct tt D M p l e R s m args below meth c Q pc lv st (lay, me) cs := by
  obtain ⟨i, a, r, rfl, hv⟩ := sm_gI_of h
  obtain ⟨hx, hb, -, hown, hts, hnm, -, -, -, -, hG⟩ := hX
  intro H locs ls hl hP hS hz hn hcs
  rcases hv with ⟨n, ha, hin, rfl⟩ | ⟨q, hq, hin, rfl⟩
  · exact va_iald hx hb hG.1 hP a 0 (sm_atI (t := 0) hn ha (by decide)) sm_tt0 hin hd (kk H locs ls hl hP hS hz hn hcs)
  · obtain ⟨h1, hT⟩ := hG.2.2.2.1 a q hq
    show W p l e R s m args below meth c H locs cs.1 cs.2 Q (F0 m pc ls (.int i :: .ref (sm_ad base tt a) :: r.map (sm_cv base tt)))
    rw [sm_ad_s h1]
    exact va_ti hx hb hT hS hin rfl hd (kk H locs ls hl hP hS hz hn hcs)
theorem sm_k_lald (hX : sm_X base ct tt D S M d p R s m args meth c) (hd : decode M.2.1 pc = .ok (.laload, 1)) (h : sm_gL lay me st = some st') (kk : sm_TW base ct tt D M p l e R s m args below meth c Q (pc + 1) lv st' (lay, me) cs) : sm_TW base ct tt D M p l e R s m args below meth c Q pc lv st (lay, me) cs := by
  obtain ⟨i, a, r, rfl, hv⟩ := sm_gL_of h
  obtain ⟨hx, hb, -, hown, hts, hnm, -, -, -, -, hG⟩ := hX
  intro H locs ls hl hP hS hz hn hcs
  rcases hv with ⟨n, ha, hin, rfl⟩ | ⟨q, hq, hin, rfl⟩
  · exact va_lald hx hb hG.1 hP a 3 (sm_atL hn ha) sm_tt3 hin hd (kk H locs ls hl hP hS hz hn hcs)
  · obtain ⟨h1, hT⟩ := hG.2.2.2.2.1 a q hq
    show W p l e R s m args below meth c H locs cs.1 cs.2 Q (F0 m pc ls (.int i :: .ref (sm_ad base tt a) :: r.map (sm_cv base tt)))
    rw [sm_ad_s h1]
    exact va_tl hx hb hT hS hin rfl hd (kk H locs ls hl hP hS hz hn hcs)
theorem sm_k_bald (hX : sm_X base ct tt D S M d p R s m args meth c) (hd : decode M.2.1 pc = .ok (.baload, 1)) (h : sm_gB lay me st = some st') (kk : sm_TW base ct tt D M p l e R s m args below meth c Q (pc + 1) lv st' (lay, me) cs) : sm_TW base ct tt D M p l e R s m args below meth c Q pc lv st (lay, me) cs := by
  obtain ⟨i, a, r, n, rfl, hv, hin, rfl⟩ := sm_gB_of h
  obtain ⟨hx, hb, -, hown, hts, hnm, -, -, -, -, hG⟩ := hX
  intro H locs ls hl hP hS hz hn hcs
  rcases hv with ha | ha
  · exact va_bald hx hb hG.1 hP a 1 (sm_atI (t := 1) hn ha (by decide)) sm_tt1 hin hd (kk H locs ls hl hP hS hz hn hcs)
  · exact va_zald hx hb hG.1 hP a 2 (sm_atI (t := 2) hn ha (by decide)) sm_tt2 hin hd (kk H locs ls hl hP hS hz hn hcs)
theorem sm_k_alen (hX : sm_X base ct tt D S M d p R s m args meth c) (hd : decode M.2.1 pc = .ok (.arraylength, 1)) (h : sm_len S lay st = some st') (kk : sm_TW base ct tt D M p l e R s m args below meth c Q (pc + 1) lv st' (lay, me) cs) : sm_TW base ct tt D M p l e R s m args below meth c Q pc lv st (lay, me) cs := by
  obtain ⟨a, r, rfl, hv⟩ := sm_len_of h
  obtain ⟨hx, hb, -, hown, hts, hnm, -, -, -, -, hG⟩ := hX
  intro H locs ls hl hP hS hz hn hcs
  rcases hv with ⟨t, n, ha, ht, rfl⟩ | ⟨q, hq, rfl⟩ | ⟨q, hq, rfl⟩
  · obtain ⟨y, rfl, hy⟩ := sm_atA (base := base) (ct := ct) (tt := tt) (m := me) hn ha
    obtain ⟨ty, hty⟩ := sm_ttt (ct := ct) ht
    exact va_alen hx hb hG.1 hP a t hy hty rfl hd (kk H locs ls hl hP hS hz hn hcs)
  · obtain ⟨h1, hT⟩ := hG.2.2.2.1 a q hq
    show W p l e R s m args below meth c H locs cs.1 cs.2 Q (F0 m pc ls (.ref (sm_ad base tt a) :: r.map (sm_cv base tt)))
    rw [sm_ad_s h1]
    exact va_tlen hx hb hT hS rfl hd (kk H locs ls hl hP hS hz hn hcs)
  · obtain ⟨h1, hT⟩ := hG.2.2.2.2.1 a q hq
    show W p l e R s m args below meth c H locs cs.1 cs.2 Q (F0 m pc ls (.ref (sm_ad base tt a) :: r.map (sm_cv base tt)))
    rw [sm_ad_s h1]
    exact va_tlen hx hb hT hS rfl hd (kk H locs ls hl hP hS hz hn hcs)
theorem sm_k_iast (hX : sm_X base ct tt D S M d p R s m args meth c) (hd : decode M.2.1 pc = .ok (.iastore, 1)) (h : sm_pI lv lay me st = some (lv', st', me')) (kk : sm_TW base ct tt D M p l e R s m args below meth c Q (pc + 1) lv' st' (lay, me') cs) : sm_TW base ct tt D M p l e R s m args below meth c Q pc lv st (lay, me) cs := by
  obtain ⟨x, i, a, n, rfl, ha, hin, rfl, rfl⟩ := sm_pI_of h
  obtain ⟨hx, hb, -, hown, hts, hnm, -, -, -, -, hG⟩ := hX
  intro H locs ls hl hP hS hz hn hcs
  refine va_iast hx hb hG.1 hP (sm_D _) hS a 0 (sm_atI (t := 0) hn ha (by decide)) sm_tt0 hin hd (fun H1 locs1 hP1 _ hS1 => ?_)
  rw [sm_setI (t := 0) hn ha (by decide)] at hP1
  exact kk H1 locs1 ls hl hP1 hS1 hz hn hcs
theorem sm_k_last (hX : sm_X base ct tt D S M d p R s m args meth c) (hd : decode M.2.1 pc = .ok (.lastore, 1)) (h : sm_pL lv lay me st = some (lv', st', me')) (kk : sm_TW base ct tt D M p l e R s m args below meth c Q (pc + 1) lv' st' (lay, me') cs) : sm_TW base ct tt D M p l e R s m args below meth c Q pc lv st (lay, me) cs := by
  obtain ⟨x, i, a, n, rfl, ha, hin, rfl, rfl⟩ := sm_pL_of h
  obtain ⟨hx, hb, -, hown, hts, hnm, -, -, -, -, hG⟩ := hX
  intro H locs ls hl hP hS hz hn hcs
  refine va_last hx hb hG.1 hP (sm_D _) hS a 3 (sm_atL hn ha) sm_tt3 hin hd (fun H1 locs1 hP1 _ hS1 => ?_)
  rw [sm_setL hn ha] at hP1
  exact kk H1 locs1 ls hl hP1 hS1 hz hn hcs
theorem sm_k_bast (hX : sm_X base ct tt D S M d p R s m args meth c) (hd : decode M.2.1 pc = .ok (.bastore, 1)) (h : sm_pB lv lay me st = some (lv', st', me')) (kk : sm_TW base ct tt D M p l e R s m args below meth c Q (pc + 1) lv' st' (lay, me') cs) : sm_TW base ct tt D M p l e R s m args below meth c Q pc lv st (lay, me) cs := by
  obtain ⟨x, i, a, n, rfl, hin, rfl, hv⟩ := sm_pB_of h
  obtain ⟨hx, hb, -, hown, hts, hnm, -, -, -, -, hG⟩ := hX
  intro H locs ls hl hP hS hz hn hcs
  rcases hv with ⟨ha, rfl⟩ | ⟨ha, rfl⟩
  · refine va_bast hx hb hG.1 hP (sm_D _) hS a 1 (sm_atI (t := 1) hn ha (by decide)) sm_tt1 hin hd (fun H1 locs1 hP1 _ hS1 => ?_)
    rw [sm_setI (t := 1) hn ha (by decide)] at hP1
    exact kk H1 locs1 ls hl hP1 hS1 hz hn hcs
  · refine va_zast hx hb hG.1 hP (sm_D _) hS a 2 (sm_atI (t := 2) hn ha (by decide)) sm_tt2 hin hd (fun H1 locs1 hP1 _ hS1 => ?_)
    rw [sm_setI (t := 2) hn ha (by decide)] at hP1
    exact kk H1 locs1 ls hl hP1 hS1 hz hn hcs
theorem sm_nfw : nativeFrameWords "java/lang/System" "arraycopy" 5 ≤ 60 := by decide +kernel
theorem sm_k_copy (hX : sm_X base ct tt D S M d p R s m args meth c) {x : Nat} (hd : decode M.2.1 pc = .ok (.invokestatic x, 3)) {r0 : List Nat} (ho : sm_okst M x (0 :: r0) = true) (h : sm_cpy lv lay me st = some (lv', st', me')) (kk : sm_TW base ct tt D M p l e R s m args below meth c Q (pc + 3) lv' st' (lay, me') cs) : sm_TW base ct tt D M p l e R s m args below meth c Q pc lv st (lay, me) cs := by
  obtain ⟨n, dp, a, sp, a0, n0, n1, rfl, ha0, ha, hi, rfl, rfl⟩ := sm_cpy_of h
  obtain ⟨hx, hb, hml, hown, hts, hnm, hfr, hlo, -, -, hG⟩ := hX
  have ho : (sm_has (r0.getD 0 0) (.methodLink M.1.cls x arraycopyName) && sm_has (r0.getD 1 0) (.native arraycopyName) && sm_has (r0.getD 2 0) (.static arraycopyName) && sm_has (r0.getD 3 0) (.initialized "java/lang/System")) = true := ho
  simp only [Bool.and_eq_true] at ho
  intro H locs ls hl hP hS hz hn hcs
  have hcat := sm_cats (base := base) (tt := tt) st'
  obtain ⟨nw, hnw, h60⟩ : ∃ nw, nativeFrameWords "java/lang/System" "arraycopy" 5 = nw ∧ nw ≤ 60 := ⟨_, rfl, sm_nfw⟩
  refine va_copyi hx hb (hml.trans hl.1.symm) hown (hts _ (sm_has_in ho.1.1.1)) (hts _ (sm_has_in ho.1.1.2)) (hts _ (sm_has_in ho.1.2)) (hts _ (sm_has_in ho.2)) hG.1 hP (sm_D _) hS a0 a 0 0 (sm_atI (t := 0) hn ha0 (by decide)) (sm_atI (t := 0) hn ha (by decide)) sm_tt0 sm_tt0 rfl (fun q => hi (Or.inl q)) (fun q => hi (Or.inr (Or.inl q))) (fun q => hi (Or.inr (Or.inr (Or.inl q)))) (Nat.not_lt.mp (fun q => hi (Or.inr (Or.inr (Or.inr (Or.inl q)))))) (Nat.not_lt.mp (fun q => hi (Or.inr (Or.inr (Or.inr (Or.inr (Or.inl q))))))) (fun _ _ => rfl) (Nat.le_trans (Nat.le_add_left 1 d) hfr) (by rw [hcat, hnw]; exact Nat.le_trans (Nat.add_le_add (Nat.not_lt.mp (fun q => hi (Or.inr (Or.inr (Or.inr (Or.inr (Or.inr q))))))) (Nat.add_le_add_right h60 11)) (Nat.le_trans (Nat.le_trans (by decide : 8 + (60 + 11) ≤ 100) (Nat.le_add_left 100 (80 * d))) hlo)) hd (fun H1 locs1 hP1 _ hS1 => ?_)
  rw [sm_setRow hn ha] at hP1
  exact kk H1 locs1 ls hl hP1 hS1 hz hn hcs
theorem sm_k_oin (hX : sm_X base ct tt D S M d p R s m args meth c) {x : Nat} (hd : decode M.2.1 pc = .ok (.invokespecial x, 3)) (ho : sm_ok1 M (.invokespecial x) ops = true) (h : sm_oin st = some st') (kk : sm_TW base ct tt D M p l e R s m args below meth c Q (pc + 3) lv st' (lay, me) cs) : sm_TW base ct tt D M p l e R s m args below meth c Q pc lv st (lay, me) cs := by
  obtain ⟨a, rfl, hc⟩ := sm_oin_of h
  obtain ⟨hx, hb, hml, hown, hts, hnm, hfr, hlo, -, -, hG⟩ := hX
  have ho : (sm_has (ops.getD 0 0) (.methodLink M.1.cls x Lib.objectInit) && sm_has (ops.getD 1 0) (.instanceMethod Lib.objectInit) && sm_has (ops.getD 2 0) (.code Lib.objectInit ⟨#[0xb1]⟩ 1 none)) = true := ho
  simp only [Bool.and_eq_true] at ho
  intro H locs ls hl hP hS hz hn hcs
  have hcat := sm_cats (base := base) (tt := tt) st'
  have hr := lv_room (m := m) (pc := pc) (ls := ls) (rest := (Value.ref a :: st').map (sm_cv base tt)) (st := st'.map (sm_cv base tt)) (by rw [hcat]; exact hc)
  exact W.objInit hx hb hown (hts _ (sm_has_in ho.1.1)) (hts _ (sm_has_in ho.1.2)) (hts _ (sm_has_in ho.2)) rfl (hl.1.trans hml.symm) rfl hd (by omega) (by omega) (kk H locs ls hl hP hS hz hn hcs)
theorem sm_k_max (hX : sm_X base ct tt D S M d p R s m args meth c) {x : Nat} (hd : decode M.2.1 pc = .ok (.invokestatic x, 3)) {r0 : List Nat} (ho : sm_okst M x (1 :: r0) = true) (h : sm_ma (fun x y => if x < y then y else x) st = some st') (kk : sm_TW base ct tt D M p l e R s m args below meth c Q (pc + 3) lv st' (lay, me) cs) : sm_TW base ct tt D M p l e R s m args below meth c Q pc lv st (lay, me) cs := by
  obtain ⟨a, b, r, rfl, hc, rfl⟩ := sm_ma_of h
  obtain ⟨hx, hb, hml, hown, hts, hnm, hfr, hlo, hce, hsl, hG⟩ := hX
  have ho : (sm_has (r0.getD 0 0) (.methodLink M.1.cls x Lib.Math.max.name) && sm_has (r0.getD 1 0) (.static Lib.Math.max.name)) = true := ho
  simp only [Bool.and_eq_true] at ho
  intro H locs ls hl hP hS hz hn hcs
  have hcat := sm_cats (base := base) (tt := tt) r
  exact va_mmax hx hb (hml.trans hl.1.symm) hown (hts _ (sm_has_in ho.1)) (hts _ (sm_has_in ho.2)) (hts _ sm_mth.2.2.2) (hts _ sm_mth.1) (by omega) (by rw [hcat]; omega) (Nat.le_trans hcs.1 hce) (Nat.le_trans hcs.2 hsl) hd (kk H locs ls hl hP hS hz hn hcs)
theorem sm_k_min (hX : sm_X base ct tt D S M d p R s m args meth c) {x : Nat} (hd : decode M.2.1 pc = .ok (.invokestatic x, 3)) {r0 : List Nat} (ho : sm_okst M x (2 :: r0) = true) (h : sm_ma (fun x y => if y < x then y else x) st = some st') (kk : sm_TW base ct tt D M p l e R s m args below meth c Q (pc + 3) lv st' (lay, me) cs) : sm_TW base ct tt D M p l e R s m args below meth c Q pc lv st (lay, me) cs := by
  obtain ⟨a, b, r, rfl, hc, rfl⟩ := sm_ma_of h
  obtain ⟨hx, hb, hml, hown, hts, hnm, hfr, hlo, hce, hsl, hG⟩ := hX
  have ho : (sm_has (r0.getD 0 0) (.methodLink M.1.cls x Lib.Math.min.name) && sm_has (r0.getD 1 0) (.static Lib.Math.min.name)) = true := ho
  simp only [Bool.and_eq_true] at ho
  intro H locs ls hl hP hS hz hn hcs
  have hcat := sm_cats (base := base) (tt := tt) r
  exact va_mmin hx hb (hml.trans hl.1.symm) hown (hts _ (sm_has_in ho.1)) (hts _ (sm_has_in ho.2)) (hts _ sm_mth.2.2.2) (hts _ sm_mth.2.1) (by omega) (by rw [hcat]; omega) (Nat.le_trans hcs.1 hce) (Nat.le_trans hcs.2 hsl) hd (kk H locs ls hl hP hS hz hn hcs)
theorem sm_k_abs (hX : sm_X base ct tt D S M d p R s m args meth c) {x : Nat} (hd : decode M.2.1 pc = .ok (.invokestatic x, 3)) {r0 : List Nat} (ho : sm_okst M x (3 :: r0) = true) (h : sm_mb (fun x => if 0 ≤ x then x else 0 - x) st = some st') (kk : sm_TW base ct tt D M p l e R s m args below meth c Q (pc + 3) lv st' (lay, me) cs) : sm_TW base ct tt D M p l e R s m args below meth c Q pc lv st (lay, me) cs := by
  obtain ⟨a, r, rfl, hc, rfl⟩ := sm_mb_of h
  obtain ⟨hx, hb, hml, hown, hts, hnm, hfr, hlo, hce, hsl, hG⟩ := hX
  have ho : (sm_has (r0.getD 0 0) (.methodLink M.1.cls x Lib.Math.abs.name) && sm_has (r0.getD 1 0) (.static Lib.Math.abs.name)) = true := ho
  simp only [Bool.and_eq_true] at ho
  intro H locs ls hl hP hS hz hn hcs
  have hcat := sm_cats (base := base) (tt := tt) r
  exact va_mabs hx hb (hml.trans hl.1.symm) hown (hts _ (sm_has_in ho.1)) (hts _ (sm_has_in ho.2)) (hts _ sm_mth.2.2.2) (hts _ sm_mth.2.2.1) (by omega) (by rw [hcat]; omega) (Nat.le_trans hcs.1 hce) (Nat.le_trans hcs.2 hsl) hd (kk H locs ls hl hP hS hz hn hcs)
theorem sm_k_st4 (hX : sm_X base ct tt D S M d p R s m args meth c) {x : Nat} (hd : decode M.2.1 pc = .ok (.invokestatic x, 3)) (ho : sm_okst M x ops = true) (h : sm_st4 ops lv lay me st = some (lv', st', me')) (kk : sm_TW base ct tt D M p l e R s m args below meth c Q (pc + 3) lv' st' (lay, me') cs) : sm_TW base ct tt D M p l e R s m args below meth c Q pc lv st (lay, me) cs := by
  unfold sm_st4 at h
  split at h
  · exact sm_k_copy hX hd ho h kk
  · obtain ⟨h2, rfl, rfl⟩ := sm_p_of h; exact sm_k_max hX hd ho h2 kk
  · obtain ⟨h2, rfl, rfl⟩ := sm_p_of h; exact sm_k_min hX hd ho h2 kk
  · obtain ⟨h2, rfl, rfl⟩ := sm_p_of h; exact sm_k_abs hX hd ho h2 kk
  · cases h
theorem sm_k_gets (hX : sm_X base ct tt D S M d p R s m args meth c) {x : Nat} (hd : decode M.2.1 pc = .ok (.getstatic x, 3)) (ho : sm_ok1 M (.getstatic x) ops = true) (kk : sm_TW base ct tt D M p l e R s m args below meth c Q (pc + 3) lv (.ref (ops.getD 0 0) :: st) (lay, me) cs) : sm_TW base ct tt D M p l e R s m args below meth c Q pc lv st (lay, me) cs := by
  obtain ⟨hx, hb, hml, hown, hts, hnm, hfr, hlo, -, -, hG⟩ := hX
  intro H locs ls hl hP hS hz hn hcs
  have ho : sm_gs M x (ops.getD 0 0) (ops.getD 1 0) = true := ho
  unfold sm_gs at ho
  split at ho
  · next q hq =>
    simp only [Bool.and_eq_true, decide_eq_true_eq] at ho
    have hz2 := hG.2.2.1 _ q hq
    refine va_gets hx hb hz2 hS hown (hts _ (sm_has_in ho.2)) (fun z hz => hz) hd ?_
    have k1 := kk H locs ls hl hP hS hz hn hcs
    have e1 : (Value.ref (ops.getD 0 0) :: st).map (sm_cv base tt) = Value.ref (tt (ops.getD 0 0 - 1000)) :: st.map (sm_cv base tt) := by
      show Value.ref (sm_ad base tt (ops.getD 0 0)) :: _ = _
      rw [sm_ad_s ho.1]
    rw [e1] at k1
    exact k1
  · cases ho
set_option maxHeartbeats 8000000 in
theorem sm_one_ok (cf : sm_CF) (hX : sm_X base ct tt D S M d p R s m args meth c) {i : Instr} (hd : decode M.2.1 pc = .ok (i, sm_ln i)) (ho : sm_ok1 M i ops = true) (h : sm_one S M.2.2.1 i ops lv st lay me = some (lv', st', me')) (k : sm_TW base ct tt D M p l e R s m args below meth c Q (pc + sm_ln i) lv' st' (lay, me') cs) : sm_TW base ct tt D M p l e R s m args below meth c Q pc lv st (lay, me) cs := by
  cases i with
  | iconst n => cases h; exact fun H locs ls hl hP hS hz hn hcs => lv_iconst hX.1 hX.2.1 hd rfl (k H locs ls hl hP hS hz hn hcs)
  | bipush n => cases h; exact fun H locs ls hl hP hS hz hn hcs => lv_bipush hX.1 hX.2.1 hd rfl (k H locs ls hl hP hS hz hn hcs)
  | sipush n => cases h; exact fun H locs ls hl hP hS hz hn hcs => lv_sipush hX.1 hX.2.1 hd rfl (k H locs ls hl hP hS hz hn hcs)
  | lconst n => cases h; exact fun H locs ls hl hP hS hz hn hcs => lv_lconst hX.1 hX.2.1 hd rfl (k H locs ls hl hP hS hz hn hcs)
  | aconst_null => cases h; exact fun H locs ls hl hP hS hz hn hcs => lv_null hX.1 hX.2.1 hd (k H locs ls hl hP hS hz hn hcs)
  | ldc x => cases h; exact fun H locs ls hl hP hS hz hn hcs => lv_ldc hX.1 hX.2.1 hX.2.2.2.1 (hX.2.2.2.2.1 _ (sm_has_in ho)) hd (k H locs ls hl hP hS hz hn hcs)
  | ldc_w x => cases h; exact fun H locs ls hl hP hS hz hn hcs => lv_ldcw hX.1 hX.2.1 hX.2.2.2.1 (hX.2.2.2.2.1 _ (sm_has_in ho)) hd (k H locs ls hl hP hS hz hn hcs)
  | ldc2_w x => cases h; exact fun H locs ls hl hP hS hz hn hcs => lv_ldc2 hX.1 hX.2.1 hX.2.2.2.1 (hX.2.2.2.2.1 _ (sm_has_in ho)) hd (k H locs ls hl hP hS hz hn hcs)
  | iload x => obtain ⟨h2, rfl, rfl⟩ := sm_p_of h; obtain ⟨v, hv, rfl⟩ := sm_ldi_of h2; exact fun H locs ls hl hP hS hz hn hcs => lv_iload hX.1 hX.2.1 hd (sm_lk_ls hl hv) (k H locs ls hl hP hS hz hn hcs)
  | iload_n x => obtain ⟨h2, rfl, rfl⟩ := sm_p_of h; obtain ⟨v, hv, rfl⟩ := sm_ldi_of h2; exact fun H locs ls hl hP hS hz hn hcs => lv_iload_n hX.1 hX.2.1 hd rfl (sm_lk_ls hl hv) (k H locs ls hl hP hS hz hn hcs)
  | lload x => obtain ⟨h2, rfl, rfl⟩ := sm_p_of h; obtain ⟨v, hv, rfl⟩ := sm_ldl_of h2; exact fun H locs ls hl hP hS hz hn hcs => lv_lload hX.1 hX.2.1 hd (sm_lk_ls hl hv) (k H locs ls hl hP hS hz hn hcs)
  | lload_n x => obtain ⟨h2, rfl, rfl⟩ := sm_p_of h; obtain ⟨v, hv, rfl⟩ := sm_ldl_of h2; exact fun H locs ls hl hP hS hz hn hcs => lv_lload_n hX.1 hX.2.1 hd rfl (sm_lk_ls hl hv) (k H locs ls hl hP hS hz hn hcs)
  | aload x => obtain ⟨h2, rfl, rfl⟩ := sm_p_of h; (rcases sm_lda_of h2 with ⟨v, hv, rfl⟩ | ⟨hv, rfl⟩; exact fun H locs ls hl hP hS hz hn hcs => lv_aload hX.1 hX.2.1 hd (sm_lk_ls hl hv) (k H locs ls hl hP hS hz hn hcs); exact fun H locs ls hl hP hS hz hn hcs => lv_aloadN hX.1 hX.2.1 hd (sm_lk_ls hl hv) (k H locs ls hl hP hS hz hn hcs))
  | aload_n x => obtain ⟨h2, rfl, rfl⟩ := sm_p_of h; (rcases sm_lda_of h2 with ⟨v, hv, rfl⟩ | ⟨hv, rfl⟩; exact fun H locs ls hl hP hS hz hn hcs => lv_aload_n hX.1 hX.2.1 hd rfl (sm_lk_ls hl hv) (k H locs ls hl hP hS hz hn hcs); exact fun H locs ls hl hP hS hz hn hcs => lv_aload_nN hX.1 hX.2.1 hd rfl (sm_lk_ls hl hv) (k H locs ls hl hP hS hz hn hcs))
  | istore x => obtain ⟨v, rfl, hi, rfl, rfl⟩ := sm_sti_of h; exact fun H locs ls hl hP hS hz hn hcs => lv_istore hX.1 hX.2.1 hd hl hi (sm_s1_map (v := .int v)) (fun ls hl => k H locs ls hl hP hS hz hn hcs)
  | istore_n x => obtain ⟨v, rfl, hi, rfl, rfl⟩ := sm_sti_of h; exact fun H locs ls hl hP hS hz hn hcs => lv_istore_n hX.1 hX.2.1 hd rfl hl hi (sm_s1_map (v := .int v)) (fun ls hl => k H locs ls hl hP hS hz hn hcs)
  | lstore x => obtain ⟨v, rfl, hi, rfl, rfl⟩ := sm_stl_of h; exact fun H locs ls hl hP hS hz hn hcs => lv_lstore hX.1 hX.2.1 hd hl hi (sm_s2_map (v := .long v)) (fun ls hl => k H locs ls hl hP hS hz hn hcs)
  | lstore_n x => obtain ⟨v, rfl, hi, rfl, rfl⟩ := sm_stl_of h; exact fun H locs ls hl hP hS hz hn hcs => lv_lstore_n hX.1 hX.2.1 hd rfl hl hi (sm_s2_map (v := .long v)) (fun ls hl => k H locs ls hl hP hS hz hn hcs)
  | astore x => obtain ⟨hi, rfl, hv⟩ := sm_sta_of h; (rcases hv with ⟨v, rfl, rfl⟩ | ⟨rfl, rfl⟩; exact fun H locs ls hl hP hS hz hn hcs => lv_astore hX.1 hX.2.1 hd hl hi (sm_s1_map (v := .ref v)) (fun ls hl => k H locs ls hl hP hS hz hn hcs); exact fun H locs ls hl hP hS hz hn hcs => lv_astoreN hX.1 hX.2.1 hd hl hi (sm_s1_map (v := .null)) (fun ls hl => k H locs ls hl hP hS hz hn hcs))
  | astore_n x => obtain ⟨hi, rfl, hv⟩ := sm_sta_of h; (rcases hv with ⟨v, rfl, rfl⟩ | ⟨rfl, rfl⟩; exact fun H locs ls hl hP hS hz hn hcs => lv_astore_n hX.1 hX.2.1 hd rfl hl hi (sm_s1_map (v := .ref v)) (fun ls hl => k H locs ls hl hP hS hz hn hcs); exact fun H locs ls hl hP hS hz hn hcs => lv_astore_nN hX.1 hX.2.1 hd rfl hl hi (sm_s1_map (v := .null)) (fun ls hl => k H locs ls hl hP hS hz hn hcs))
  | iinc x n => obtain ⟨v, hv, hi, rfl, rfl, rfl⟩ := sm_inc_of h; exact fun H locs ls hl hP hS hz hn hcs => (by obtain ⟨j, hj⟩ := List.getElem?_of_mem (List.mem_map.mpr ⟨(x, Value.int v), sm_lk_in hv, rfl⟩ : (x, Value.int v) ∈ lv.map (sm_cq base tt)); exact lv_iinc hX.1 hX.2.1 hd hl hj rfl hi (sm_s1_map (v := .int _)) (fun ls hl => k H locs ls hl hP hS hz hn hcs))
  | iadd => obtain ⟨h2, rfl, rfl⟩ := sm_p_of h; obtain ⟨x, y, r, rfl, rfl⟩ := sm_ii_of h2; exact fun H locs ls hl hP hS hz hn hcs => lv_iadd hX.1 hX.2.1 hd (k H locs ls hl hP hS hz hn hcs)
  | isub => obtain ⟨h2, rfl, rfl⟩ := sm_p_of h; obtain ⟨x, y, r, rfl, rfl⟩ := sm_ii_of h2; exact fun H locs ls hl hP hS hz hn hcs => lv_isub hX.1 hX.2.1 hd (k H locs ls hl hP hS hz hn hcs)
  | imul => obtain ⟨h2, rfl, rfl⟩ := sm_p_of h; obtain ⟨x, y, r, rfl, rfl⟩ := sm_ii_of h2; exact fun H locs ls hl hP hS hz hn hcs => lv_imul hX.1 hX.2.1 hd (k H locs ls hl hP hS hz hn hcs)
  | iand => obtain ⟨h2, rfl, rfl⟩ := sm_p_of h; obtain ⟨x, y, r, rfl, rfl⟩ := sm_ii_of h2; exact fun H locs ls hl hP hS hz hn hcs => lv_iand hX.1 hX.2.1 hd (k H locs ls hl hP hS hz hn hcs)
  | ior => obtain ⟨h2, rfl, rfl⟩ := sm_p_of h; obtain ⟨x, y, r, rfl, rfl⟩ := sm_ii_of h2; exact fun H locs ls hl hP hS hz hn hcs => lv_ior hX.1 hX.2.1 hd (k H locs ls hl hP hS hz hn hcs)
  | ixor => obtain ⟨h2, rfl, rfl⟩ := sm_p_of h; obtain ⟨x, y, r, rfl, rfl⟩ := sm_ii_of h2; exact fun H locs ls hl hP hS hz hn hcs => lv_ixor hX.1 hX.2.1 hd (k H locs ls hl hP hS hz hn hcs)
  | ishl => obtain ⟨h2, rfl, rfl⟩ := sm_p_of h; obtain ⟨x, y, r, rfl, rfl⟩ := sm_ii_of h2; exact fun H locs ls hl hP hS hz hn hcs => lv_ishl hX.1 hX.2.1 hd (k H locs ls hl hP hS hz hn hcs)
  | ishr => obtain ⟨h2, rfl, rfl⟩ := sm_p_of h; obtain ⟨x, y, r, rfl, rfl⟩ := sm_ii_of h2; exact fun H locs ls hl hP hS hz hn hcs => lv_ishr hX.1 hX.2.1 hd (k H locs ls hl hP hS hz hn hcs)
  | iushr => obtain ⟨h2, rfl, rfl⟩ := sm_p_of h; obtain ⟨x, y, r, rfl, rfl⟩ := sm_ii_of h2; exact fun H locs ls hl hP hS hz hn hcs => lv_iushr hX.1 hX.2.1 hd rfl (k H locs ls hl hP hS hz hn hcs)
  | idiv => obtain ⟨h2, rfl, rfl⟩ := sm_p_of h; obtain ⟨x, y, r, rfl, hy, rfl⟩ := sm_iq_of h2; exact fun H locs ls hl hP hS hz hn hcs => lv_idiv hX.1 hX.2.1 hd hy (k H locs ls hl hP hS hz hn hcs)
  | irem => obtain ⟨h2, rfl, rfl⟩ := sm_p_of h; obtain ⟨x, y, r, rfl, hy, rfl⟩ := sm_iq_of h2; exact fun H locs ls hl hP hS hz hn hcs => lv_irem hX.1 hX.2.1 hd hy (k H locs ls hl hP hS hz hn hcs)
  | ineg => obtain ⟨h2, rfl, rfl⟩ := sm_p_of h; obtain ⟨x, r, rfl, rfl⟩ := sm_i1_of h2; exact fun H locs ls hl hP hS hz hn hcs => lv_ineg hX.1 hX.2.1 hd (k H locs ls hl hP hS hz hn hcs)
  | i2b => obtain ⟨h2, rfl, rfl⟩ := sm_p_of h; obtain ⟨x, r, rfl, rfl⟩ := sm_i1_of h2; exact fun H locs ls hl hP hS hz hn hcs => lv_i2b hX.1 hX.2.1 hd rfl (k H locs ls hl hP hS hz hn hcs)
  | i2l => obtain ⟨h2, rfl, rfl⟩ := sm_p_of h; obtain ⟨x, r, rfl, rfl⟩ := sm_i1_of h2; exact fun H locs ls hl hP hS hz hn hcs => lv_i2l hX.1 hX.2.1 hd rfl (k H locs ls hl hP hS hz hn hcs)
  | l2i => obtain ⟨h2, rfl, rfl⟩ := sm_p_of h; obtain ⟨x, r, rfl, rfl⟩ := sm_l1_of h2; exact fun H locs ls hl hP hS hz hn hcs => lv_l2i hX.1 hX.2.1 hd rfl (k H locs ls hl hP hS hz hn hcs)
  | ladd => obtain ⟨h2, rfl, rfl⟩ := sm_p_of h; obtain ⟨x, y, r, rfl, rfl⟩ := sm_ll_of h2; exact fun H locs ls hl hP hS hz hn hcs => lv_ladd hX.1 hX.2.1 hd (k H locs ls hl hP hS hz hn hcs)
  | lsub => obtain ⟨h2, rfl, rfl⟩ := sm_p_of h; obtain ⟨x, y, r, rfl, rfl⟩ := sm_ll_of h2; exact fun H locs ls hl hP hS hz hn hcs => lv_lsub hX.1 hX.2.1 hd (k H locs ls hl hP hS hz hn hcs)
  | lmul => obtain ⟨h2, rfl, rfl⟩ := sm_p_of h; obtain ⟨x, y, r, rfl, rfl⟩ := sm_ll_of h2; exact fun H locs ls hl hP hS hz hn hcs => lv_lmul hX.1 hX.2.1 hd (k H locs ls hl hP hS hz hn hcs)
  | land => obtain ⟨h2, rfl, rfl⟩ := sm_p_of h; obtain ⟨x, y, r, rfl, rfl⟩ := sm_ll_of h2; exact fun H locs ls hl hP hS hz hn hcs => lv_land hX.1 hX.2.1 hd (k H locs ls hl hP hS hz hn hcs)
  | lor => obtain ⟨h2, rfl, rfl⟩ := sm_p_of h; obtain ⟨x, y, r, rfl, rfl⟩ := sm_ll_of h2; exact fun H locs ls hl hP hS hz hn hcs => lv_lor hX.1 hX.2.1 hd (k H locs ls hl hP hS hz hn hcs)
  | lshl => obtain ⟨h2, rfl, rfl⟩ := sm_p_of h; obtain ⟨x, y, r, rfl, rfl⟩ := sm_li_of h2; exact fun H locs ls hl hP hS hz hn hcs => lv_lshl hX.1 hX.2.1 hd rfl (k H locs ls hl hP hS hz hn hcs)
  | lshr => obtain ⟨h2, rfl, rfl⟩ := sm_p_of h; obtain ⟨x, y, r, rfl, rfl⟩ := sm_li_of h2; exact fun H locs ls hl hP hS hz hn hcs => lv_lshr hX.1 hX.2.1 hd rfl (k H locs ls hl hP hS hz hn hcs)
  | lcmp => obtain ⟨h2, rfl, rfl⟩ := sm_p_of h; obtain ⟨x, y, r, rfl, rfl⟩ := sm_lc_of h2; exact fun H locs ls hl hP hS hz hn hcs => W.lcmp hX.1 hX.2.1 hd (k H locs ls hl hP hS hz hn hcs)
  | dup => obtain ⟨h2, rfl, rfl⟩ := sm_p_of h; obtain ⟨v, r, rfl, hv, rfl⟩ := sm_dup_of h2; exact fun H locs ls hl hP hS hz hn hcs => lv_dup hX.1 hX.2.1 hd ((sm_cv_cat v).trans hv) (k H locs ls hl hP hS hz hn hcs)
  | dup_x1 => obtain ⟨h2, rfl, rfl⟩ := sm_p_of h; obtain ⟨v, u, r, rfl, hv, hu, rfl⟩ := sm_dupx1_of h2; exact fun H locs ls hl hP hS hz hn hcs => lv_dup_x1 hX.1 hX.2.1 hd ((sm_cv_cat v).trans hv) ((sm_cv_cat u).trans hu) (k H locs ls hl hP hS hz hn hcs)
  | dup2 => obtain ⟨h2, rfl, rfl⟩ := sm_p_of h; obtain ⟨v, u, r, rfl, hv, hu, rfl⟩ := sm_dup2_of h2; exact fun H locs ls hl hP hS hz hn hcs => lv_dup2_11 hX.1 hX.2.1 hd ((sm_cv_cat v).trans hv) ((sm_cv_cat u).trans hu) (k H locs ls hl hP hS hz hn hcs)
  | pop => obtain ⟨h2, rfl, rfl⟩ := sm_p_of h; obtain ⟨v, rfl, hv⟩ := sm_pop_of h2; exact fun H locs ls hl hP hS hz hn hcs => lv_pop hX.1 hX.2.1 hd ((sm_cv_cat v).trans hv) (k H locs ls hl hP hS hz hn hcs)
  | iaload => obtain ⟨h2, rfl, rfl⟩ := sm_p_of h; exact sm_k_iald hX hd h2 k
  | baload => obtain ⟨h2, rfl, rfl⟩ := sm_p_of h; exact sm_k_bald hX hd h2 k
  | laload => obtain ⟨h2, rfl, rfl⟩ := sm_p_of h; exact sm_k_lald hX hd h2 k
  | arraylength => obtain ⟨h2, rfl, rfl⟩ := sm_p_of h; exact sm_k_alen hX hd h2 k
  | iastore => exact sm_k_iast hX hd h k
  | bastore => exact sm_k_bast hX hd h k
  | lastore => exact sm_k_last hX hd h k
  | getfield x => obtain ⟨h2, rfl, rfl⟩ := sm_p_of h; exact sm_k_get cf hX hd ho h2 k
  | putfield x => exact sm_k_put cf hX hd (Bool.and_eq_true_iff.mp ho).1 (Bool.and_eq_true_iff.mp ho).2 h k
  | getstatic x => cases h; exact sm_k_gets hX hd ho k
  | invokestatic x => exact sm_k_st4 hX hd ho h k
  | invokespecial x => obtain ⟨h2, rfl, rfl⟩ := sm_p_of h; exact sm_k_oin hX hd ho h2 k
  | _ => cases h
end SmOne
end
section
/-! blocks, calls, methods -/
def sm_blks (M : sm_M) : List sm_B := M.2.2.2.2.2.2.2.2
def sm_tg (M : sm_M) (pc : Nat) (off : Int) (b : Nat) : Bool := match (sm_blks M)[b]? with
  | some B => decide ((pc : Int) + off = (B.1 : Int))
  | none => false
def sm_tgs (M : sm_M) (pc : Nat) : List Int → List Nat → Bool
  | [], [] => true
  | o :: os, b :: bs => sm_tg M pc o b && sm_tgs M pc os bs
  | _, _ => false
def sm_okN (M : sm_M) (x ci p1 p2 p3 : Nat) : Bool := match vwCl[ci]? with
  | some (C, _, N) => sm_has p1 (.classLink M.1.cls x C) && sm_has p2 (.instantiable C N) && sm_has p3 (.initialized C)
  | none => false
def sm_okV (P : Nat → sm_M) (M : sm_M) (x g inst ci p1 p2 p3 : Nat) : Bool := match vwCl[ci]? with
  | some (C, _, _) => decide (inst = 1) && decide ((P g).1.cls = C) && sm_has p1 (.methodLink M.1.cls x (P g).1) && sm_has p2 (.instanceMethod (P g).1) && sm_has p3 (.selects C (P g).1 (P g).1)
  | none => false
def sm_okS (P : Nat → sm_M) (M : sm_M) (x g inst p1 p2 : Nat) : Bool := decide (inst = 0) && sm_has p1 (.methodLink M.1.cls x (P g).1) && sm_has p2 (.static (P g).1)
def sm_okP (P : Nat → sm_M) (M : sm_M) (x g inst nst p1 p2 : Nat) : Bool := decide (inst = 1) && decide ((P g).1.name = "<init>") && decide ((P g).2.2.2.1 = none) && (if nst = 1 then decide (sm_nest[p1]? = some (M.1.cls, x, (P g).1)) else sm_has p1 (.methodLink M.1.cls x (P g).1)) && sm_has p2 (.instanceMethod (P g).1)
def sm_okD (P : Nat → sm_M) (M : sm_M) (i : Instr) (g inst ci : Nat) (r : List Nat) : Bool := match i with
  | .invokevirtual x => sm_okV P M x g inst ci (r.getD 0 0) (r.getD 1 0) (r.getD 2 0)
  | .invokestatic x => sm_okS P M x g inst (r.getD 0 0) (r.getD 1 0)
  | .invokespecial x => sm_okP P M x g inst (r.getD 3 0) (r.getD 0 0) (r.getD 1 0)
  | _ => false
def sm_okC (P : Nat → sm_M) (M : sm_M) (i : Instr) (g inst ci : Nat) (r : List Nat) : Bool := decide ((P g).2.2.2.2.2.2.2.1.getD 2 0 = 1) && sm_okD P M i g inst ci r
def sm_okE (P : Nat → sm_M) (M : sm_M) (i : Instr) (ops : List Nat) : Bool := match ops with
  | g :: inst :: ci :: a1 :: a2 :: a3 :: a4 :: r => sm_okC P M i g inst ci (a1 :: a2 :: a3 :: a4 :: r)
  | _ => sm_ok1 M i ops
def sm_dec (M : sm_M) (pc : Nat) (i : Instr) : Bool := decide (decode M.2.1 pc = .ok (i, sm_ln i))
def sm_decS (M : sm_M) (pc : Nat) (i : Instr) (len : Nat) : Bool := decide (decode M.2.1 pc = .ok (i, len))
def sm_isI (r : Option FieldType) : Bool := match r with
  | some .int => true
  | some .boolean => true
  | _ => false
def sm_isO (r : Option FieldType) : Bool := match r with
  | some (.object _) => true
  | _ => false
def sm_okA (M : sm_M) (at' : ArrayType) (t pos : Nat) : Bool := decide (t < 4) && decide (newarray.typeOf at' = sm_ty t) && sm_has pos (.arrayClass (newarray.typeOf at'))
def sm_okI (P : Nat → sm_M) (M : sm_M) (pc : Nat) (i : Instr) (ops : List Nat) (k : Nat → Bool) : Bool := match i with
  | .goto off => sm_dec M pc (.goto off) && sm_tg M pc off (ops.getD 0 0)
  | .ifCond c off => sm_dec M pc (.ifCond c off) && sm_tg M pc off (ops.getD 0 0) && sm_tg M pc 3 (ops.getD 1 0)
  | .if_icmp c off => sm_dec M pc (.if_icmp c off) && sm_tg M pc off (ops.getD 0 0) && sm_tg M pc 3 (ops.getD 1 0)
  | .ifnull off => sm_dec M pc (.ifnull off) && sm_tg M pc off (ops.getD 0 0) && sm_tg M pc 3 (ops.getD 1 0)
  | .ifnonnull off => sm_dec M pc (.ifnonnull off) && sm_tg M pc off (ops.getD 0 0) && sm_tg M pc 3 (ops.getD 1 0)
  | .tableswitch df lo hi offs => (match decode M.2.1 pc with
    | .ok (j, _) => decide (j = .tableswitch df lo hi offs)
    | _ => false) && sm_tg M pc df (ops.getD 0 0) && sm_tgs M pc offs.toList (ops.drop 1) && decide (lo + offs.toList.length = hi + 1)
  | .lookupswitch df ps => (match decode M.2.1 pc with
    | .ok (j, _) => decide (j = .lookupswitch df ps)
    | _ => false) && sm_tg M pc df (ops.getD 0 0) && sm_tgs M pc (ps.toList.map (fun q => q.2)) (ops.drop 1) && (ps.toList.zip (ps.toList.drop 1)).all (fun (a, next) => a.1 < next.1)
  | .ireturn => sm_dec M pc .ireturn && sm_isI M.2.2.2.1
  | .lreturn => sm_dec M pc .lreturn && decide (M.2.2.2.1 = some .long)
  | .areturn => sm_dec M pc .areturn && sm_isO M.2.2.2.1
  | .return_ => sm_dec M pc .return_ && decide (M.2.2.2.1 = none)
  | .new x => sm_dec M pc (.new x) && sm_okN M x (ops.getD 0 0) (ops.getD 1 0) (ops.getD 2 0) (ops.getD 3 0) && k (pc + 3)
  | .newarray at' => sm_dec M pc (.newarray at') && sm_okA M at' (ops.getD 0 0) (ops.getD 1 0) && k (pc + 2)
  | i => sm_dec M pc i && sm_okE P M i ops && k (pc + sm_ln i)
def sm_okL (P : Nat → sm_M) (M : sm_M) (fall : Nat) : List (Instr × List Nat) → Nat → Bool
  | [], pc => sm_tg M pc 0 fall
  | (i, ops) :: is, pc => sm_okI P M pc i ops (sm_okL P M fall is)
/-- a method's table is in order -/
def sm_okM (P : Nat → sm_M) (M : sm_M) : Bool := plainName M.1.cls && decide (M.1.cls ≠ "java/lang/invoke/MethodHandle") && decide (M.1.cls ≠ "java/lang/invoke/VarHandle") &&
  decide ((parseMethodDescriptor M.1.desc).map (fun d => d.parameters.length) = some M.2.2.2.2.1) && decide (M.2.2.1 ≤ 60) && (match (sm_blks M)[0]? with
    | some B => decide (B.1 = 0)
    | none => false) && (sm_blks M).all (fun B => sm_okL P M B.2.2.1 B.2.2.2 B.1)
def sm_Cal (M : sm_M) : Prop := Cond.code M.1 M.2.1 M.2.2.1 M.2.2.2.1 ∈ sm_wl ∧ Cond.initialized M.1.cls ∈ sm_wl
/-- its table is in order, and if it is called its words are among the tables' -/
def sm_OK (P : Nat → sm_M) (M : sm_M) : Prop := sm_okM P M = true ∧ (M.2.2.2.2.2.2.2.1.getD 2 0 = 1 → sm_Cal M)
theorem sm_dec_of {M : sm_M} {pc : Nat} {i : Instr} (h : sm_dec M pc i = true) : decode M.2.1 pc = .ok (i, sm_ln i) := of_decide_eq_true h
theorem sm_tg_of {M : sm_M} {pc b : Nat} {off : Int} (h : sm_tg M pc off b = true) : ∃ B, (sm_blks M)[b]? = some B ∧ (pc : Int) + off = (B.1 : Int) := by
  unfold sm_tg at h; split at h
  · next B e => exact ⟨B, e, of_decide_eq_true h⟩
  · cases h
def sm_mw (M : sm_M) : List Cond := .code M.1 M.2.1 M.2.2.1 M.2.2.2.1 :: sm_wl
def sm_rm (d : Nat) (M : sm_M) : Room := { frames := d + 1, cells := M.2.2.2.2.2.1, slots := M.2.2.2.2.2.2.1, locals := 80 * d + 100 }
def sm_Pre (base : Nat) (ct : Nat → ClassId) (tt : Nat → Nat) (D : va_G) (S : sm_C) (w : sm_W) (U : State) : Prop := U.heap.size = base + w.1.length ∧ w.1.length ≤ 1000 ∧ va_P D vwCl (sm_ws base ct tt w) U.heap ∧ sm_G base ct tt D S U
def sm_Q (base : Nat) (ct : Nat → ClassId) (tt : Nat → Nat) (D : va_G) (z : sm_Z) : Array Value → State → Outcome → State → Prop := fun _ st oc t => oc = .returned (z.1.map (sm_cv base tt)) ∧ va_P D vwCl (sm_ws base ct tt z.2) t.heap ∧ va_F (sm_A base) st t
def sm_ret (i : Instr) (v : Option Value) (ret : Option FieldType) : Prop := (i = .ireturn ∧ ∃ x, v = some (.int x) ∧ (ret = some .int ∨ (ret = some .boolean ∧ (x = 0 ∨ x = 1)))) ∨ (i = .lreturn ∧ ∃ x, v = some (.long x) ∧ ret = some .long) ∨ (i = .areturn ∧ ∃ x, v = some (.ref x) ∧ ∃ n, ret = some (.object n)) ∨ (i = .return_ ∧ v = none ∧ ret = none)
def sm_end (base : Nat) (ct : Nat → ClassId) (tt : Nat → Nat) (D : va_G) (M : sm_M) (p : Program) (l : Launch) (e : Env) (R : Room) (s : State) (m : MethodId) (args : Array Value) (below : List Frame) (meth : Method) (c : Code) (Q : State → Prop) (z : sm_Z) : Prop :=
  ∀ (H : Heap) (locs : List Loc) (pc : Nat) (ls : Array Slot) (i : Instr), decode M.2.1 pc = .ok (i, 1) → sm_ret i z.1 M.2.2.2.1 → va_P D vwCl (sm_ws base ct tt z.2) H → va_S (sm_A base) s.heap H locs →
    W p l e R s m args below meth c H locs M.2.2.2.2.2.1 M.2.2.2.2.2.2.1 Q (F0 m pc ls ((z.1.map (sm_cv base tt)).toList))
theorem sm_G.moved {base : Nat} {ct : Nat → ClassId} {tt : Nat → Nat} {D : va_G} {S : sm_C} {s U : State} {H : Heap} {locs : List Loc} (h : sm_G base ct tt D S s) (hW : s.WarmedH U.vm) (hU : U.heap = H) (hS : va_S (sm_A base) s.heap H locs) : sm_G base ct tt D S U := by
  obtain ⟨h1, h2, h3, h4, h5, h6⟩ := h
  have hk : ∀ a : Nat, a < s.heap.size → ¬ sm_A base a → U.heap[a]? = s.heap[a]? := fun a ha hn => by rw [hU]; exact hS.2.1 a ha hn
  refine ⟨va_K.moved hW.alike h1, by rw [hU]; exact Nat.le_trans h2 hS.1, fun k q hq => (va_Z.moved hW.alike (h3 k q hq)).kept hk, fun p q hq => ?_, fun p q hq => ?_, fun q hq => va_Nw.warmM hW (h6 q hq)⟩
  · exact ⟨(h4 p q hq).1, (va_T.moved hW.alike (h4 p q hq).2).kept hk⟩
  · exact ⟨(h5 p q hq).1, (va_T.moved hW.alike (h5 p q hq).2).kept hk⟩
theorem sm_blind {base : Nat} {ct : Nat → ClassId} {tt : Nat → Nat} {D : va_G} {S : sm_C} {w : sm_W} {as : List Value} : FrameBlind (va_Pc as (sm_Pre base ct tt D S w)) := by
  intro a U g mk h
  obtain ⟨h0, h1, h2, h3, h4, h5, h6, h7, h8, h9⟩ := h
  refine ⟨h0, h1, h2, h3, va_K.moved (u := U) (U := U.calling g mk a) (Vm.Alike.refl U.vm) h4, h5, fun k q hq => va_Z.moved (u := U) (U := U.calling g mk a) (Vm.Alike.refl U.vm) (h6 k q hq), fun p q hq => ⟨(h7 p q hq).1, va_T.moved (u := U) (U := U.calling g mk a) (Vm.Alike.refl U.vm) (h7 p q hq).2⟩, fun p q hq => ⟨(h8 p q hq).1, va_T.moved (u := U) (U := U.calling g mk a) (Vm.Alike.refl U.vm) (h8 p q hq).2⟩, fun q hq => va_Nw.same rfl (u := U) (U := U.calling g mk a) rfl (h9 q hq)⟩
theorem sm_args_map {base : Nat} {tt : Nat → Nat} : ∀ (vs : List Value) (i : Nat), lv_args i (vs.map (sm_cv base tt)) = (lv_args i vs).map (sm_cq base tt)
  | [], _ => rfl
  | v :: vs, i => by
    show (i, sm_cv base tt v) :: lv_args _ _ = (i, sm_cv base tt v) :: (lv_args _ vs).map _
    rw [sm_cv_cat, sm_args_map vs]
theorem sm_sl_len {base : Nat} {tt : Nat → Nat} (vs : List Value) : (lg_sl (vs.map (sm_cv base tt))).length = (lg_sl vs).length := by
  induction vs with
  | nil => rfl
  | cons v r ih =>
    simp only [lg_sl, List.map_cons, List.flatMap_cons, List.length_append, sm_cv_cat] at ih ⊢
    rw [ih]
    split <;> rfl
theorem sm_pick_of : ∀ {live : List Nat} {lv : sm_V} {vs : List Value}, sm_pick live lv = some vs → ∀ q ∈ live.zip vs, q ∈ lv
  | [], lv, vs, h, q, hq => by simp at hq
  | i :: r, lv, vs, h, q, hq => by
    unfold sm_pick at h
    split at h
    · cases h
    · next v hv =>
      split at h
      · cases h
      · next vs' hvs =>
        cases h
        rcases List.mem_cons.mp hq with rfl | hq
        · exact sm_lk_in hv
        · exact sm_pick_of hvs q hq
section SmMain
variable {base : Nat} {ct : Nat → ClassId} {tt : Nat → Nat} {D : va_G} {S : sm_C} {M : sm_M} {d : Nat} {p : Program} {l : Launch} {e : Env} {R : Room} {s : State} {m : MethodId} {args : Array Value} {below : List Frame} {meth : Method} {c : Code} {Q : State → Prop}
variable {pc : Nat} {lv lv' : sm_V} {st st' r : List Value} {w : sm_W} {cs : Nat × Nat} {ops : List Nat} {z : sm_Z}
theorem sm_sub (h : ∀ q ∈ lv', q ∈ lv) (k : sm_TW base ct tt D M p l e R s m args below meth c Q pc lv' st w cs) : sm_TW base ct tt D M p l e R s m args below meth c Q pc lv st w cs := by
  intro H locs ls hl hP hS hz hn hcs
  refine k H locs ls ⟨hl.1, hl.2.1, fun q hq => ?_⟩ hP hS hz hn hcs
  obtain ⟨u, hu, rfl⟩ := List.mem_map.mp hq
  exact hl.2.2 _ (List.mem_map.mpr ⟨u, h u hu, rfl⟩)
theorem sm_after {mc ms cells slots : Nat} {H : Heap} {locs : List Loc} {ls : Array Slot} {st0 rest : List Value} {a : Array Value} (hr : va_Run p l e R s m args below meth c H locs cells slots mc ms (F0 m pc ls st0) rest (sm_Q base ct tt D z a) (sm_A base)) (hS : va_S (sm_A base) s.heap H locs)
    (kk : ∀ (H1 : Heap) (locs1 : List Loc), va_P D vwCl (sm_ws base ct tt z.2) H1 → va_S (sm_A base) s.heap H1 locs1 → W p l e R s m args below meth c H1 locs1 (cells + mc) (slots + ms) Q (F0 m (pc + 3) ls ((z.1.map (sm_cv base tt)).toList ++ rest))) : W p l e R s m args below meth c H locs cells slots Q (F0 m pc ls st0) := by
  intro T hT X
  obtain ⟨v, st₀, t, T', L, h0, X', hL, e1, e2, ⟨hv, hP1, hz, hk⟩, st⟩ := hr T hT X
  have hv := Outcome.returned.inj hv
  subst hv
  rw [h0] at hz hk
  obtain ⟨t2, a1, b1⟩ := kk T'.heap (locs ++ L) (by rw [e1]; exact hP1) ⟨Nat.le_trans hS.1 (by rw [e1]; exact hz), fun q h1 h2 => by rw [e1, hk q (Nat.lt_of_lt_of_le h1 hS.1) h2]; exact hS.2.1 q h1 h2, fun q hq => by
      rcases List.mem_append.mp hq with h | h
      · exact hS.2.2 q h
      · exact hL q h⟩ T' rfl X'
  exact ⟨t2, st t2 a1, b1⟩
theorem sm_size_le {H : Heap} {locs : List Loc} (hb : base ≤ s.heap.size) (hP : va_P D vwCl (sm_ws base ct tt w) H) (hS : va_S (sm_A base) s.heap H locs) (hz : s.heap.size + cs.1 = base + w.1.length) : base + w.1.length ≤ H.size := by
  cases hw : w.1.length with
  | zero =>
    have := hS.1
    rw [hw] at hz
    omega
  | succ n =>
    have hn : n < w.1.length := by omega
    have h1 : (sm_ws base ct tt w)[n]? = some (sm_E base ct tt w n w.1[n]) := by rw [sm_ws_get, List.getElem?_eq_getElem hn]; rfl
    have h2 : base + n < H.size := (hP n _ h1).lt
    omega
theorem sm_sized {H : Heap} {locs : List Loc} {g : JFrame} (hb : base ≤ s.heap.size) (hP : va_P D vwCl (sm_ws base ct tt w) H) (hS : va_S (sm_A base) s.heap H locs) (hz : s.heap.size + cs.1 = base + w.1.length) (k : H.size = base + w.1.length → W p l e R s m args below meth c H locs cs.1 cs.2 Q g) : W p l e R s m args below meth c H locs cs.1 cs.2 Q g := by
  intro T hT X
  have h1 := X.heapSize
  have h2 := sm_size_le hb hP hS hz
  rw [hT] at h1
  exact k (by omega) T hT X
end SmMain
end
section
section SmCalls
variable {base : Nat} {ct : Nat → ClassId} {tt : Nat → Nat} {D : va_G} {S : sm_C} {M : sm_M} {d : Nat} {p : Program} {l : Launch} {e : Env} {R : Room} {s : State} {m : MethodId} {args : Array Value} {below : List Frame} {meth : Method} {c : Code} {Q : State → Prop}
variable {pc : Nat} {lv lv' : sm_V} {st st' r : List Value} {lay : List (Nat × Nat)} {me : sm_Y} {w : sm_W} {cs : Nat × Nat} {ops : List Nat} {z : sm_Z} {P : Nat → sm_M}
theorem sm_Aq {q : Nat} (hb : base ≤ s.heap.size) (h : s.heap.size ≤ q) : sm_A base q := Nat.le_trans hb h
/-- the address of a new cell -/
theorem sm_newq {H1 : Heap} {q n : Nat} {x : va_E} (hD : va_D (sm_A base) (sm_ws base ct tt w ++ [(q, x)])) (hP : va_P D vwCl (sm_ws base ct tt w ++ [(q, x)]) H1) (hz : H1.size ≤ base + w.1.length + 1) : q = base + w.1.length := by
  have hlen : (sm_ws base ct tt w).length = w.1.length := by simp [sm_ws]
  have hq : (sm_ws base ct tt w ++ [(q, x)])[w.1.length]? = some (q, x) := by
    rw [List.getElem?_append_right (by omega), hlen, Nat.sub_self]; rfl
  have h1 : base ≤ q := hD.2 _ _ hq
  have h2 : q < H1.size := (hP _ _ hq).lt
  rcases Nat.lt_or_ge q (base + w.1.length) with h | h
  · have hk : q - base < w.1.length := by omega
    have hg : (sm_ws base ct tt w ++ [(q, x)])[q - base]? = some (sm_E base ct tt w (q - base) w.1[q - base]) := by
      rw [List.getElem?_append_left (by omega), sm_ws_get, List.getElem?_eq_getElem hk]; rfl
    have := hD.1 _ _ _ _ hq hg (by show q = base + (q - base); omega)
    omega
  · omega
theorem sm_sizedX {H1 : Heap} {locs : List Loc} {g : JFrame} {n : Nat} {cells slots : Nat} (hz : s.heap.size + cells = n) (k : H1.size ≤ n → W p l e R s m args below meth c H1 locs cells slots Q g) : W p l e R s m args below meth c H1 locs cells slots Q g := by
  intro T hT X
  have h1 := X.heapSize
  rw [hT] at h1
  exact k (by omega) T hT X
set_option maxHeartbeats 4000000 in
theorem sm_k_new (cf : sm_CF) (hX : sm_X base ct tt D S M d p R s m args meth c) {x ci p1 p2 p3 : Nat} (hd : decode M.2.1 pc = .ok (.new x, 3)) (ho : sm_okN M x ci p1 p2 p3 = true) (hg : ¬ (1000 ≤ lay.length ∨ M.2.2.2.2.2.1 < cs.1 + 1 ∨ M.2.2.2.2.2.2.1 < cs.2 + sm_N ci))
    (kk : sm_TW base ct tt D M p l e R s m args below meth c Q (pc + 3) lv (.ref lay.length :: st) (lay ++ [(0, ci)], sm_row me.1 lay.length (fun _ => 0), me.2.1, sm_row me.2.2 lay.length (fun _ => none)) (cs.1 + 1, cs.2 + sm_N ci)) : sm_TW base ct tt D M p l e R s m args below meth c Q pc lv st (lay, me) cs := by
  obtain ⟨hx, hb, hml, hown, hts, hnm, hfr, hlo, hce, hsl, hG⟩ := hX
  unfold sm_okN at ho
  split at ho
  · next C T N hc =>
    simp only [Bool.and_eq_true] at ho
    obtain ⟨c1, c2, c3, c4, c5⟩ := cf ci C T N hc
    intro H locs ls hl hP hS hz hn hcs
    have hfs : ∀ j, j < N → defaultValue (sm_fty ci j) = vp_V (sm_fs base tt (lay ++ [(0, ci)], sm_row me.1 lay.length (fun _ => 0), me.2.1, sm_row me.2.2 lay.length (fun _ => none)) ci lay.length) j := by
      intro j hj
      obtain ⟨k0, k2, k1, k3⟩ := c5 j hj
      have e1 : vp_V (sm_fs base tt (lay ++ [(0, ci)], sm_row me.1 lay.length (fun _ => 0), me.2.1, sm_row me.2.2 lay.length (fun _ => none)) ci lay.length) j = sm_fv base tt (lay ++ [(0, ci)], sm_row me.1 lay.length (fun _ => 0), me.2.1, sm_row me.2.2 lay.length (fun _ => none)) ci lay.length j := by
        simp [vp_V, List.getD, sm_fs_get (show j < sm_N ci by rw [c4]; exact hj)]
      rw [e1]
      rcases (show sm_cd ci j = 0 ∨ sm_cd ci j = 1 ∨ sm_cd ci j = 2 by omega) with h | h | h
      · rw [k0 h]; simp [sm_fv, h, sm_row]; rfl
      · rcases k1 h with ⟨n, e⟩ | ⟨n, e⟩ <;> (rw [e]; simp [sm_fv, h, sm_row, sm_rv, sm_cv]; rfl)
      · rw [k2 h]; simp [sm_fv, h, sm_row]; rfl
    rw [c4] at hg kk
    refine va_new hx hb hts c1 (sm_fty ci) c2 hown (hts _ (sm_has_in ho.1.1)) (hts _ (sm_has_in ho.1.2)) (hts _ (sm_has_in ho.2)) hG.1 hP (sm_D _) hS (fun q h => sm_Aq hG.2.1 h) hc hfs (by omega) (by omega) hd (fun q H1 hP1 hD1 hS1 => ?_)
    refine sm_sizedX (n := base + lay.length + 1) (by have : s.heap.size + cs.1 = base + lay.length := hz; omega) (fun hsz => ?_)
    have hq := sm_newq (w := (lay, me)) (n := 0) hD1 hP1 hsz
    have hq : q = base + lay.length := hq
    subst hq
    have hpush := sm_push (base := base) (ct := ct) (tt := tt) (lay := lay) (m := me) (m' := (sm_row me.1 lay.length (fun _ => 0), me.2.1, sm_row me.2.2 lay.length (fun _ => none))) (q := (0, ci)) (fun k hk u => by apply sm_E_new <;> simp [sm_row, Nat.ne_of_lt hk])
    have hP2 : va_P D vwCl (sm_ws base ct tt (lay ++ [(0, ci)], sm_row me.1 lay.length (fun _ => 0), me.2.1, sm_row me.2.2 lay.length (fun _ => none))) H1 := by
      rw [hpush]; exact hP1
    have k1 := kk H1 locs ls hl hP2 hS1 (by show s.heap.size + (cs.1 + 1) = base + (lay ++ [(0, ci)]).length; have : s.heap.size + cs.1 = base + lay.length := hz; simp; omega) (by show (lay ++ [(0, ci)]).length ≤ 1000; simp; omega) ⟨by show cs.1 + 1 ≤ _; omega, by show cs.2 + N ≤ _; omega⟩
    have e2 : (Value.ref lay.length :: st).map (sm_cv base tt) = Value.ref (base + lay.length) :: st.map (sm_cv base tt) := by
      show Value.ref (sm_ad base tt lay.length) :: _ = _
      rw [sm_ad_w (by omega)]
    rw [e2] at k1
    exact k1
  · cases ho
theorem sm_comp {t : Nat} (h : t < 4) : componentBytes (sm_ty t) ≤ 8 := by
  match t, h with
  | 0, _ => decide
  | 1, _ => decide
  | 2, _ => decide
  | 3, _ => decide
set_option maxHeartbeats 4000000 in
theorem sm_k_newa (hX : sm_X base ct tt D S M d p R s m args meth c) {at' : ArrayType} {t pos : Nat} {n : Int32} (hd : decode M.2.1 pc = .ok (.newarray at', 2)) (ho : sm_okA M at' t pos = true) (hg : ¬ (n < 0 ∨ 100000 < n.toNatClampNeg ∨ 1000 ≤ lay.length ∨ M.2.2.2.2.2.1 < cs.1 + 1 ∨ M.2.2.2.2.2.2.1 < cs.2 + n.toNatClampNeg))
    (kk : sm_TW base ct tt D M p l e R s m args below meth c Q (pc + 2) lv (.ref lay.length :: r) (lay ++ [(t + 1, n.toNatClampNeg)], sm_row me.1 lay.length (fun _ => 0), sm_row me.2.1 lay.length (fun _ => 0), me.2.2) (cs.1 + 1, cs.2 + n.toNatClampNeg)) : sm_TW base ct tt D M p l e R s m args below meth c Q pc lv (.int n :: r) (lay, me) cs := by
  obtain ⟨hx, hb, hml, hown, hts, hnm, hfr, hlo, hce, hsl, hG⟩ := hX
  simp only [sm_okA, Bool.and_eq_true, decide_eq_true_eq] at ho
  obtain ⟨⟨ht, hty⟩, hpos⟩ := ho
  intro H locs ls hl hP hS hz hn hcs
  have hcomp := sm_comp ht
  refine va_newa (a0 := (n.toNatClampNeg, if t = 3 then .inr (.inl (fun _ => 0)) else .inl (fun _ => 0))) hx hb (hts _ (sm_has_in hpos)) hty hG.1 hP (sm_D _) hS (fun q h => sm_Aq hG.2.1 h) (fun cA => ?_) (fun q => hg (Or.inl q)) rfl ?_ (by omega) (by omega) hd (fun q cA H1 hK1 hP1 hD1 hS1 => ?_)
  · match t, ht with
    | 0, _ => rfl
    | 1, _ => rfl
    | 2, _ => rfl
    | 3, _ => rfl
  · have h1 : n.toNatClampNeg ≤ 100000 := by omega
    exact Nat.le_trans (Nat.mul_le_mul h1 hcomp) (by decide)
  · have hcA : cA = ct t := by
      have h1 := (hK1.2 4 (cA, sm_ty t) rfl).2
      have h2 : ∃ ty, (sm_tys ct)[t]? = some (ct t, ty) ∧ ty = sm_ty t := by
        match t, ht with
        | 0, _ => exact ⟨_, rfl, rfl⟩
        | 1, _ => exact ⟨_, rfl, rfl⟩
        | 2, _ => exact ⟨_, rfl, rfl⟩
        | 3, _ => exact ⟨_, rfl, rfl⟩
      obtain ⟨ty, h3, rfl⟩ := h2
      have h4 := (hG.1.2 t _ h3).2
      match t, ht, h1, h4 with
      | 0, _, h1, h4 => exact Option.some.inj (h1.symm.trans h4)
      | 1, _, h1, h4 => exact Option.some.inj (h1.symm.trans h4)
      | 2, _, h1, h4 => exact Option.some.inj (h1.symm.trans h4)
      | 3, _, h1, h4 => exact Option.some.inj (h1.symm.trans h4)
    subst hcA
    refine sm_sizedX (n := base + lay.length + 1) (by have : s.heap.size + cs.1 = base + lay.length := hz; omega) (fun hsz => ?_)
    have hq := sm_newq (w := (lay, me)) (n := 0) hD1 hP1 hsz
    have hq : q = base + lay.length := hq
    subst hq
    have hpush := sm_push (base := base) (ct := ct) (tt := tt) (lay := lay) (m := me) (m' := (sm_row me.1 lay.length (fun _ => 0), sm_row me.2.1 lay.length (fun _ => 0), me.2.2)) (q := (t + 1, n.toNatClampNeg)) (fun k hk u => by apply sm_E_new <;> simp [sm_row, Nat.ne_of_lt hk])
    have hP2 : va_P D vwCl (sm_ws base ct tt (lay ++ [(t + 1, n.toNatClampNeg)], sm_row me.1 lay.length (fun _ => 0), sm_row me.2.1 lay.length (fun _ => 0), me.2.2)) H1 := by
      rw [hpush]
      have e3 : (sm_E base ct tt (lay ++ [(t + 1, n.toNatClampNeg)], sm_row me.1 lay.length (fun _ => 0), sm_row me.2.1 lay.length (fun _ => 0), me.2.2) lay.length (t + 1, n.toNatClampNeg)).2 = .inl (ct t, n.toNatClampNeg, if t = 3 then .inr (.inl (fun _ => 0)) else .inl (fun _ => 0)) := by
        simp [sm_E, sm_row]
      rw [e3]; exact hP1
    have k1 := kk H1 locs ls hl hP2 hS1 (by show s.heap.size + (cs.1 + 1) = base + (lay ++ [(t + 1, n.toNatClampNeg)]).length; have : s.heap.size + cs.1 = base + lay.length := hz; simp; omega) (by show (lay ++ [(t + 1, n.toNatClampNeg)]).length ≤ 1000; simp; omega) ⟨by show cs.1 + 1 ≤ _; omega, by show cs.2 + n.toNatClampNeg ≤ _; omega⟩
    have e2 : (Value.ref lay.length :: r).map (sm_cv base tt) = Value.ref (base + lay.length) :: r.map (sm_cv base tt) := by
      show Value.ref (sm_ad base tt lay.length) :: _ = _
      rw [sm_ad_w (by omega)]
    rw [e2] at k1
    exact k1
end SmCalls
end
section
theorem sm_okM_of {P : Nat → sm_M} {M : sm_M} (h : sm_okM P M = true) : plainName M.1.cls = true ∧ (M.1.cls ≠ "java/lang/invoke/MethodHandle" ∧ M.1.cls ≠ "java/lang/invoke/VarHandle" ∧ (parseMethodDescriptor M.1.desc).map (fun d => d.parameters.length) = some M.2.2.2.2.1) ∧ M.2.2.1 ≤ 60 ∧ (∃ B, (sm_blks M)[0]? = some B ∧ B.1 = 0) ∧ ∀ B ∈ sm_blks M, sm_okL P M B.2.2.1 B.2.2.2 B.1 = true := by
  unfold sm_okM at h
  simp only [Bool.and_eq_true, decide_eq_true_eq] at h
  obtain ⟨⟨⟨⟨⟨⟨h1, h2⟩, h3⟩, h6⟩, h7⟩, h8⟩, h9⟩ := h
  refine ⟨h1, ⟨h2, h3, h6⟩, h7, ?_, List.all_eq_true.mp h9⟩
  split at h8
  · next B e => exact ⟨B, e, of_decide_eq_true h8⟩
  · cases h8
theorem sm_gI2 {M : sm_M} (h : Cond.code M.1 M.2.1 M.2.2.1 M.2.2.2.1 ∈ sm_wl) : GoodIn sm_wl (sm_mw M) := fun w hw => by
  rcases List.mem_cons.mp hw with rfl | hw
  · exact ⟨h, sm_wl_good h⟩
  · exact ⟨hw, sm_wl_good hw⟩
theorem sm_rc_of {ci n : Nat} {lay : List (Nat × Nat)} {st : List Value} (h : sm_rc 1 ci lay st n = true) : ∃ X b rest, st = X ++ .ref b :: rest ∧ X.length = n ∧ lay[b]? = some (0, ci) := by
  unfold sm_rc at h
  split at h
  · next hh => cases hh
  · split at h
    · next b rest e =>
      split at h
      · next c' e2 =>
        have hc := of_decide_eq_true h
        subst hc
        refine ⟨st.take n, b, rest, ?_, ?_, e2⟩
        · rw [← e, List.take_append_drop]
        · have hl : n < st.length := by
            rcases Nat.lt_or_ge n st.length with q | q
            · exact q
            · rw [List.drop_eq_nil_of_le q] at e; cases e
          simp; omega
      · cases h
    · cases h
section SmRun
variable {base : Nat} {ct : Nat → ClassId} {tt : Nat → Nat} {D : va_G} {S : sm_C} {M : sm_M} {d : Nat} {p : Program} {l : Launch} {e : Env} {R : Room} {s : State} {m : MethodId} {args : Array Value} {below : List Frame} {meth : Method} {c : Code} {Q : State → Prop}
variable {pc : Nat} {lv lv' : sm_V} {st st' r : List Value} {lay : List (Nat × Nat)} {me : sm_Y} {w : sm_W} {cs : Nat × Nat} {ops : List Nat} {z z' : sm_Z} {P : Nat → sm_M}
theorem sm_tl (o : Option Value) (r : List Value) : (o.map (sm_cv base tt)).toList ++ r.map (sm_cv base tt) = (o.toList ++ r).map (sm_cv base tt) := by
  cases o <;> simp
set_option maxHeartbeats 4000000 in
theorem sm_k_V (okP : ∀ f, sm_OK P (P f)) (hX : sm_X base ct tt D S M (d + 1) p R s m args meth c) {x g ci p1 p2 p3 : Nat} {X rest : List Value} {b : Nat} (hcal : sm_Cal (P g)) (hd : decode M.2.1 pc = .ok (.invokevirtual x, 3)) (ho : sm_okV P M x g 1 ci p1 p2 p3 = true) (hb1 : w.1[b]? = some (0, ci)) (hn1 : X.length = (P g).2.2.2.2.1) (h8 : (rest.map fun v => v.category).sum ≤ 8) (hce1 : cs.1 + (P g).2.2.2.2.2.1 ≤ M.2.2.2.2.2.1) (hsl1 : cs.2 + (P g).2.2.2.2.2.2.1 ≤ M.2.2.2.2.2.2.1)
    (hM : Met l (P g).1 (sm_mw (P g)) (sm_rm d (P g)) (va_Pc ((Value.ref b :: X.reverse).map (sm_cv base tt)) (sm_Pre base ct tt D S w)) (sm_Q base ct tt D z') (P g).2.2.2.2.2.1 (P g).2.2.2.2.2.2.1 (sm_A base)) (hlen : z'.2.1.length = w.1.length + (P g).2.2.2.2.2.1) (hlen2 : z'.2.1.length ≤ 1000)
    (kk : sm_TW base ct tt D M p l e R s m args below meth c Q (pc + 3) lv (z'.1.toList ++ rest) z'.2 (cs.1 + (P g).2.2.2.2.2.1, cs.2 + (P g).2.2.2.2.2.2.1)) : sm_TW base ct tt D M p l e R s m args below meth c Q pc lv (X ++ .ref b :: rest) w cs := by
  obtain ⟨hx, hb, hml, hown, hts, hnm, hfr, hlo, hce, hsl, hG⟩ := hX
  obtain ⟨g1, ⟨g2, g3, g4⟩, g7, -, -⟩ := sm_okM_of (okP g).1
  obtain ⟨g5, g6⟩ := hcal
  unfold sm_okV at ho
  split at ho
  · next C T N hc =>
    simp only [Bool.and_eq_true, decide_eq_true_eq] at ho
    obtain ⟨⟨⟨⟨-, hcls⟩, o1⟩, o2⟩, o3⟩ := ho
    intro H locs ls hl hP hS hz hn hcs
    refine sm_sized hG.2.1 hP hS hz (fun hsz => ?_)
    have hT : GoodIn sm_wl (wsV M.1.cls x C (P g).1 (sm_mw (P g))) := fun u hu => by
      rcases List.mem_append.mp hu with h | h
      · simp only [List.mem_cons, List.not_mem_nil, or_false] at h
        rcases h with rfl | rfl | rfl | rfl
        · exact ⟨sm_has_in o1, sm_wl_good (sm_has_in o1)⟩
        · exact ⟨sm_has_in o2, sm_wl_good (sm_has_in o2)⟩
        · exact ⟨sm_has_in o3, sm_wl_good (sm_has_in o3)⟩
        · rw [← hcls]; exact ⟨g6, sm_wl_good g6⟩
      · exact sm_gI2 g5 u h
    have hatO : (sm_ws base ct tt w)[b]? = some (sm_ad base tt b, .inr (ci, sm_fs base tt w ci b)) := sm_atO (lay := w.1) (m := w.2) hn hb1
    have hst : (F0 m pc ls ((X ++ .ref b :: rest).map (sm_cv base tt))).stack = ((X.reverse).map (sm_cv base tt)).reverse ++ .ref (sm_ad base tt b) :: rest.map (sm_cv base tt) := by
      simp [List.map_reverse]; rfl
    refine sm_after (va_runV (As := (X.reverse).map (sm_cv base tt)) (rest := rest.map (sm_cv base tt)) (b := sm_ad base tt b) (C := C) ⟨hx, hb, hml, hown, hts⟩ hM (cwV (P g).2.2.2.2.1 hts hT rfl rfl rfl ⟨hcls, g2, g3, g4⟩ ⟨by show d + 1 + 1 ≤ R.frames; omega, by show 8 + ((P g).2.2.1 + 11) + (80 * d + 100) ≤ R.locals; omega⟩) ⟨sm_blind, va_recv hG.1 hP hc hatO, fun U hU hW => ⟨rfl, by rw [hU]; exact hsz, hn, by rw [hU]; exact hP, hG.moved hW hU hS⟩⟩ rfl (by simp [hn1]) hl.1 hst (lv_room (by rw [sm_cats]; exact h8)) hd ⟨by omega, by omega⟩) hS (fun H1 locs1 hP1 hS1 => ?_)
    rw [sm_tl]
    exact kk H1 locs1 ls hl hP1 hS1 (by show s.heap.size + (cs.1 + _) = base + z'.2.1.length; rw [hlen]; have : s.heap.size + cs.1 = base + w.1.length := hz; omega) hlen2 ⟨hce1, hsl1⟩
  · cases ho
set_option maxHeartbeats 4000000 in
theorem sm_k_S (okP : ∀ f, sm_OK P (P f)) (hX : sm_X base ct tt D S M (d + 1) p R s m args meth c) {x g p1 p2 : Nat} {X rest : List Value} (hcal : sm_Cal (P g)) (hd : decode M.2.1 pc = .ok (.invokestatic x, 3)) (ho : sm_okS P M x g 0 p1 p2 = true) (hn1 : X.length = (P g).2.2.2.2.1) (h8 : (rest.map fun v => v.category).sum ≤ 8) (hce1 : cs.1 + (P g).2.2.2.2.2.1 ≤ M.2.2.2.2.2.1) (hsl1 : cs.2 + (P g).2.2.2.2.2.2.1 ≤ M.2.2.2.2.2.2.1)
    (hM : Met l (P g).1 (sm_mw (P g)) (sm_rm d (P g)) (va_Pc ((X.reverse).map (sm_cv base tt)) (sm_Pre base ct tt D S w)) (sm_Q base ct tt D z') (P g).2.2.2.2.2.1 (P g).2.2.2.2.2.2.1 (sm_A base)) (hlen : z'.2.1.length = w.1.length + (P g).2.2.2.2.2.1) (hlen2 : z'.2.1.length ≤ 1000)
    (kk : sm_TW base ct tt D M p l e R s m args below meth c Q (pc + 3) lv (z'.1.toList ++ rest) z'.2 (cs.1 + (P g).2.2.2.2.2.1, cs.2 + (P g).2.2.2.2.2.2.1)) : sm_TW base ct tt D M p l e R s m args below meth c Q pc lv (X ++ rest) w cs := by
  obtain ⟨hx, hb, hml, hown, hts, hnm, hfr, hlo, hce, hsl, hG⟩ := hX
  obtain ⟨g1, ⟨g2, g3, g4⟩, g7, -, -⟩ := sm_okM_of (okP g).1
  obtain ⟨g5, g6⟩ := hcal
  simp only [sm_okS, Bool.and_eq_true, decide_eq_true_eq] at ho
  obtain ⟨⟨-, o1⟩, o2⟩ := ho
  intro H locs ls hl hP hS hz hn hcs
  refine sm_sized hG.2.1 hP hS hz (fun hsz => ?_)
  have hT : GoodIn sm_wl (va_wsS M.1.cls x (P g).1 (sm_mw (P g))) := fun u hu => by
    rcases List.mem_append.mp hu with h | h
    · simp only [List.mem_cons, List.not_mem_nil, or_false] at h
      rcases h with rfl | rfl | rfl
      · exact ⟨sm_has_in o1, sm_wl_good (sm_has_in o1)⟩
      · exact ⟨sm_has_in o2, sm_wl_good (sm_has_in o2)⟩
      · exact ⟨g6, sm_wl_good g6⟩
    · exact sm_gI2 g5 u h
  have hst : (F0 m pc ls ((X ++ rest).map (sm_cv base tt))).stack = ((X.reverse).map (sm_cv base tt)).reverse ++ rest.map (sm_cv base tt) := by
    simp [List.map_reverse]
  refine sm_after (va_runS (As := (X.reverse).map (sm_cv base tt)) (rest := rest.map (sm_cv base tt)) ⟨hx, hb, hml, hown, hts⟩ hM (va_cwS (P g).2.2.2.2.1 hts hT rfl rfl rfl ⟨g2, g3, g4⟩ ⟨by show d + 1 + 1 ≤ R.frames; omega, by show 8 + ((P g).2.2.1 + 11) + (80 * d + 100) ≤ R.locals; omega⟩) ⟨sm_blind, fun U hU hW => ⟨rfl, by rw [hU]; exact hsz, hn, by rw [hU]; exact hP, hG.moved hW hU hS⟩⟩ rfl (by simp [hn1]) hl.1 hst (lv_room (by rw [sm_cats]; exact h8)) hd ⟨by omega, by omega⟩) hS (fun H1 locs1 hP1 hS1 => ?_)
  rw [sm_tl]
  exact kk H1 locs1 ls hl hP1 hS1 (by show s.heap.size + (cs.1 + _) = base + z'.2.1.length; rw [hlen]; have : s.heap.size + cs.1 = base + w.1.length := hz; omega) hlen2 ⟨hce1, hsl1⟩
set_option maxHeartbeats 4000000 in
theorem sm_k_P (okP : ∀ f, sm_OK P (P f)) (hX : sm_X base ct tt D S M (d + 1) p R s m args meth c) {x g nst p1 p2 : Nat} {X rest : List Value} {b : Nat} (hcal : sm_Cal (P g)) (hd : decode M.2.1 pc = .ok (.invokespecial x, 3)) (ho : sm_okP P M x g 1 nst p1 p2 = true) (hn1 : X.length = (P g).2.2.2.2.1) (h8 : (rest.map fun v => v.category).sum ≤ 8) (hce1 : cs.1 + (P g).2.2.2.2.2.1 ≤ M.2.2.2.2.2.1) (hsl1 : cs.2 + (P g).2.2.2.2.2.2.1 ≤ M.2.2.2.2.2.2.1)
    (hM : Met l (P g).1 (sm_mw (P g)) (sm_rm d (P g)) (va_Pc ((Value.ref b :: X.reverse).map (sm_cv base tt)) (sm_Pre base ct tt D S w)) (sm_Q base ct tt D z') (P g).2.2.2.2.2.1 (P g).2.2.2.2.2.2.1 (sm_A base)) (hlen : z'.2.1.length = w.1.length + (P g).2.2.2.2.2.1) (hlen2 : z'.2.1.length ≤ 1000)
    (kk : sm_TW base ct tt D M p l e R s m args below meth c Q (pc + 3) lv (z'.1.toList ++ rest) z'.2 (cs.1 + (P g).2.2.2.2.2.1, cs.2 + (P g).2.2.2.2.2.2.1)) : sm_TW base ct tt D M p l e R s m args below meth c Q pc lv (X ++ .ref b :: rest) w cs := by
  obtain ⟨hx, hb, hml, hown, hts, hnm, hfr, hlo, hce, hsl, hG⟩ := hX
  obtain ⟨g1, ⟨g2, g3, g4⟩, g7, -, -⟩ := sm_okM_of (okP g).1
  obtain ⟨g5, g6⟩ := hcal
  simp only [sm_okP, Bool.and_eq_true, decide_eq_true_eq] at ho
  obtain ⟨⟨⟨⟨-, hin⟩, hret⟩, o1⟩, o2⟩ := ho
  intro H locs ls hl hP hS hz hn hcs
  refine sm_sized hG.2.1 hP hS hz (fun hsz => ?_)
  have hst : (F0 m pc ls ((X ++ .ref b :: rest).map (sm_cv base tt))).stack = ((X.reverse).map (sm_cv base tt)).reverse ++ .ref (sm_ad base tt b) :: rest.map (sm_cv base tt) := by
    simp [List.map_reverse]; rfl
  have hwe : sm_mw (P g) = Cond.code (P g).1 (P g).2.1 (P g).2.2.1 none :: sm_wl := by rw [← hret]; rfl
  have hrm : (sm_rm d (P g)).frames + 1 ≤ R.frames ∧ 8 + ((P g).2.2.1 + 11) + (sm_rm d (P g)).locals ≤ R.locals := ⟨by show d + 1 + 1 ≤ R.frames; omega, by show 8 + ((P g).2.2.1 + 11) + (80 * d + 100) ≤ R.locals; omega⟩
  have hpre : PreS s H (va_Pc ((Value.ref b :: X.reverse).map (sm_cv base tt)) (sm_Pre base ct tt D S w)) (.ref (sm_ad base tt b) :: (X.reverse).map (sm_cv base tt)) := ⟨sm_blind, fun U hU hW => ⟨rfl, by rw [hU]; exact hsz, hn, by rw [hU]; exact hP, hG.moved hW hU hS⟩⟩
  have hgo : ∀ (H1 : Heap) (locs1 : List Loc), va_P D vwCl (sm_ws base ct tt z'.2) H1 → va_S (sm_A base) s.heap H1 locs1 → W p l e R s m args below meth c H1 locs1 (cs.1 + (P g).2.2.2.2.2.1) (cs.2 + (P g).2.2.2.2.2.2.1) Q (F0 m (pc + 3) ls ((z'.1.map (sm_cv base tt)).toList ++ rest.map (sm_cv base tt))) := by
    intro H1 locs1 hP1 hS1
    rw [sm_tl]
    exact kk H1 locs1 ls hl hP1 hS1 (by show s.heap.size + (cs.1 + _) = base + z'.2.1.length; rw [hlen]; have : s.heap.size + cs.1 = base + w.1.length := hz; omega) hlen2 ⟨hce1, hsl1⟩
  by_cases hns : nst = 1
  · rw [if_pos hns] at o1
    have o1 := of_decide_eq_true o1
    have hN := hG.2.2.2.2.2 _ (List.mem_of_getElem? o1)
    exact sm_after (va_runIN (As := (X.reverse).map (sm_cv base tt)) (rest := rest.map (sm_cv base tt)) (b := sm_ad base tt b) ⟨hx, hb, hml, hown, hts⟩ hM ⟨va_cnB (P g).2.2.2.2.1 hts (sm_gI2 g5) hwe rfl rfl hN (hts _ g6) ⟨g2, g3, g4⟩ hrm, hin, hts _ (sm_has_in o2)⟩ hpre rfl (by simp [hn1]) hl.1 hst (lv_room (by rw [sm_cats]; exact h8)) hd ⟨by omega, by omega⟩) hS hgo
  · rw [if_neg hns] at o1
    exact sm_after (va_runI (As := (X.reverse).map (sm_cv base tt)) (rest := rest.map (sm_cv base tt)) (b := sm_ad base tt b) ⟨hx, hb, hml, hown, hts⟩ hM (cwI (P g).2.2.2.2.1 hts (sm_gI2 g5) hwe rfl rfl (hts _ g6) (hts _ (sm_has_in o1)) (hts _ (sm_has_in o2)) hin ⟨g2, g3, g4⟩ hrm) hpre rfl (by simp [hn1]) hl.1 hst (lv_room (by rw [sm_cats]; exact h8)) hd ⟨by omega, by omega⟩) hS hgo
end SmRun
end
section
/-! how many cells there are in the end -/
def sm_Ln (M : sm_M) (z : sm_Z) (w : sm_W) (cs : Nat × Nat) : Prop := z.2.1.length + cs.1 = w.1.length + M.2.2.2.2.2.1 ∧ (w.1.length ≤ 1000 → z.2.1.length ≤ 1000)
section SmLen
variable {α : Type} {z : α} {st : List Value} {a b : List Value → Option α}
theorem sm_b1_or {c : ClassFile.Cond} (h : sm_b1 c st a b = some z) : (∃ r, a r = some z) ∨ ∃ r, b r = some z := by
  unfold sm_b1 at h
  split at h
  · cases c <;> (dsimp only at h; split at h <;> first | exact Or.inl ⟨_, h⟩ | exact Or.inr ⟨_, h⟩)
  · cases h
theorem sm_b2_or {c : ClassFile.Cond} (h : sm_b2 c st a b = some z) : (∃ r, a r = some z) ∨ ∃ r, b r = some z := by
  unfold sm_b2 at h
  split at h
  · cases c <;> (dsimp only at h; split at h <;> first | exact Or.inl ⟨_, h⟩ | exact Or.inr ⟨_, h⟩)
  · cases h
theorem sm_bn_or (h : sm_bn st a b = some z) : (∃ r, a r = some z) ∨ ∃ r, b r = some z := by
  unfold sm_bn at h
  split at h
  · exact Or.inl ⟨_, h⟩
  · exact Or.inr ⟨_, h⟩
  · cases h
theorem sm_sw_or {x : Int32} {k : Nat → Option α} {d : Nat} : ∀ {bs : List Nat} {v : Int}, sm_sw x k d v bs = some z → (∃ (j b : Nat), bs[j]? = some b ∧ x.toInt = v + (j : Int) ∧ k b = some z) ∨ ((∀ j : Nat, j < bs.length → ¬ x.toInt = v + (j : Int)) ∧ k d = some z)
  | [], v, h => Or.inr ⟨fun j hj => absurd hj (Nat.not_lt_zero j), h⟩
  | b :: r, v, h => by
    unfold sm_sw at h
    split at h
    · next e => exact Or.inl ⟨0, b, rfl, by simpa using e, h⟩
    · next e =>
      rcases sm_sw_or h with ⟨j, b', h1, h2, h3⟩ | ⟨h1, h2⟩
      · exact Or.inl ⟨j + 1, b', h1, by rw [h2]; push_cast; omega, h3⟩
      · refine Or.inr ⟨fun j hj => ?_, h2⟩
        cases j with
        | zero => simpa using e
        | succ j => have := h1 j (by simpa using hj); push_cast; omega
theorem sm_lo_or {x : Int32} {k : Nat → Option α} {d : Nat} {df : Int} : ∀ {vs : List (Int × Int)} {bs : List Nat}, sm_lo x k d vs bs = some z → (∃ (j b : Nat) (q : Int × Int), bs[j]? = some b ∧ vs[j]? = some q ∧ Op.lookupswitch.offset vs df x.toInt = q.2 ∧ k b = some z) ∨ (Op.lookupswitch.offset vs df x.toInt = df ∧ k d = some z)
  | [], bs, h => Or.inr ⟨rfl, by cases bs <;> exact h⟩
  | v :: vs, [], h => by cases h
  | v :: vs, b :: r, h => by
    unfold sm_lo at h
    split at h
    · next e => exact Or.inl ⟨0, b, v, rfl, rfl, by simp [Op.lookupswitch.offset, e], h⟩
    · next e =>
      have e2 : Op.lookupswitch.offset (v :: vs) df x.toInt = Op.lookupswitch.offset vs df x.toInt := by
        show (if v.1 = x.toInt then v.2 else Op.lookupswitch.offset vs df x.toInt) = _
        rw [if_neg (fun q => e q.symm)]
      rw [e2]
      rcases sm_lo_or (df := df) h with ⟨j, b', q, h1, h2, h3, h4⟩ | h2
      · exact Or.inl ⟨j + 1, b', q, h1, h2, h3, h4⟩
      · exact Or.inr h2
end SmLen
theorem sm_tgs_of {M : sm_M} {pc : Nat} : ∀ {os : List Int} {bs : List Nat}, sm_tgs M pc os bs = true → bs.length = os.length ∧ ∀ (j : Nat) (b : Nat), bs[j]? = some b → ∃ o, os[j]? = some o ∧ sm_tg M pc o b = true
  | [], [], _ => ⟨rfl, fun j b h => by simp at h⟩
  | [], _ :: _, h => by cases h
  | _ :: _, [], h => by cases h
  | o :: os, b :: bs, h => by
    have h : (sm_tg M pc o b && sm_tgs M pc os bs) = true := h
    simp only [Bool.and_eq_true] at h
    obtain ⟨h1, h2⟩ := sm_tgs_of h.2
    refine ⟨by simp [h1], fun j b' hj => ?_⟩
    cases j with
    | zero => cases hj; exact ⟨o, rfl, h.1⟩
    | succ j => exact h2 j b' hj
def sm_isE : Instr → Bool
  | .goto _ => false
  | .ifCond _ _ => false
  | .if_icmp _ _ => false
  | .ifnull _ => false
  | .ifnonnull _ => false
  | .tableswitch _ _ _ _ => false
  | .lookupswitch _ _ => false
  | .ireturn => false
  | .lreturn => false
  | .areturn => false
  | .return_ => false
  | .new _ => false
  | .newarray _ => false
  | _ => true
section SmLen2
variable {P : Nat → sm_M} {S : sm_C} {rec : Nat → Nat → Nat → List Value → List Value → sm_W → Nat × Nat → Option sm_Z} {jmp : Nat → sm_V → List Value → sm_W → Nat × Nat → Option sm_Z} {d fall : Nat} {M : sm_M} {z : sm_Z} {k : sm_V → List Value → sm_W → Nat × Nat → Option sm_Z}
theorem sm_inv_of {rc : List Value → Option sm_Z} {n nL mc ms : Nat} {rb : Bool} {st : List Value} {cs lim : Nat × Nat} {kk : List Value → sm_W → Nat × Nat → Option sm_Z} (h : sm_inv rc n nL mc ms rb st cs lim kk = some z) :
    ∃ z', rb = true ∧ n ≤ st.length ∧ (lg_sl (st.take n).reverse).length ≤ nL ∧ ((st.drop n).map fun v => v.category).sum ≤ 8 ∧ cs.1 + mc ≤ lim.1 ∧ cs.2 + ms ≤ lim.2 ∧ rc (st.take n).reverse = some z' ∧ kk (z'.1.toList ++ st.drop n) z'.2 (cs.1 + mc, cs.2 + ms) = some z := by
  unfold sm_inv at h
  split at h
  · cases h
  · next hc =>
    simp only [not_or, Nat.not_lt, Bool.not_eq_false] at hc
    split at h
    · cases h
    · next z' e => exact ⟨z', hc.1, hc.2.1, hc.2.2.1, hc.2.2.2.1, hc.2.2.2.2.1, hc.2.2.2.2.2, e, h⟩
theorem sm_else_len (hr : ∀ d' g as w' z', rec d' g 0 as [] w' (0, 0) = some z' → sm_Ln (P g) z' w' (0, 0)) {i : Instr} {ops : List Nat} {lv : sm_V} {st : List Value} {w : sm_W} {cs : Nat × Nat} (hk : ∀ lv st w cs, k lv st w cs = some z → sm_Ln M z w cs) (h : sm_else P S rec d M i ops lv st w cs k = some z) : sm_Ln M z w cs := by
  unfold sm_else at h
  split at h
  · split at h
    · cases h
    · obtain ⟨z', -, -, -, -, -, -, h1, h2⟩ := sm_inv_of h
      have l1 := hr _ _ _ _ _ h1
      have l2 := hk _ _ _ _ h2
      obtain ⟨a1, a2⟩ := l1
      obtain ⟨b1, b2⟩ := l2
      simp only [sm_Ln] at *
      exact ⟨by omega, fun q => b2 (a2 q)⟩
  · split at h
    · have h3 := hk _ _ _ _ h
      exact h3
    · cases h
theorem sm_blk_else {i : Instr} {ops : List Nat} {is : List (Instr × List Nat)} {lv : sm_V} {st : List Value} {w : sm_W} {cs : Nat × Nat} (h : sm_isE i = true) : sm_blk P S rec jmp d M fall ((i, ops) :: is) lv st w cs = sm_else P S rec d M i ops lv st w cs (fun lv st w cs => sm_blk P S rec jmp d M fall is lv st w cs) := by
  cases i <;> first | rfl | cases h
set_option maxHeartbeats 4000000 in
theorem sm_blk_len (hr : ∀ d' g as w' z', rec d' g 0 as [] w' (0, 0) = some z' → sm_Ln (P g) z' w' (0, 0)) (hj : ∀ b lv st w cs, jmp b lv st w cs = some z → sm_Ln M z w cs) : ∀ (is : List (Instr × List Nat)) (lv : sm_V) (st : List Value) (w : sm_W) (cs : Nat × Nat), sm_blk P S rec jmp d M fall is lv st w cs = some z → sm_Ln M z w cs := by
  intro is
  induction is with
  | nil => intro lv st w cs h; exact hj _ _ _ _ _ h
  | cons q is ih =>
    obtain ⟨i, ops⟩ := q
    intro lv st w cs h
    cases i with
    | goto off => exact hj _ _ _ _ _ h
    | ifCond c off => rcases sm_b1_or h with ⟨r, h⟩ | ⟨r, h⟩ <;> exact hj _ _ _ _ _ h
    | if_icmp c off => rcases sm_b2_or h with ⟨r, h⟩ | ⟨r, h⟩ <;> exact hj _ _ _ _ _ h
    | ifnull off => rcases sm_bn_or h with ⟨r, h⟩ | ⟨r, h⟩ <;> exact hj _ _ _ _ _ h
    | ifnonnull off => rcases sm_bn_or h with ⟨r, h⟩ | ⟨r, h⟩ <;> exact hj _ _ _ _ _ h
    | tableswitch df lo hi offs =>
      unfold sm_blk at h
      dsimp only at h
      split at h
      · rcases sm_sw_or h with ⟨j, b, -, -, h⟩ | ⟨-, h⟩ <;> exact hj _ _ _ _ _ h
      · cases h
    | lookupswitch df ps =>
      unfold sm_blk at h
      dsimp only at h
      split at h
      · rcases sm_lo_or (df := 0) h with ⟨j, b, q, -, -, -, h⟩ | ⟨-, h⟩ <;> exact hj _ _ _ _ _ h
      · cases h
    | ireturn =>
      unfold sm_blk at h
      dsimp only at h
      split at h
      · split at h
        · next hc =>
          subst hc
          have hw : z.2 = w := by
            split at h
            · split at h
              · cases h; rfl
              · cases h
            · cases h; rfl
          rw [← hw]; exact ⟨rfl, fun q => q⟩
        · cases h
      · cases h
    | lreturn =>
      unfold sm_blk at h
      dsimp only at h
      split at h
      · split at h
        · next hc => subst hc; cases h; exact ⟨rfl, fun q => q⟩
        · cases h
      · cases h
    | areturn =>
      unfold sm_blk at h
      dsimp only at h
      split at h
      · split at h
        · next hc => subst hc; cases h; exact ⟨rfl, fun q => q⟩
        · cases h
      · cases h
    | return_ =>
      unfold sm_blk at h
      dsimp only at h
      split at h
      · split at h
        · next hc => subst hc; cases h; exact ⟨rfl, fun q => q⟩
        · cases h
      · cases h
    | new x =>
      unfold sm_blk at h
      dsimp only at h
      split at h
      · cases h
      · next hc =>
        obtain ⟨h1, h2⟩ := ih _ _ _ _ h
        simp only [List.length_append, List.length_cons, List.length_nil] at h1 h2
        simp only [not_or, Nat.not_le] at hc
        exact ⟨by omega, fun q => h2 (by omega)⟩
    | newarray at' =>
      unfold sm_blk at h
      dsimp only at h
      split at h
      · split at h
        · cases h
        · next hc =>
          obtain ⟨h1, h2⟩ := ih _ _ _ _ h
          simp only [List.length_append, List.length_cons, List.length_nil] at h1 h2
          simp only [not_or, Nat.not_le] at hc
          exact ⟨by omega, fun q => h2 (by omega)⟩
      · cases h
    | _ => rw [sm_blk_else rfl] at h; exact sm_else_len hr ih h
theorem sm_go_len {f : Nat} (hr : ∀ d' g as w' z', rec d' g 0 as [] w' (0, 0) = some z' → sm_Ln (P g) z' w' (0, 0)) (hc : ∀ b vs st w cs, rec d f b vs st w cs = some z → sm_Ln M z w cs) : ∀ (n : Nat) (b : Nat) (lv : sm_V) (st : List Value) (w : sm_W) (cs : Nat × Nat), sm_go P S rec d f M n b lv st w cs = some z → sm_Ln M z w cs := by
  intro n
  induction n with
  | zero => intro b lv st w cs h; cases h
  | succ n ih =>
    intro b lv st w cs h
    unfold sm_go at h
    split at h
    · cases h
    · split at h
      · cases h
      · split at h
        · cases h
        · exact hc _ _ _ _ _ h
      · exact sm_blk_len hr ih _ _ _ _ _ h
theorem sm_run_len : ∀ (n d f b : Nat) (vs st : List Value) (w : sm_W) (cs : Nat × Nat) (z : sm_Z), sm_run P S n d f b vs st w cs = some z → sm_Ln (P f) z w cs
  | 0, _, _, _, _, _, _, _, _, h => by cases h
  | n + 1, d, f, b, vs, st, w, cs, z, h => by
    have h : sm_F P S (sm_run P S n) d f b vs st w cs = some z := h
    unfold sm_F at h
    split at h
    · exact sm_blk_len (fun d' g as w' z' h => sm_run_len n d' g 0 as [] w' (0, 0) z' h) (fun b lv st w cs h => sm_go_len (fun d' g as w' z' h => sm_run_len n d' g 0 as [] w' (0, 0) z' h) (fun b vs st w cs h => sm_run_len n d f b vs st w cs z h) 64 b lv st w cs h) _ _ _ _ _ h
    · cases h
end SmLen2
end
section
/-! the small machine's run is the machine's -/
section SmFin
variable {base : Nat} {ct : Nat → ClassId} {tt : Nat → Nat} {D : va_G} {S : sm_C} {M : sm_M} {d : Nat} {p : Program} {l : Launch} {e : Env} {R : Room} {s : State} {m : MethodId} {args : Array Value} {below : List Frame} {meth : Method} {c : Code} {Q : State → Prop}
variable {pc : Nat} {lv lv' : sm_V} {st st' r : List Value} {lay : List (Nat × Nat)} {me : sm_Y} {w : sm_W} {cs : Nat × Nat} {ops : List Nat} {z z' : sm_Z} {P : Nat → sm_M}
variable {rec : Nat → Nat → Nat → List Value → List Value → sm_W → Nat × Nat → Option sm_Z} {jmp : Nat → sm_V → List Value → sm_W → Nat × Nat → Option sm_Z} {fall : Nat}
theorem sm_i3 {t : Nat} (h : (pc : Int) + 3 = (t : Int)) : t = pc + 3 := by omega
theorem sm_b1_ok (hX : sm_X base ct tt D S M d p R s m args meth c) {c' : ClassFile.Cond} {off : Int} {ta tb : Nat} {a b : List Value → Option sm_Z} (hd : decode M.2.1 pc = .ok (.ifCond c' off, 3)) (hta : (pc : Int) + off = (ta : Int)) (htb : (pc : Int) + 3 = (tb : Int)) (ha : ∀ r, a r = some z → sm_TW base ct tt D M p l e R s m args below meth c Q ta lv r w cs) (hb : ∀ r, b r = some z → sm_TW base ct tt D M p l e R s m args below meth c Q tb lv r w cs) (h : sm_b1 c' st a b = some z) : sm_TW base ct tt D M p l e R s m args below meth c Q pc lv st w cs := by
  have e3 := sm_i3 htb
  subst e3
  unfold sm_b1 at h
  split at h
  · intro H locs ls hl hP hS hz hn hcs
    cases c' <;> dsimp only at h
    · exact lv_if_eq hX.1 hX.2.1 hd hta (fun q => ha _ (by rw [if_pos q] at h; exact h) H locs ls hl hP hS hz hn hcs) (fun q => hb _ (by rw [if_neg q] at h; exact h) H locs ls hl hP hS hz hn hcs)
    · exact lv_if_ne hX.1 hX.2.1 hd hta (fun q => ha _ (by rw [if_neg q] at h; exact h) H locs ls hl hP hS hz hn hcs) (fun q => hb _ (by rw [if_pos q] at h; exact h) H locs ls hl hP hS hz hn hcs)
    · exact lv_if_lt hX.1 hX.2.1 hd hta (fun q => ha _ (by rw [if_pos q] at h; exact h) H locs ls hl hP hS hz hn hcs) (fun q => hb _ (by rw [if_neg q] at h; exact h) H locs ls hl hP hS hz hn hcs)
    · exact lv_if_ge hX.1 hX.2.1 hd hta (fun q => ha _ (by rw [if_pos q] at h; exact h) H locs ls hl hP hS hz hn hcs) (fun q => hb _ (by rw [if_neg q] at h; exact h) H locs ls hl hP hS hz hn hcs)
    · exact lv_if_gt hX.1 hX.2.1 hd hta (fun q => ha _ (by rw [if_pos q] at h; exact h) H locs ls hl hP hS hz hn hcs) (fun q => hb _ (by rw [if_neg q] at h; exact h) H locs ls hl hP hS hz hn hcs)
    · exact lv_if_le hX.1 hX.2.1 hd hta (fun q => ha _ (by rw [if_pos q] at h; exact h) H locs ls hl hP hS hz hn hcs) (fun q => hb _ (by rw [if_neg q] at h; exact h) H locs ls hl hP hS hz hn hcs)
  · cases h
theorem sm_b2_ok (hX : sm_X base ct tt D S M d p R s m args meth c) {c' : ClassFile.Cond} {off : Int} {ta tb : Nat} {a b : List Value → Option sm_Z} (hd : decode M.2.1 pc = .ok (.if_icmp c' off, 3)) (hta : (pc : Int) + off = (ta : Int)) (htb : (pc : Int) + 3 = (tb : Int)) (ha : ∀ r, a r = some z → sm_TW base ct tt D M p l e R s m args below meth c Q ta lv r w cs) (hb : ∀ r, b r = some z → sm_TW base ct tt D M p l e R s m args below meth c Q tb lv r w cs) (h : sm_b2 c' st a b = some z) : sm_TW base ct tt D M p l e R s m args below meth c Q pc lv st w cs := by
  have e3 := sm_i3 htb
  subst e3
  unfold sm_b2 at h
  split at h
  · intro H locs ls hl hP hS hz hn hcs
    cases c' <;> dsimp only at h
    · exact lv_icmp_eq hX.1 hX.2.1 hd hta (fun q => ha _ (by rw [if_pos q] at h; exact h) H locs ls hl hP hS hz hn hcs) (fun q => hb _ (by rw [if_neg q] at h; exact h) H locs ls hl hP hS hz hn hcs)
    · exact lv_icmp_ne hX.1 hX.2.1 hd hta (fun q => ha _ (by rw [if_neg q] at h; exact h) H locs ls hl hP hS hz hn hcs) (fun q => hb _ (by rw [if_pos q] at h; exact h) H locs ls hl hP hS hz hn hcs)
    · exact lv_icmp_lt hX.1 hX.2.1 hd hta (fun q => ha _ (by rw [if_pos q] at h; exact h) H locs ls hl hP hS hz hn hcs) (fun q => hb _ (by rw [if_neg q] at h; exact h) H locs ls hl hP hS hz hn hcs)
    · exact lv_icmp_ge hX.1 hX.2.1 hd hta (fun q => ha _ (by rw [if_pos q] at h; exact h) H locs ls hl hP hS hz hn hcs) (fun q => hb _ (by rw [if_neg q] at h; exact h) H locs ls hl hP hS hz hn hcs)
    · exact lv_icmp_gt hX.1 hX.2.1 hd hta (fun q => ha _ (by rw [if_pos q] at h; exact h) H locs ls hl hP hS hz hn hcs) (fun q => hb _ (by rw [if_neg q] at h; exact h) H locs ls hl hP hS hz hn hcs)
    · exact lv_icmp_le hX.1 hX.2.1 hd hta (fun q => ha _ (by rw [if_pos q] at h; exact h) H locs ls hl hP hS hz hn hcs) (fun q => hb _ (by rw [if_neg q] at h; exact h) H locs ls hl hP hS hz hn hcs)
  · cases h
theorem sm_bnull_ok (hX : sm_X base ct tt D S M d p R s m args meth c) {off : Int} {ta tb : Nat} {a b : List Value → Option sm_Z} (hd : decode M.2.1 pc = .ok (.ifnull off, 3)) (hta : (pc : Int) + off = (ta : Int)) (htb : (pc : Int) + 3 = (tb : Int)) (ha : ∀ r, a r = some z → sm_TW base ct tt D M p l e R s m args below meth c Q ta lv r w cs) (hb : ∀ r, b r = some z → sm_TW base ct tt D M p l e R s m args below meth c Q tb lv r w cs) (h : sm_bn st a b = some z) : sm_TW base ct tt D M p l e R s m args below meth c Q pc lv st w cs := by
  have e3 := sm_i3 htb
  subst e3
  unfold sm_bn at h
  split at h
  · exact fun H locs ls hl hP hS hz hn hcs => lv_ifnullN hX.1 hX.2.1 hd hta (ha _ h H locs ls hl hP hS hz hn hcs)
  · exact fun H locs ls hl hP hS hz hn hcs => lv_ifnull hX.1 hX.2.1 hd (hb _ h H locs ls hl hP hS hz hn hcs)
  · cases h
theorem sm_bnon_ok (hX : sm_X base ct tt D S M d p R s m args meth c) {off : Int} {ta tb : Nat} {a b : List Value → Option sm_Z} (hd : decode M.2.1 pc = .ok (.ifnonnull off, 3)) (hta : (pc : Int) + off = (ta : Int)) (htb : (pc : Int) + 3 = (tb : Int)) (ha : ∀ r, a r = some z → sm_TW base ct tt D M p l e R s m args below meth c Q tb lv r w cs) (hb : ∀ r, b r = some z → sm_TW base ct tt D M p l e R s m args below meth c Q ta lv r w cs) (h : sm_bn st a b = some z) : sm_TW base ct tt D M p l e R s m args below meth c Q pc lv st w cs := by
  have e3 := sm_i3 htb
  subst e3
  unfold sm_bn at h
  split at h
  · exact fun H locs ls hl hP hS hz hn hcs => lv_ifnonnullN hX.1 hX.2.1 hd (ha _ h H locs ls hl hP hS hz hn hcs)
  · exact fun H locs ls hl hP hS hz hn hcs => lv_ifnonnull hX.1 hX.2.1 hd hta (hb _ h H locs ls hl hP hS hz hn hcs)
  · cases h
/-- what a run that was asked for brings -/
def sm_Hr (base : Nat) (ct : Nat → ClassId) (tt : Nat → Nat) (D : va_G) (S : sm_C) (P : Nat → sm_M) (l : Launch) (rec : Nat → Nat → Nat → List Value → List Value → sm_W → Nat × Nat → Option sm_Z) : Prop :=
  ∀ (d' g : Nat) (as : List Value) (w' : sm_W) (z' : sm_Z), (lg_sl as).length ≤ (P g).2.2.1 → w'.1.length ≤ 1000 → rec d' g 0 as [] w' (0, 0) = some z' → (Met l (P g).1 (sm_mw (P g)) (sm_rm d' (P g)) (va_Pc (as.map (sm_cv base tt)) (sm_Pre base ct tt D S w')) (sm_Q base ct tt D z') (P g).2.2.2.2.2.1 (P g).2.2.2.2.2.2.1 (sm_A base)) ∧ sm_Ln (P g) z' w' (0, 0)
set_option maxHeartbeats 4000000 in
theorem sm_else_ok (cf : sm_CF) (okP : ∀ f, sm_OK P (P f)) (hX : sm_X base ct tt D S M d p R s m args meth c) (hr : sm_Hr base ct tt D S P l rec) {i : Instr} {k : sm_V → List Value → sm_W → Nat × Nat → Option sm_Z} (hd : decode M.2.1 pc = .ok (i, sm_ln i)) (ho : sm_okE P M i ops = true) (hk : ∀ lv st w cs, k lv st w cs = some z → sm_TW base ct tt D M p l e R s m args below meth c Q (pc + sm_ln i) lv st w cs) (h : sm_else P S rec d M i ops lv st w cs k = some z) : sm_TW base ct tt D M p l e R s m args below meth c Q pc lv st w cs := by
  unfold sm_else at h
  split at h
  · next g inst ci a1 a2 a3 a4 rs0 =>
    obtain ⟨rs, hrs⟩ : ∃ rs, a1 :: a2 :: a3 :: a4 :: rs0 = rs := ⟨_, rfl⟩
    have ho : sm_okC P M i g inst ci (a1 :: a2 :: a3 :: a4 :: rs0) = true := ho
    rw [hrs] at ho
    have hoo := Bool.and_eq_true_iff.mp ho
    clear ho
    obtain ⟨hcal0, ho⟩ := hoo
    have hcal := (okP g).2 (of_decide_eq_true hcal0)
    cases d with
    | zero => cases h
    | succ d =>
      obtain ⟨z', hrc, hn1, hsl, h8, hc1, hc2, h1, h2⟩ := sm_inv_of h
      by_cases hw : w.1.length ≤ 1000
      · obtain ⟨hM, hL1, hL2⟩ := hr d g _ w z' hsl hw h1
        have hL1 : z'.2.1.length = w.1.length + (P g).2.2.2.2.2.1 := by simpa using hL1
        have kk := hk _ _ _ _ h2
        cases i with
        | invokevirtual x =>
          have ho : sm_okV P M x g inst ci (rs.getD 0 0) (rs.getD 1 0) (rs.getD 2 0) = true := ho
          have hi : inst = 1 := by
            unfold sm_okV at ho
            split at ho
            · simp only [Bool.and_eq_true, decide_eq_true_eq] at ho; exact ho.1.1.1.1
            · cases ho
          subst hi
          obtain ⟨X, b, rest, rfl, hX1, hb1⟩ := sm_rc_of hrc
          have e1 : ((X ++ Value.ref b :: rest).take ((P g).2.2.2.2.1 + 1)).reverse = Value.ref b :: X.reverse := by
            rw [← hX1]; simp [List.take_append, List.take_of_length_le]
          have e2 : (X ++ Value.ref b :: rest).drop ((P g).2.2.2.2.1 + 1) = rest := by
            rw [← hX1]; simp [List.drop_append]
          rw [e1] at hM
          rw [e2] at h8 kk
          exact sm_k_V okP hX hcal hd ho hb1 hX1 h8 hc1 hc2 hM hL1 (hL2 hw) kk
        | invokestatic x =>
          have ho : sm_okS P M x g inst (rs.getD 0 0) (rs.getD 1 0) = true := ho
          have hi : inst = 0 := by
            simp only [sm_okS, Bool.and_eq_true, decide_eq_true_eq] at ho; exact ho.1.1
          subst hi
          have e0 : st = st.take ((P g).2.2.2.2.1 + 0) ++ st.drop ((P g).2.2.2.2.1 + 0) := (List.take_append_drop _ _).symm
          rw [e0]
          exact sm_k_S okP hX hcal hd ho (by simp at hn1 ⊢; omega) h8 hc1 hc2 hM hL1 (hL2 hw) kk
        | invokespecial x =>
          have ho : sm_okP P M x g inst (rs.getD 3 0) (rs.getD 0 0) (rs.getD 1 0) = true := ho
          have hi : inst = 1 := by
            simp only [sm_okP, Bool.and_eq_true, decide_eq_true_eq] at ho; exact ho.1.1.1.1
          subst hi
          obtain ⟨X, b, rest, rfl, hX1, hb1⟩ := sm_rc_of hrc
          have e1 : ((X ++ Value.ref b :: rest).take ((P g).2.2.2.2.1 + 1)).reverse = Value.ref b :: X.reverse := by
            rw [← hX1]; simp [List.take_append, List.take_of_length_le]
          have e2 : (X ++ Value.ref b :: rest).drop ((P g).2.2.2.2.1 + 1) = rest := by
            rw [← hX1]; simp [List.drop_append]
          rw [e1] at hM
          rw [e2] at h8 kk
          exact sm_k_P okP hX hcal hd ho hX1 h8 hc1 hc2 hM hL1 (hL2 hw) kk
        | _ => cases ho
      · exact fun H locs ls hl hP hS hz hn hcs => absurd hn hw
  · next hno =>
    have ho : sm_ok1 M i ops = true := by
      unfold sm_okE at ho
      split at ho
      · next g inst ci a1 a2 a3 a4 r => exact absurd rfl (hno g inst ci a1 a2 a3 a4 r)
      · exact ho
    split at h
    · next q e =>
      obtain ⟨lv', st', me'⟩ := q
      exact sm_one_ok (lay := w.1) (me := w.2) cf hX hd ho e (hk _ _ _ _ h)
    · cases h
end SmFin
end
section
section SmMet
variable {base : Nat} {ct : Nat → ClassId} {tt : Nat → Nat} {D : va_G} {S : sm_C} {M : sm_M} {d : Nat} {p : Program} {l : Launch} {e : Env} {R : Room} {s : State} {m : MethodId} {args : Array Value} {below : List Frame} {meth : Method} {c : Code} {Q : State → Prop}
variable {z z' : sm_Z} {P : Nat → sm_M}
variable {rec : Nat → Nat → Nat → List Value → List Value → sm_W → Nat × Nat → Option sm_Z} {jmp : Nat → sm_V → List Value → sm_W → Nat × Nat → Option sm_Z} {fall : Nat}
theorem sm_isI_of {r : Option FieldType} (h : sm_isI r = true) : r = some .int ∨ r = some .boolean := by
  unfold sm_isI at h
  split at h
  · exact Or.inl rfl
  · exact Or.inr rfl
  · cases h
theorem sm_isO_of {r : Option FieldType} (h : sm_isO r = true) : ∃ n, r = some (.object n) := by
  unfold sm_isO at h
  split at h
  · exact ⟨_, rfl⟩
  · cases h
set_option maxHeartbeats 8000000 in
theorem sm_blk_ok (cf : sm_CF) (okP : ∀ f, sm_OK P (P f)) (hX : sm_X base ct tt D S M d p R s m args meth c) (hr : sm_Hr base ct tt D S P l rec) (he : sm_end base ct tt D M p l e R s m args below meth c Q z) (hj : ∀ (b : Nat) (lv : sm_V) (st : List Value) (w : sm_W) (cs : Nat × Nat) (B : sm_B), (sm_blks M)[b]? = some B → jmp b lv st w cs = some z → sm_TW base ct tt D M p l e R s m args below meth c Q B.1 lv st w cs) :
    ∀ (is : List (Instr × List Nat)) (pc : Nat) (lv : sm_V) (st : List Value) (w : sm_W) (cs : Nat × Nat), sm_okL P M fall is pc = true → sm_blk P S rec jmp d M fall is lv st w cs = some z → sm_TW base ct tt D M p l e R s m args below meth c Q pc lv st w cs := by
  intro is
  induction is with
  | nil =>
    intro pc lv st w cs ok h
    have ok : sm_tg M pc 0 fall = true := ok
    obtain ⟨B, hB, e1⟩ := sm_tg_of ok
    have e2 : pc = B.1 := by omega
    rw [e2]
    exact hj _ _ _ _ _ B hB h
  | cons q is ih =>
    obtain ⟨i, ops⟩ := q
    intro pc lv st w cs ok h
    cases i with
    | goto off =>
      have ok : (sm_dec M pc (.goto off) && sm_tg M pc off (ops.getD 0 0)) = true := ok
      simp only [Bool.and_eq_true] at ok
      obtain ⟨B, hB, e1⟩ := sm_tg_of ok.2
      exact fun H locs ls hl hP hS hz hn hcs => lv_goto hX.1 hX.2.1 (sm_dec_of ok.1) e1 (hj _ _ _ _ _ B hB h H locs ls hl hP hS hz hn hcs)
    | ifCond c' off =>
      have ok : (sm_dec M pc (.ifCond c' off) && sm_tg M pc off (ops.getD 0 0) && sm_tg M pc 3 (ops.getD 1 0)) = true := ok
      simp only [Bool.and_eq_true] at ok
      obtain ⟨B, hB, e1⟩ := sm_tg_of ok.1.2
      obtain ⟨B', hB', e2⟩ := sm_tg_of ok.2
      exact sm_b1_ok hX (sm_dec_of ok.1.1) e1 e2 (fun r h => hj _ _ _ _ _ B hB h) (fun r h => hj _ _ _ _ _ B' hB' h) h
    | if_icmp c' off =>
      have ok : (sm_dec M pc (.if_icmp c' off) && sm_tg M pc off (ops.getD 0 0) && sm_tg M pc 3 (ops.getD 1 0)) = true := ok
      simp only [Bool.and_eq_true] at ok
      obtain ⟨B, hB, e1⟩ := sm_tg_of ok.1.2
      obtain ⟨B', hB', e2⟩ := sm_tg_of ok.2
      exact sm_b2_ok hX (sm_dec_of ok.1.1) e1 e2 (fun r h => hj _ _ _ _ _ B hB h) (fun r h => hj _ _ _ _ _ B' hB' h) h
    | ifnull off =>
      have ok : (sm_dec M pc (.ifnull off) && sm_tg M pc off (ops.getD 0 0) && sm_tg M pc 3 (ops.getD 1 0)) = true := ok
      simp only [Bool.and_eq_true] at ok
      obtain ⟨B, hB, e1⟩ := sm_tg_of ok.1.2
      obtain ⟨B', hB', e2⟩ := sm_tg_of ok.2
      exact sm_bnull_ok hX (sm_dec_of ok.1.1) e1 e2 (fun r h => hj _ _ _ _ _ B hB h) (fun r h => hj _ _ _ _ _ B' hB' h) h
    | ifnonnull off =>
      have ok : (sm_dec M pc (.ifnonnull off) && sm_tg M pc off (ops.getD 0 0) && sm_tg M pc 3 (ops.getD 1 0)) = true := ok
      simp only [Bool.and_eq_true] at ok
      obtain ⟨B, hB, e1⟩ := sm_tg_of ok.1.2
      obtain ⟨B', hB', e2⟩ := sm_tg_of ok.2
      exact sm_bnon_ok hX (sm_dec_of ok.1.1) e1 e2 (fun r h => hj _ _ _ _ _ B' hB' h) (fun r h => hj _ _ _ _ _ B hB h) h
    | tableswitch df lo hi offs =>
      unfold sm_okL sm_okI at ok
      simp only [Bool.and_eq_true, decide_eq_true_eq] at ok
      obtain ⟨⟨⟨o1, o2⟩, o3⟩, o4⟩ := ok
      obtain ⟨len, hd⟩ : ∃ len, decode M.2.1 pc = .ok (.tableswitch df lo hi offs, len) := by
        split at o1
        · next j len e => exact ⟨len, by rw [← of_decide_eq_true o1]; exact e⟩
        · cases o1
      obtain ⟨t1, t2⟩ := sm_tgs_of o3
      unfold sm_blk at h
      dsimp only at h
      split at h
      · next x r =>
        rcases sm_sw_or h with ⟨j, b, h1, h2, h3⟩ | ⟨h1, h2⟩
        · obtain ⟨o, ho1, ho2⟩ := t2 j b h1
          obtain ⟨B, hB, e1⟩ := sm_tg_of ho2
          have hjl : j < offs.toList.length := sm_lt ho1
          refine fun H locs ls hl hP hS hz hn hcs => lv_tableIn hX.1 hX.2.1 hd (off := o) (by omega) (by omega) ?_ e1 (hj _ _ _ _ _ B hB h3 H locs ls hl hP hS hz hn hcs)
          have e5 : (x.toInt - lo).toNat = j := by omega
          rw [e5, ← Array.getElem?_toList]
          exact ho1
        · obtain ⟨B, hB, e1⟩ := sm_tg_of o2
          refine fun H locs ls hl hP hS hz hn hcs => lv_tableOut hX.1 hX.2.1 hd ?_ e1 (hj _ _ _ _ _ B hB h2 H locs ls hl hP hS hz hn hcs)
          rcases Int.lt_or_le x.toInt lo with q | q
          · exact Or.inl q
          · refine Or.inr ?_
            rcases Int.lt_or_le hi x.toInt with q2 | q2
            · exact q2
            · exact absurd (show x.toInt = lo + ((x.toInt - lo).toNat : Int) by omega) (h1 (x.toInt - lo).toNat (by rw [t1]; omega))
      · cases h
    | lookupswitch df ps =>
      unfold sm_okL sm_okI at ok
      simp only [Bool.and_eq_true] at ok
      obtain ⟨⟨⟨o1, o2⟩, o3⟩, o4⟩ := ok
      obtain ⟨len, hd⟩ : ∃ len, decode M.2.1 pc = .ok (.lookupswitch df ps, len) := by
        split at o1
        · next j len e => exact ⟨len, by rw [← of_decide_eq_true o1]; exact e⟩
        · cases o1
      obtain ⟨t1, t2⟩ := sm_tgs_of o3
      unfold sm_blk at h
      dsimp only at h
      split at h
      · next x r =>
        rcases sm_lo_or (df := df) h with ⟨j, b, q, h1, h2, h3, h4⟩ | ⟨h1, h2⟩
        · obtain ⟨o, ho1, ho2⟩ := t2 j b h1
          obtain ⟨B, hB, e1⟩ := sm_tg_of ho2
          have e5 : q.2 = o := by
            rw [List.getElem?_map, h2] at ho1
            exact Option.some.inj ho1
          exact fun H locs ls hl hP hS hz hn hcs => lv_lookup hX.1 hX.2.1 hd o4 (h3.trans e5) e1 (hj _ _ _ _ _ B hB h4 H locs ls hl hP hS hz hn hcs)
        · obtain ⟨B, hB, e1⟩ := sm_tg_of o2
          exact fun H locs ls hl hP hS hz hn hcs => lv_lookup hX.1 hX.2.1 hd o4 h1 e1 (hj _ _ _ _ _ B hB h2 H locs ls hl hP hS hz hn hcs)
      · cases h
    | ireturn =>
      have ok : (sm_dec M pc .ireturn && sm_isI M.2.2.2.1) = true := ok
      simp only [Bool.and_eq_true] at ok
      unfold sm_blk at h
      dsimp only at h
      split at h
      · next x =>
        split at h
        · next hc =>
          subst hc
          have hx : z = (some (.int x), w) ∧ (M.2.2.2.1 = some .int ∨ (M.2.2.2.1 = some .boolean ∧ (x = 0 ∨ x = 1))) := by
            rcases sm_isI_of ok.2 with q | q
            · rw [q] at h; cases h; exact ⟨rfl, Or.inl q⟩
            · rw [q] at h
              have h : (if x = 0 ∨ x = 1 then some (some (Value.int x), w) else none) = some z := h
              split at h
              · next hx => cases h; exact ⟨rfl, Or.inr ⟨q, hx⟩⟩
              · cases h
          obtain ⟨rfl, hq⟩ := hx
          exact fun H locs ls hl hP hS hz hn hcs => he H locs pc ls .ireturn (sm_dec_of ok.1) (Or.inl ⟨rfl, x, rfl, hq⟩) hP hS
        · cases h
      · cases h
    | lreturn =>
      have ok : (sm_dec M pc .lreturn && decide (M.2.2.2.1 = some .long)) = true := ok
      simp only [Bool.and_eq_true, decide_eq_true_eq] at ok
      unfold sm_blk at h
      dsimp only at h
      split at h
      · next x =>
        split at h
        · next hc => subst hc; cases h; exact fun H locs ls hl hP hS hz hn hcs => he H locs pc ls .lreturn (sm_dec_of ok.1) (Or.inr (Or.inl ⟨rfl, x, rfl, ok.2⟩)) hP hS
        · cases h
      · cases h
    | areturn =>
      have ok : (sm_dec M pc .areturn && sm_isO M.2.2.2.1) = true := ok
      simp only [Bool.and_eq_true] at ok
      unfold sm_blk at h
      dsimp only at h
      split at h
      · next x =>
        split at h
        · next hc => subst hc; cases h; exact fun H locs ls hl hP hS hz hn hcs => he H locs pc ls .areturn (sm_dec_of ok.1) (Or.inr (Or.inr (Or.inl ⟨rfl, x, rfl, sm_isO_of ok.2⟩))) hP hS
        · cases h
      · cases h
    | return_ =>
      have ok : (sm_dec M pc .return_ && decide (M.2.2.2.1 = none)) = true := ok
      simp only [Bool.and_eq_true, decide_eq_true_eq] at ok
      unfold sm_blk at h
      dsimp only at h
      split at h
      · split at h
        · next hc => subst hc; cases h; exact fun H locs ls hl hP hS hz hn hcs => he H locs pc ls .return_ (sm_dec_of ok.1) (Or.inr (Or.inr (Or.inr ⟨rfl, rfl, ok.2⟩))) hP hS
        · cases h
      · cases h
    | new x =>
      have ok : (sm_dec M pc (.new x) && sm_okN M x (ops.getD 0 0) (ops.getD 1 0) (ops.getD 2 0) (ops.getD 3 0) && sm_okL P M fall is (pc + 3)) = true := ok
      simp only [Bool.and_eq_true] at ok
      unfold sm_blk at h
      dsimp only at h
      split at h
      · cases h
      · next hc => exact sm_k_new (lay := w.1) (me := w.2) cf hX (sm_dec_of ok.1.1) ok.1.2 hc (ih _ _ _ _ _ ok.2 h)
    | newarray at' =>
      have ok : (sm_dec M pc (.newarray at') && sm_okA M at' (ops.getD 0 0) (ops.getD 1 0) && sm_okL P M fall is (pc + 2)) = true := ok
      simp only [Bool.and_eq_true] at ok
      unfold sm_blk at h
      dsimp only at h
      split at h
      · split at h
        · cases h
        · next hc => exact sm_k_newa (lay := w.1) (me := w.2) hX (sm_dec_of ok.1.1) ok.1.2 hc (ih _ _ _ _ _ ok.2 h)
      · cases h
    | _ =>
      rw [sm_blk_else rfl] at h
      have ok := Bool.and_eq_true_iff.mp ok
      have ok1 := Bool.and_eq_true_iff.mp ok.1
      exact sm_else_ok cf okP hX hr (sm_dec_of ok1.1) ok1.2 (fun lv st w cs h => ih _ _ _ _ _ ok.2 h) h
theorem sm_okB (okP : ∀ f, sm_OK P (P f)) {f b : Nat} {B : sm_B} (h : (sm_blks (P f))[b]? = some B) : sm_okL P (P f) B.2.2.1 B.2.2.2 B.1 = true := (sm_okM_of (okP f).1).2.2.2.2 B (List.mem_of_getElem? h)
theorem sm_go_ok {f : Nat} (cf : sm_CF) (okP : ∀ f, sm_OK P (P f)) (hX : sm_X base ct tt D S (P f) d p R s m args meth c) (hr : sm_Hr base ct tt D S P l rec) (he : sm_end base ct tt D (P f) p l e R s m args below meth c Q z)
    (hc : ∀ (b : Nat) (vs st : List Value) (w : sm_W) (cs : Nat × Nat) (B : sm_B) (live : List Nat), (sm_blks (P f))[b]? = some B → B.2.1 = some live → rec d f b vs st w cs = some z → sm_TW base ct tt D (P f) p l e R s m args below meth c Q B.1 (if b = 0 then lv_args 0 vs else live.zip vs) st w cs) :
    ∀ (n : Nat) (b : Nat) (lv : sm_V) (st : List Value) (w : sm_W) (cs : Nat × Nat) (B : sm_B), (sm_blks (P f))[b]? = some B → sm_go P S rec d f (P f) n b lv st w cs = some z → sm_TW base ct tt D (P f) p l e R s m args below meth c Q B.1 lv st w cs := by
  intro n
  induction n with
  | zero => intro b lv st w cs B hB h; cases h
  | succ n ih =>
    intro b lv st w cs B hB h
    unfold sm_go at h
    split at h
    · cases h
    · next hb0 =>
      have hB' : (P f).2.2.2.2.2.2.2.2[b]? = some B := hB
      rw [hB'] at h
      obtain ⟨pcb, lo, fall, is⟩ := B
      cases lo with
      | some live =>
        dsimp only at h
        split at h
        · cases h
        · next vs hvs =>
          have k1 := hc b vs st w cs _ live hB rfl h
          rw [if_neg hb0] at k1
          exact sm_sub (sm_pick_of hvs) k1
      | none =>
        dsimp only at h
        exact sm_blk_ok cf okP hX hr he (fun b lv st w cs B hB h => ih b lv st w cs B hB h) is pcb lv st w cs (sm_okB okP hB) h
/-- what is shown of n rounds of the small machine: in every place where its method may stand -/
def sm_Cn (base : Nat) (ct : Nat → ClassId) (tt : Nat → Nat) (D : va_G) (S : sm_C) (P : Nat → sm_M) (l : Launch) (n : Nat) : Prop :=
  ∀ (d f : Nat) (p : Program) (e : Env) (R : Room) (s : State) (m : MethodId) (args : Array Value) (below : List Frame) (meth : Method) (c : Code) (Q : State → Prop) (z : sm_Z), sm_X base ct tt D S (P f) d p R s m args meth c → sm_end base ct tt D (P f) p l e R s m args below meth c Q z →
    ∀ (b : Nat) (vs st : List Value) (w : sm_W) (cs : Nat × Nat) (B : sm_B) (live : List Nat), (sm_blks (P f))[b]? = some B → B.2.1 = some live → sm_run P S n d f b vs st w cs = some z → sm_TW base ct tt D (P f) p l e R s m args below meth c Q B.1 (if b = 0 then lv_args 0 vs else live.zip vs) st w cs
set_option maxHeartbeats 4000000 in
theorem sm_end_met {f : Nat} (hx : p.tables.exec = Jvm.exec) (hb : c.code = (P f).2.1) (hret : meth.sig.returnType = (P f).2.2.2.1) (hlocks : meth.locks = false) : sm_end base ct tt D (P f) p l e R s m args below meth c (MQ below (sm_Q base ct tt D z) args s (P f).2.2.2.2.2.1 (P f).2.2.2.2.2.2.1 (sm_A base)) z := by
  intro H locs pc ls i hd hq hP hS
  obtain ⟨zv, zw⟩ := z
  rcases hq with ⟨rfl, x, hv, hr⟩ | ⟨rfl, x, hv, hr⟩ | ⟨rfl, x, hv, n, hr⟩ | ⟨rfl, hv, hr⟩
  · have hv : zv = some (.int x) := hv
    subst hv
    rcases hr with hr | ⟨hr, h01⟩
    · exact W.iret hx hb (hret.trans hr) (fun t ht hw => ⟨rfl, by rw [ht]; exact hP, hS.F ht⟩) hS.2.2 hd hlocks
    · exact W.zret hx hb (hret.trans hr) (by rcases h01 with rfl | rfl <;> rfl) (fun t ht hw => ⟨rfl, by rw [ht]; exact hP, hS.F ht⟩) hS.2.2 hd hlocks
  · have hv : zv = some (.long x) := hv
    subst hv
    exact W.lret hx hb (hret.trans hr) (fun t ht hw => ⟨rfl, by rw [ht]; exact hP, hS.F ht⟩) hS.2.2 hd hlocks
  · have hv : zv = some (.ref x) := hv
    subst hv
    exact W.aret hx hb (hret.trans hr) (Or.inl ⟨n, rfl⟩) (Or.inr ⟨_, rfl⟩) (fun t ht hw => ⟨rfl, by rw [ht]; exact hP, hS.F ht⟩) hS.2.2 hd hlocks
  · have hv : zv = none := hv
    subst hv
    exact W.vret hx hb (hret.trans hr) (fun t ht hw => ⟨rfl, by rw [ht]; exact hP, hS.F ht⟩) hS.2.2 hd hlocks
set_option maxHeartbeats 4000000 in
theorem sm_met (okP : ∀ f, sm_OK P (P f)) {n : Nat} (hC : sm_Cn base ct tt D S P l n) : sm_Hr base ct tt D S P l (sm_run P S n) := by
  intro d f as w z hsl hw hrun
  refine ⟨?_, sm_run_len n d f 0 as [] w (0, 0) z hrun⟩
  obtain ⟨g1, -, g7, ⟨B, hB, hB0⟩, -⟩ := sm_okM_of (okP f).1
  refine Met.ofW (cc := (P f).2.1) (maxL := (P f).2.2.1) (ret := (P f).2.2.2.1) g1 rfl ?_
  intro p e s m args below meth c s₁ Bd hml hv
  obtain ⟨rfl, hsz, hw', hP, hG⟩ := hv
  have hts0 := atoms_spec (ws := sm_mw (P f)) Bd.pre
  have hX : sm_X base ct tt D S (P f) d p (sm_rm d (P f)) s m ((as.map (sm_cv base tt)).toArray) meth c :=
    ⟨Bd.exec, Bd.bytes, hml, findClass_of_methodNamed Bd.named, fun u hu => hts0 u (List.mem_cons_of_mem _ hu), fun q => (name_of_methodNamed Bd.named Bd.method).1.trans q, Nat.le_refl _, Nat.le_refl _, Nat.le_refl _, Nat.le_refl _, hG⟩
  have hl := lv_entry (as.map (sm_cv base tt)) (n := (P f).2.2.1) (by rw [sm_sl_len]; exact hsl)
  rw [lg_entry_eq]
  generalize (lg_sl (as.map (sm_cv base tt)) ++ List.replicate ((P f).2.2.1 - (lg_sl (as.map (sm_cv base tt))).length) Slot.unset).toArray = ls at hl ⊢
  rw [sm_args_map] at hl
  have hcut : ∃ live, B.2.1 = some live := by
    cases n with
    | zero => cases hrun
    | succ n =>
      have hrun : sm_F P S (sm_run P S n) d f 0 as [] w (0, 0) = some z := hrun
      unfold sm_F at hrun
      have hB' : (P f).2.2.2.2.2.2.2.2[0]? = some B := hB
      rw [hB'] at hrun
      obtain ⟨pcb, lo, fall, is⟩ := B
      cases lo with
      | some live => exact ⟨live, rfl⟩
      | none => cases hrun
  obtain ⟨live, hlive⟩ := hcut
  have k1 := hC d f p e (sm_rm d (P f)) s m _ below meth c _ z hX (sm_end_met Bd.exec Bd.bytes Bd.returns Bd.notSynchronized) 0 as [] w (0, 0) B live hB hlive hrun
  rw [if_pos rfl, hB0] at k1
  exact k1 s.heap [] ls hl hP va_S.rf (by show s.heap.size + 0 = base + w.1.length; rw [hsz]; rfl) hw ⟨Nat.zero_le _, Nat.zero_le _⟩
theorem sm_run_ok (cf : sm_CF) (okP : ∀ f, sm_OK P (P f)) : ∀ n, sm_Cn base ct tt D S P l n
  | 0 => fun d f p e R s m args below meth c Q z hX he b vs st w cs B live hB hlive h => by cases h
  | n + 1 => fun d f p e R s m args below meth c Q z hX he b vs st w cs B live hB hlive h => by
    have ihn := sm_run_ok cf okP n
    have h : sm_F P S (sm_run P S n) d f b vs st w cs = some z := h
    unfold sm_F at h
    have hB' : (P f).2.2.2.2.2.2.2.2[b]? = some B := hB
    rw [hB'] at h
    obtain ⟨pcb, lo, fall, is⟩ := B
    have hlive : lo = some live := hlive
    subst hlive
    exact sm_blk_ok cf okP hX (sm_met okP ihn) he (fun b lv st w cs B hB h => sm_go_ok cf okP hX (sm_met okP ihn) he (ihn d f p e R s m args below meth c Q z hX he) 64 b lv st w cs B hB h) is pcb _ st w cs (sm_okB okP hB) h
end SmMet
end
section
/-! what must hold ahead for an end: the small machine by conditions -/
def sm_ow (o : sm_O) (k : sm_V → List Value → sm_Y → Prop) : Prop := match o with
  | some q => k q.1 q.2.1 q.2.2
  | none => False
theorem sm_ow_of {o : sm_O} {k : sm_V → List Value → sm_Y → Prop} (h : sm_ow o k) : ∃ q, o = some q ∧ k q.1 q.2.1 q.2.2 := by
  cases o with
  | none => exact h.elim
  | some q => exact ⟨q, rfl, h⟩
def sm_wI (S : sm_C) (lay : List (Nat × Nat)) (m : sm_Y) (st : List Value) (k : List Value → Prop) : Prop := match st with
  | .int i :: .ref p :: r => match lay[p]? with
    | some (1, n) => vp_in i n ∧ k (.int (m.1 p i.toNatClampNeg) :: r)
    | some _ => False
    | none => match sm_sI S p with
      | some q => vp_in i q.1 ∧ k (.int (q.2 i.toNatClampNeg) :: r)
      | none => False
  | _ => False
def sm_wB (lay : List (Nat × Nat)) (m : sm_Y) (st : List Value) (k : List Value → Prop) : Prop := match st with
  | .int i :: .ref p :: r => match lay[p]? with
    | some (2, n) => vp_in i n ∧ k (.int (m.1 p i.toNatClampNeg) :: r)
    | some (3, n) => vp_in i n ∧ k (.int (m.1 p i.toNatClampNeg) :: r)
    | _ => False
  | _ => False
def sm_wL (lay : List (Nat × Nat)) (m : sm_Y) (st : List Value) (k : List Value → Prop) : Prop := match st with
  | .int i :: .ref p :: r => match lay[p]? with
    | some (4, n) => vp_in i n ∧ k (.long (m.2.1 p i.toNatClampNeg) :: r)
    | some _ => False
    | none => match sm_sL p with
      | some q => vp_in i q.1 ∧ k (.long (q.2 i.toNatClampNeg) :: r)
      | none => False
  | _ => False
def sm_wpI (lay : List (Nat × Nat)) (m : sm_Y) (st : List Value) (k : List Value → sm_Y → Prop) : Prop := match st with
  | .int x :: .int i :: .ref p :: r => match lay[p]? with
    | some (1, n) => vp_in i n ∧ k r (sm_up m.1 p i.toNatClampNeg x, m.2)
    | _ => False
  | _ => False
def sm_wpB (lay : List (Nat × Nat)) (m : sm_Y) (st : List Value) (k : List Value → sm_Y → Prop) : Prop := match st with
  | .int x :: .int i :: .ref p :: r => match lay[p]? with
    | some (2, n) => vp_in i n ∧ k r (sm_up m.1 p i.toNatClampNeg (vp_nar .byte x), m.2)
    | some (3, n) => vp_in i n ∧ k r (sm_up m.1 p i.toNatClampNeg (vp_nar .boolean x), m.2)
    | _ => False
  | _ => False
def sm_wpL (lay : List (Nat × Nat)) (m : sm_Y) (st : List Value) (k : List Value → sm_Y → Prop) : Prop := match st with
  | .long x :: .int i :: .ref p :: r => match lay[p]? with
    | some (4, n) => vp_in i n ∧ k r (m.1, sm_up m.2.1 p i.toNatClampNeg x, m.2.2)
    | _ => False
  | _ => False
def sm_g (b : Bool) (A : Prop) : Prop := match b with
  | true => A
  | false => False
theorem sm_g_of {b : Bool} {A : Prop} (h : sm_g b A) : b = true ∧ A := by
  cases b with
  | true => exact ⟨rfl, h⟩
  | false => exact h.elim
def sm_wput (lay : List (Nat × Nat)) (m : sm_Y) (c k : Nat) (st : List Value) (kk : List Value → sm_Y → Prop) : Prop := match st with
  | v :: .ref p :: r => match lay[p]? with
    | some (0, c') => sm_g (decide (c' = c)) (match sm_cd c k, v with
      | 0, .int x => kk r (sm_up m.1 p k x, m.2)
      | 1, .ref q => kk r (m.1, m.2.1, sm_up m.2.2 p k (some q))
      | 1, .null => kk r (m.1, m.2.1, sm_up m.2.2 p k none)
      | 2, .int x => (x = 0 ∨ x = 1) ∧ kk r (sm_up m.1 p k x, m.2)
      | _, _ => False)
    | _ => False
  | _ => False
def sm_wq (f : Int32 → Int32 → Int32) (st : List Value) (k : List Value → Prop) : Prop := match st with
  | .int y :: .int x :: r => ¬ y = 0 ∧ k (.int (f x y) :: r)
  | _ => False
def sm_wcpy (lay : List (Nat × Nat)) (m : sm_Y) (st : List Value) (k : List Value → sm_Y → Prop) : Prop := match st with
  | .int n :: .int dp :: .ref a :: .int sp :: .ref a0 :: r => match lay[a0]?, lay[a]? with
    | some (1, n0), some (1, n1) => sm_g (decide ((r.map fun v => v.category).sum ≤ 8)) ((¬ sp < 0 ∧ ¬ dp < 0 ∧ ¬ n < 0 ∧ sp.toNatClampNeg + n.toNatClampNeg ≤ n0 ∧ dp.toNatClampNeg + n.toNatClampNeg ≤ n1) ∧ k r (sm_row m.1 a (va_cpy (m.1 a0) (m.1 a) sp.toNatClampNeg dp.toNatClampNeg n.toNatClampNeg), m.2))
    | _, _ => False
  | _ => False
def sm_wst4 (ops : List Nat) (lv : sm_V) (lay : List (Nat × Nat)) (m : sm_Y) (st : List Value) (k : sm_V → List Value → sm_Y → Prop) : Prop := match ops with
  | 0 :: _ => sm_wcpy lay m st (fun s m' => k lv s m')
  | ops => sm_ow (sm_st4 ops lv lay m st) k
def sm_oneW (S : sm_C) (nL : Nat) (i : Instr) (ops : List Nat) (lv : sm_V) (st : List Value) (lay : List (Nat × Nat)) (m : sm_Y) (k : sm_V → List Value → sm_Y → Prop) : Prop := match i with
  | .iaload => sm_wI S lay m st (fun s => k lv s m)
  | .baload => sm_wB lay m st (fun s => k lv s m)
  | .laload => sm_wL lay m st (fun s => k lv s m)
  | .iastore => sm_wpI lay m st (fun s m' => k lv s m')
  | .bastore => sm_wpB lay m st (fun s m' => k lv s m')
  | .lastore => sm_wpL lay m st (fun s m' => k lv s m')
  | .putfield _ => sm_wput lay m (ops.getD 0 0) (ops.getD 1 0) st (fun s m' => k lv s m')
  | .idiv => sm_wq (fun x y => x / y) st (fun s => k lv s m)
  | .irem => sm_wq (fun x y => x - x / y * y) st (fun s => k lv s m)
  | .invokestatic _ => sm_wst4 ops lv lay m st k
  | i => sm_ow (sm_one S nL i ops lv st lay m) k
section SmWp
variable {S : sm_C} {nL : Nat} {ops : List Nat} {lv : sm_V} {st : List Value} {lay : List (Nat × Nat)} {m : sm_Y} {k : sm_V → List Value → sm_Y → Prop}
theorem sm_vpn {i : Int32} {n : Nat} (h : vp_in i n) : ¬ (i < 0 ∨ n ≤ i.toNatClampNeg) := h
theorem sm_wI_of {kk : List Value → Prop} (h : sm_wI S lay m st kk) : ∃ s, sm_gI S lay m st = some s ∧ kk s := by
  unfold sm_wI at h
  split at h
  · split at h
    · next e => obtain ⟨h1, h2⟩ := h; exact ⟨_, by simp only [sm_gI, e]; rw [if_neg (sm_vpn h1)], h2⟩
    · exact h.elim
    · next e =>
      split at h
      · next q e2 => obtain ⟨h1, h2⟩ := h; exact ⟨_, by simp only [sm_gI, e, e2]; rw [if_neg (sm_vpn h1)], h2⟩
      · exact h.elim
  · exact h.elim
theorem sm_wB_of {kk : List Value → Prop} (h : sm_wB lay m st kk) : ∃ s, sm_gB lay m st = some s ∧ kk s := by
  unfold sm_wB at h
  split at h
  · split at h
    · next e => obtain ⟨h1, h2⟩ := h; exact ⟨_, by simp only [sm_gB, e]; rw [if_neg (sm_vpn h1)], h2⟩
    · next e => obtain ⟨h1, h2⟩ := h; exact ⟨_, by simp only [sm_gB, e]; rw [if_neg (sm_vpn h1)], h2⟩
    · exact h.elim
  · exact h.elim
theorem sm_wL_of {kk : List Value → Prop} (h : sm_wL lay m st kk) : ∃ s, sm_gL lay m st = some s ∧ kk s := by
  unfold sm_wL at h
  split at h
  · split at h
    · next e => obtain ⟨h1, h2⟩ := h; exact ⟨_, by simp only [sm_gL, e]; rw [if_neg (sm_vpn h1)], h2⟩
    · exact h.elim
    · next e =>
      split at h
      · next q e2 => obtain ⟨h1, h2⟩ := h; exact ⟨_, by simp only [sm_gL, e, e2]; rw [if_neg (sm_vpn h1)], h2⟩
      · exact h.elim
  · exact h.elim
theorem sm_wpI_of {kk : List Value → sm_Y → Prop} (h : sm_wpI lay m st kk) : ∃ s m', sm_pI lv lay m st = some (lv, s, m') ∧ kk s m' := by
  unfold sm_wpI at h
  split at h
  · split at h
    · next e => obtain ⟨h1, h2⟩ := h; exact ⟨_, _, by simp only [sm_pI, e]; rw [if_neg (sm_vpn h1)], h2⟩
    · exact h.elim
  · exact h.elim
theorem sm_wpB_of {kk : List Value → sm_Y → Prop} (h : sm_wpB lay m st kk) : ∃ s m', sm_pB lv lay m st = some (lv, s, m') ∧ kk s m' := by
  unfold sm_wpB at h
  split at h
  · split at h
    · next e => obtain ⟨h1, h2⟩ := h; exact ⟨_, _, by simp only [sm_pB, e]; rw [if_neg (sm_vpn h1)], h2⟩
    · next e => obtain ⟨h1, h2⟩ := h; exact ⟨_, _, by simp only [sm_pB, e]; rw [if_neg (sm_vpn h1)], h2⟩
    · exact h.elim
  · exact h.elim
theorem sm_wpL_of {kk : List Value → sm_Y → Prop} (h : sm_wpL lay m st kk) : ∃ s m', sm_pL lv lay m st = some (lv, s, m') ∧ kk s m' := by
  unfold sm_wpL at h
  split at h
  · split at h
    · next e => obtain ⟨h1, h2⟩ := h; exact ⟨_, _, by simp only [sm_pL, e]; rw [if_neg (sm_vpn h1)], h2⟩
    · exact h.elim
  · exact h.elim
theorem sm_wput_of {c k' : Nat} {kk : List Value → sm_Y → Prop} (h : sm_wput lay m c k' st kk) : ∃ s m', sm_put lv lay m c k' st = some (lv, s, m') ∧ kk s m' := by
  unfold sm_wput at h
  split at h
  · split at h
    · next e =>
      have hh := sm_g_of h
      clear h
      obtain ⟨hc0, h⟩ := hh
      have hc := of_decide_eq_true hc0
      clear hc0
      subst hc
      split at h
      · next e2 => exact ⟨_, _, by simp only [sm_put, e, e2]; rfl, h⟩
      · next e2 => exact ⟨_, _, by simp only [sm_put, e, e2]; rfl, h⟩
      · next e2 => exact ⟨_, _, by simp only [sm_put, e, e2]; rfl, h⟩
      · next e2 => obtain ⟨h1, h2⟩ := h; exact ⟨_, _, by simp only [sm_put, e, e2]; rw [if_pos trivial, if_pos h1], h2⟩
      · exact h.elim
    · exact h.elim
  · exact h.elim
theorem sm_wq_of {f : Int32 → Int32 → Int32} {kk : List Value → Prop} (h : sm_wq f st kk) : ∃ s, sm_iq f st = some s ∧ kk s := by
  unfold sm_wq at h
  split at h
  · obtain ⟨h1, h2⟩ := h; exact ⟨_, by simp only [sm_iq]; rw [if_neg h1], h2⟩
  · exact h.elim
theorem sm_wcpy_of {kk : List Value → sm_Y → Prop} (h : sm_wcpy lay m st kk) : ∃ s m', sm_cpy lv lay m st = some (lv, s, m') ∧ kk s m' := by
  unfold sm_wcpy at h
  split at h
  · split at h
    · next e1 e2 =>
      obtain ⟨h0, ⟨h1, h2, h3, h4, h5⟩, h6⟩ := sm_g_of h
      have h0 := of_decide_eq_true h0
      refine ⟨_, _, ?_, h6⟩
      simp only [sm_cpy, e1, e2]
      rw [if_neg]
      intro q
      rcases q with q | q | q | q | q | q
      · exact h1 q
      · exact h2 q
      · exact h3 q
      · omega
      · omega
      · omega
    · exact h.elim
  · exact h.elim
theorem sm_oneW_of {i : Instr} (h : sm_oneW S nL i ops lv st lay m k) : ∃ q, sm_one S nL i ops lv st lay m = some q ∧ k q.1 q.2.1 q.2.2 := by
  cases i with
  | iaload => obtain ⟨s, h1, h2⟩ := sm_wI_of (kk := fun s => k lv s m) h; exact ⟨(lv, s, m), by show sm_p lv m (sm_gI S lay m st) = _; rw [h1]; rfl, h2⟩
  | baload => obtain ⟨s, h1, h2⟩ := sm_wB_of (kk := fun s => k lv s m) h; exact ⟨(lv, s, m), by show sm_p lv m (sm_gB lay m st) = _; rw [h1]; rfl, h2⟩
  | laload => obtain ⟨s, h1, h2⟩ := sm_wL_of (kk := fun s => k lv s m) h; exact ⟨(lv, s, m), by show sm_p lv m (sm_gL lay m st) = _; rw [h1]; rfl, h2⟩
  | iastore => obtain ⟨s, m', h1, h2⟩ := sm_wpI_of (lv := lv) h; exact ⟨(lv, s, m'), h1, h2⟩
  | bastore => obtain ⟨s, m', h1, h2⟩ := sm_wpB_of (lv := lv) h; exact ⟨(lv, s, m'), h1, h2⟩
  | lastore => obtain ⟨s, m', h1, h2⟩ := sm_wpL_of (lv := lv) h; exact ⟨(lv, s, m'), h1, h2⟩
  | putfield x => obtain ⟨s, m', h1, h2⟩ := sm_wput_of (lv := lv) h; exact ⟨(lv, s, m'), h1, h2⟩
  | idiv => obtain ⟨s, h1, h2⟩ := sm_wq_of (f := fun x y => x / y) (kk := fun s => k lv s m) h; exact ⟨(lv, s, m), by show sm_p lv m (sm_iq (fun x y => x / y) st) = _; rw [h1]; rfl, h2⟩
  | irem => obtain ⟨s, h1, h2⟩ := sm_wq_of (f := fun x y => x - x / y * y) (kk := fun s => k lv s m) h; exact ⟨(lv, s, m), by show sm_p lv m (sm_iq (fun x y => x - x / y * y) st) = _; rw [h1]; rfl, h2⟩
  | invokestatic x =>
    have h : sm_wst4 ops lv lay m st k := h
    show ∃ q, sm_st4 ops lv lay m st = some q ∧ k q.1 q.2.1 q.2.2
    unfold sm_wst4 at h
    split at h
    · obtain ⟨s, m', h1, h2⟩ := sm_wcpy_of (lv := lv) h; exact ⟨(lv, s, m'), h1, h2⟩
    · exact sm_ow_of h
  | _ => exact sm_ow_of h
end SmWp
/-! more rounds change nothing -/
section SmMono
variable {P : Nat → sm_M} {S : sm_C} {rec rec' : Nat → Nat → Nat → List Value → List Value → sm_W → Nat × Nat → Option sm_Z} {jmp jmp' : Nat → sm_V → List Value → sm_W → Nat × Nat → Option sm_Z} {d fall : Nat} {M : sm_M} {z : sm_Z}
theorem sm_b1_mono {α : Type} {z : α} {st : List Value} {a b a' b' : List Value → Option α} {c : ClassFile.Cond} (ha : ∀ r, a r = some z → a' r = some z) (hb : ∀ r, b r = some z → b' r = some z) (h : sm_b1 c st a b = some z) : sm_b1 c st a' b' = some z := by
  unfold sm_b1 at h ⊢
  split at h
  · cases c <;> (dsimp only at h ⊢; split at h <;> rename_i hc <;> first | (rw [if_pos hc]; first | exact ha _ h | exact hb _ h) | (rw [if_neg hc]; first | exact ha _ h | exact hb _ h))
  · cases h
theorem sm_b2_mono {α : Type} {z : α} {st : List Value} {a b a' b' : List Value → Option α} {c : ClassFile.Cond} (ha : ∀ r, a r = some z → a' r = some z) (hb : ∀ r, b r = some z → b' r = some z) (h : sm_b2 c st a b = some z) : sm_b2 c st a' b' = some z := by
  unfold sm_b2 at h ⊢
  split at h
  · cases c <;> (dsimp only at h ⊢; split at h <;> rename_i hc <;> first | (rw [if_pos hc]; first | exact ha _ h | exact hb _ h) | (rw [if_neg hc]; first | exact ha _ h | exact hb _ h))
  · cases h
theorem sm_bn_mono {α : Type} {z : α} {st : List Value} {a b a' b' : List Value → Option α} (ha : ∀ r, a r = some z → a' r = some z) (hb : ∀ r, b r = some z → b' r = some z) (h : sm_bn st a b = some z) : sm_bn st a' b' = some z := by
  unfold sm_bn at h ⊢
  split at h
  · exact ha _ h
  · exact hb _ h
  · cases h
theorem sm_sw_mono {α : Type} {z : α} {x : Int32} {k k' : Nat → Option α} {d : Nat} (hk : ∀ b, k b = some z → k' b = some z) : ∀ (bs : List Nat) (v : Int), sm_sw x k d v bs = some z → sm_sw x k' d v bs = some z
  | [], v, h => hk _ h
  | b :: r, v, h => by
    unfold sm_sw at h ⊢
    split at h
    · next e => rw [if_pos e]; exact hk _ h
    · next e => rw [if_neg e]; exact sm_sw_mono hk r (v + 1) h
theorem sm_lo_mono {α : Type} {z : α} {x : Int32} {k k' : Nat → Option α} {d : Nat} (hk : ∀ b, k b = some z → k' b = some z) : ∀ (vs : List (Int × Int)) (bs : List Nat), sm_lo x k d vs bs = some z → sm_lo x k' d vs bs = some z
  | [], bs, h => by cases bs <;> exact hk _ h
  | v :: vs, [], h => by cases h
  | v :: vs, b :: r, h => by
    unfold sm_lo at h ⊢
    split at h
    · next e => rw [if_pos e]; exact hk _ h
    · next e => rw [if_neg e]; exact sm_lo_mono hk vs r h
theorem sm_else_mono {i : Instr} {ops : List Nat} {lv : sm_V} {st : List Value} {w : sm_W} {cs : Nat × Nat} {k k' : sm_V → List Value → sm_W → Nat × Nat → Option sm_Z} (hr : ∀ d' g b as st w cs z', rec d' g b as st w cs = some z' → rec' d' g b as st w cs = some z') (hk : ∀ lv st w cs, k lv st w cs = some z → k' lv st w cs = some z) (h : sm_else P S rec d M i ops lv st w cs k = some z) : sm_else P S rec' d M i ops lv st w cs k' = some z := by
  unfold sm_else at h ⊢
  split at h
  · split at h
    · cases h
    · unfold sm_inv at h ⊢
      split at h
      · cases h
      · next hc =>
        dsimp only
        rw [if_neg hc]
        split at h
        · cases h
        · next z' e => rw [hr _ _ _ _ _ _ _ _ e]; exact hk _ _ _ _ h
  · split at h
    · exact hk _ _ _ _ h
    · cases h
set_option maxHeartbeats 4000000 in
theorem sm_blk_mono (hr : ∀ d' g b as st w cs z', rec d' g b as st w cs = some z' → rec' d' g b as st w cs = some z') (hj : ∀ b lv st w cs, jmp b lv st w cs = some z → jmp' b lv st w cs = some z) : ∀ (is : List (Instr × List Nat)) (lv : sm_V) (st : List Value) (w : sm_W) (cs : Nat × Nat), sm_blk P S rec jmp d M fall is lv st w cs = some z → sm_blk P S rec' jmp' d M fall is lv st w cs = some z := by
  intro is
  induction is with
  | nil => intro lv st w cs h; exact hj _ _ _ _ _ h
  | cons q is ih =>
    obtain ⟨i, ops⟩ := q
    intro lv st w cs h
    cases i with
    | goto off => exact hj _ _ _ _ _ h
    | ifCond c off => exact sm_b1_mono (fun r h => hj _ _ _ _ _ h) (fun r h => hj _ _ _ _ _ h) h
    | if_icmp c off => exact sm_b2_mono (fun r h => hj _ _ _ _ _ h) (fun r h => hj _ _ _ _ _ h) h
    | ifnull off => exact sm_bn_mono (fun r h => hj _ _ _ _ _ h) (fun r h => hj _ _ _ _ _ h) h
    | ifnonnull off => exact sm_bn_mono (fun r h => hj _ _ _ _ _ h) (fun r h => hj _ _ _ _ _ h) h
    | tableswitch df lo hi offs =>
      unfold sm_blk at h ⊢
      dsimp only at h ⊢
      split at h
      · exact sm_sw_mono (fun b h => hj _ _ _ _ _ h) _ _ h
      · cases h
    | lookupswitch df ps =>
      unfold sm_blk at h ⊢
      dsimp only at h ⊢
      split at h
      · exact sm_lo_mono (fun b h => hj _ _ _ _ _ h) _ _ h
      · cases h
    | ireturn => exact h
    | lreturn => exact h
    | areturn => exact h
    | return_ => exact h
    | new x =>
      unfold sm_blk at h ⊢
      dsimp only at h ⊢
      split at h
      · cases h
      · next hc => rw [if_neg hc]; exact ih _ _ _ _ h
    | newarray at' =>
      unfold sm_blk at h ⊢
      dsimp only at h ⊢
      split at h
      · split at h
        · cases h
        · next hc => rw [if_neg hc]; exact ih _ _ _ _ h
      · cases h
    | _ => rw [sm_blk_else rfl] at h ⊢; exact sm_else_mono hr ih h
theorem sm_go_mono {f : Nat} (hr : ∀ d' g b as st w cs z', rec d' g b as st w cs = some z' → rec' d' g b as st w cs = some z') : ∀ (n : Nat) (b : Nat) (lv : sm_V) (st : List Value) (w : sm_W) (cs : Nat × Nat), sm_go P S rec d f M n b lv st w cs = some z → sm_go P S rec' d f M n b lv st w cs = some z := by
  intro n
  induction n with
  | zero => intro b lv st w cs h; cases h
  | succ n ih =>
    intro b lv st w cs h
    unfold sm_go at h ⊢
    split at h
    · cases h
    · next hb =>
      rw [if_neg hb]
      split at h
      · cases h
      · split at h
        · cases h
        · exact hr _ _ _ _ _ _ _ _ h
      · exact sm_blk_mono hr ih _ _ _ _ _ h
theorem sm_run_mono1 : ∀ (n d f b : Nat) (vs st : List Value) (w : sm_W) (cs : Nat × Nat) (z : sm_Z), sm_run P S n d f b vs st w cs = some z → sm_run P S (n + 1) d f b vs st w cs = some z
  | 0, _, _, _, _, _, _, _, _, h => by cases h
  | n + 1, d, f, b, vs, st, w, cs, z, h => by
    have h : sm_F P S (sm_run P S n) d f b vs st w cs = some z := h
    show sm_F P S (sm_run P S (n + 1)) d f b vs st w cs = some z
    unfold sm_F at h ⊢
    split at h
    · exact sm_blk_mono (sm_run_mono1 n) (sm_go_mono (sm_run_mono1 n) 64) _ _ _ _ _ h
    · cases h
theorem sm_run_mono {n n' : Nat} (hn : n ≤ n') {d f b : Nat} {vs st : List Value} {w : sm_W} {cs : Nat × Nat} {z : sm_Z} (h : sm_run P S n d f b vs st w cs = some z) : sm_run P S n' d f b vs st w cs = some z := by
  induction hn with
  | refl => exact h
  | step _ ih => exact sm_run_mono1 _ _ _ _ _ _ _ _ _ ih
end SmMono
end
section
/-- from here the small machine comes to an end with Φ -/
def sm_wp (P : Nat → sm_M) (S : sm_C) (d f b : Nat) (vs st : List Value) (w : sm_W) (cs : Nat × Nat) (Φ : sm_Z → Prop) : Prop := ∃ n z, sm_run P S n d f b vs st w cs = some z ∧ Φ z
def sm_w1 (c : ClassFile.Cond) (st : List Value) (a b : List Value → Prop) : Prop := match st with
  | .int x :: r => match c with
    | .eq => (x = 0 → a r) ∧ (¬ x = 0 → b r)
    | .ne => (x = 0 → b r) ∧ (¬ x = 0 → a r)
    | .lt => (x < 0 → a r) ∧ (¬ x < 0 → b r)
    | .ge => (0 ≤ x → a r) ∧ (¬ 0 ≤ x → b r)
    | .gt => (0 < x → a r) ∧ (¬ 0 < x → b r)
    | .le => (x ≤ 0 → a r) ∧ (¬ x ≤ 0 → b r)
  | _ => False
def sm_w2 (c : ClassFile.Cond) (st : List Value) (a b : List Value → Prop) : Prop := match st with
  | .int y :: .int x :: r => match c with
    | .eq => (x = y → a r) ∧ (¬ x = y → b r)
    | .ne => (x = y → b r) ∧ (¬ x = y → a r)
    | .lt => (x < y → a r) ∧ (¬ x < y → b r)
    | .ge => (y ≤ x → a r) ∧ (¬ y ≤ x → b r)
    | .gt => (y < x → a r) ∧ (¬ y < x → b r)
    | .le => (x ≤ y → a r) ∧ (¬ x ≤ y → b r)
  | _ => False
def sm_wn (st : List Value) (a b : List Value → Prop) : Prop := match st with
  | .null :: r => a r
  | .ref _ :: r => b r
  | _ => False
def sm_wsw (x : Int32) (k : Nat → Prop) (d : Nat) : Int → List Nat → Prop
  | _, [] => k d
  | v, b :: r => (x.toInt = v → k b) ∧ (¬ x.toInt = v → sm_wsw x k d (v + 1) r)
def sm_wlo (x : Int32) (k : Nat → Prop) (d : Nat) : List (Int × Int) → List Nat → Prop
  | [], _ => k d
  | _ :: _, [] => False
  | v :: vs, b :: r => (x.toInt = v.1 → k b) ∧ (¬ x.toInt = v.1 → sm_wlo x k d vs r)
def sm_invW (call : List Value → (sm_Z → Prop) → Prop) (n nL mc ms : Nat) (rc : Bool) (st : List Value) (cs : Nat × Nat) (lim : Nat × Nat) (k : List Value → sm_W → Nat × Nat → Prop) : Prop :=
  sm_g (rc && decide (n ≤ st.length) && decide ((lg_sl (st.take n).reverse).length ≤ nL) && decide (((st.drop n).map fun v => v.category).sum ≤ 8) && decide (cs.1 + mc ≤ lim.1) && decide (cs.2 + ms ≤ lim.2)) (call (st.take n).reverse (fun z => k (z.1.toList ++ st.drop n) z.2 (cs.1 + mc, cs.2 + ms)))
def sm_elseW (P : Nat → sm_M) (S : sm_C) (call : Nat → Nat → List Value → sm_W → (sm_Z → Prop) → Prop) (d : Nat) (M : sm_M) (i : Instr) (ops : List Nat) (lv : sm_V) (st : List Value) (w : sm_W) (cs : Nat × Nat) (k : sm_V → List Value → sm_W → Nat × Nat → Prop) : Prop := match ops with
  | g :: inst :: ci :: _ :: _ :: _ :: _ :: _ => match d with
    | 0 => False
    | d + 1 => sm_invW (fun as => call d g as w) ((P g).2.2.2.2.1 + inst) (P g).2.2.1 (P g).2.2.2.2.2.1 (P g).2.2.2.2.2.2.1 (sm_rc inst ci w.1 st (P g).2.2.2.2.1) st cs (M.2.2.2.2.2.1, M.2.2.2.2.2.2.1) (fun s' w' cs' => k lv s' w' cs')
  | _ => sm_oneW S M.2.2.1 i ops lv st w.1 w.2 (fun lv st m => k lv st (w.1, m) cs)
def sm_blkW (P : Nat → sm_M) (S : sm_C) (call : Nat → Nat → List Value → sm_W → (sm_Z → Prop) → Prop) (jmp : Nat → sm_V → List Value → sm_W → Nat × Nat → Prop) (d : Nat) (M : sm_M) (fall : Nat) (Φ : sm_Z → Prop) : List (Instr × List Nat) → sm_V → List Value → sm_W → Nat × Nat → Prop
  | [], lv, st, w, cs => jmp fall lv st w cs
  | (i, ops) :: is, lv, st, w, cs => match i with
    | .goto _ => jmp (ops.getD 0 0) lv st w cs
    | .ifCond c _ => sm_w1 c st (fun r => jmp (ops.getD 0 0) lv r w cs) (fun r => jmp (ops.getD 1 0) lv r w cs)
    | .if_icmp c _ => sm_w2 c st (fun r => jmp (ops.getD 0 0) lv r w cs) (fun r => jmp (ops.getD 1 0) lv r w cs)
    | .ifnull _ => sm_wn st (fun r => jmp (ops.getD 0 0) lv r w cs) (fun r => jmp (ops.getD 1 0) lv r w cs)
    | .ifnonnull _ => sm_wn st (fun r => jmp (ops.getD 1 0) lv r w cs) (fun r => jmp (ops.getD 0 0) lv r w cs)
    | .tableswitch _ lo _ _ => match st with
      | .int x :: r => sm_wsw x (fun b => jmp b lv r w cs) (ops.getD 0 0) lo (ops.drop 1)
      | _ => False
    | .lookupswitch _ ps => match st with
      | .int x :: r => sm_wlo x (fun b => jmp b lv r w cs) (ops.getD 0 0) ps.toList (ops.drop 1)
      | _ => False
    | .ireturn => match st with
      | [.int x] => sm_g (decide (cs = (M.2.2.2.2.2.1, M.2.2.2.2.2.2.1))) (match sm_isZ M.2.2.2.1 with
        | true => (x = 0 ∨ x = 1) ∧ Φ (some (.int x), w)
        | false => Φ (some (.int x), w))
      | _ => False
    | .lreturn => match st with
      | [.long x] => sm_g (decide (cs = (M.2.2.2.2.2.1, M.2.2.2.2.2.2.1))) (Φ (some (.long x), w))
      | _ => False
    | .areturn => match st with
      | [.ref x] => sm_g (decide (cs = (M.2.2.2.2.2.1, M.2.2.2.2.2.2.1))) (Φ (some (.ref x), w))
      | _ => False
    | .return_ => match st with
      | [] => sm_g (decide (cs = (M.2.2.2.2.2.1, M.2.2.2.2.2.2.1))) (Φ (none, w))
      | _ => False
    | .new _ => sm_g (decide (w.1.length < 1000) && decide (cs.1 + 1 ≤ M.2.2.2.2.2.1) && decide (cs.2 + sm_N (ops.getD 0 0) ≤ M.2.2.2.2.2.2.1))
        (sm_blkW P S call jmp d M fall Φ is lv (.ref w.1.length :: st) (w.1 ++ [(0, ops.getD 0 0)], sm_row w.2.1 w.1.length (fun _ => 0), w.2.2.1, sm_row w.2.2.2 w.1.length (fun _ => none)) (cs.1 + 1, cs.2 + sm_N (ops.getD 0 0)))
    | .newarray _ => match st with
      | .int n :: r => sm_g (decide (¬ n < 0) && decide (n.toNatClampNeg ≤ 100000) && decide (w.1.length < 1000) && decide (cs.1 + 1 ≤ M.2.2.2.2.2.1) && decide (cs.2 + n.toNatClampNeg ≤ M.2.2.2.2.2.2.1))
        (sm_blkW P S call jmp d M fall Φ is lv (.ref w.1.length :: r) (w.1 ++ [(ops.getD 0 0 + 1, n.toNatClampNeg)], sm_row w.2.1 w.1.length (fun _ => 0), sm_row w.2.2.1 w.1.length (fun _ => 0), w.2.2.2) (cs.1 + 1, cs.2 + n.toNatClampNeg))
      | _ => False
    | i => sm_elseW P S call d M i ops lv st w cs (fun lv st w cs => sm_blkW P S call jmp d M fall Φ is lv st w cs)
def sm_cl (P : Nat → sm_M) (S : sm_C) (d' g : Nat) (as : List Value) (w : sm_W) (Ψ : sm_Z → Prop) : Prop := sm_wp P S d' g 0 as [] w (0, 0) Ψ
def sm_goW (P : Nat → sm_M) (S : sm_C) (d f : Nat) (M : sm_M) (Φ : sm_Z → Prop) : Nat → Nat → sm_V → List Value → sm_W → Nat × Nat → Prop
  | 0, _, _, _, _, _ => False
  | n + 1, b, lv, st, w, cs => sm_g (decide (¬ b = 0)) (match M.2.2.2.2.2.2.2.2[b]? with
    | none => False
    | some (_, some live, _, _) => match sm_pick live lv with
      | none => False
      | some vs => sm_wp P S d f b vs st w cs Φ
    | some (_, none, fall, is) => sm_blkW P S (sm_cl P S) (sm_goW P S d f M Φ n) d M fall Φ is lv st w cs)
def sm_FW (P : Nat → sm_M) (S : sm_C) (d f b : Nat) (vs st : List Value) (w : sm_W) (cs : Nat × Nat) (Φ : sm_Z → Prop) : Prop := match (P f).2.2.2.2.2.2.2.2[b]? with
  | some (_, some live, fall, is) => sm_blkW P S (sm_cl P S) (sm_goW P S d f (P f) Φ 64) d (P f) fall Φ is (if b = 0 then lv_args 0 vs else live.zip vs) st w cs
  | _ => False
section SmRules
variable {P : Nat → sm_M} {S : sm_C} {d f fall : Nat} {M : sm_M} {Φ : sm_Z → Prop} {jmp : Nat → sm_V → List Value → sm_W → Nat × Nat → Prop} {J : Nat → Nat → sm_V → List Value → sm_W → Nat × Nat → Option sm_Z}
/-- from some number of rounds on it has come to an end with Φ -/
def sm_ev (F : Nat → Option sm_Z) (Φ : sm_Z → Prop) : Prop := ∃ N z, Φ z ∧ ∀ n, N ≤ n → F n = some z
theorem sm_ev_wp {d f b : Nat} {vs st : List Value} {w : sm_W} {cs : Nat × Nat} (h : sm_wp P S d f b vs st w cs Φ) : sm_ev (fun n => sm_run P S n d f b vs st w cs) Φ := by
  obtain ⟨n, z, h1, h2⟩ := h
  exact ⟨n, z, h2, fun n' hn => sm_run_mono hn h1⟩
theorem sm_w1_of {c : ClassFile.Cond} {st : List Value} {a b : List Value → Prop} {A B : List Value → Nat → Option sm_Z} (ha : ∀ r, a r → sm_ev (A r) Φ) (hb : ∀ r, b r → sm_ev (B r) Φ) (h : sm_w1 c st a b) : sm_ev (fun n => sm_b1 c st (fun r => A r n) (fun r => B r n)) Φ := by
  unfold sm_w1 at h
  split at h
  · next x r =>
    cases c <;> dsimp only at h <;> obtain ⟨h1, h2⟩ := h
    · by_cases q : x = 0
      · obtain ⟨N, z, k1, k2⟩ := ha r (h1 q); exact ⟨N, z, k1, fun n hn => by show (if x = 0 then _ else _) = _; rw [if_pos q]; exact k2 n hn⟩
      · obtain ⟨N, z, k1, k2⟩ := hb r (h2 q); exact ⟨N, z, k1, fun n hn => by show (if x = 0 then _ else _) = _; rw [if_neg q]; exact k2 n hn⟩
    · by_cases q : x = 0
      · obtain ⟨N, z, k1, k2⟩ := hb r (h1 q); exact ⟨N, z, k1, fun n hn => by show (if x = 0 then _ else _) = _; rw [if_pos q]; exact k2 n hn⟩
      · obtain ⟨N, z, k1, k2⟩ := ha r (h2 q); exact ⟨N, z, k1, fun n hn => by show (if x = 0 then _ else _) = _; rw [if_neg q]; exact k2 n hn⟩
    · by_cases q : x < 0
      · obtain ⟨N, z, k1, k2⟩ := ha r (h1 q); exact ⟨N, z, k1, fun n hn => by show (if x < 0 then _ else _) = _; rw [if_pos q]; exact k2 n hn⟩
      · obtain ⟨N, z, k1, k2⟩ := hb r (h2 q); exact ⟨N, z, k1, fun n hn => by show (if x < 0 then _ else _) = _; rw [if_neg q]; exact k2 n hn⟩
    · by_cases q : 0 ≤ x
      · obtain ⟨N, z, k1, k2⟩ := ha r (h1 q); exact ⟨N, z, k1, fun n hn => by show (if 0 ≤ x then _ else _) = _; rw [if_pos q]; exact k2 n hn⟩
      · obtain ⟨N, z, k1, k2⟩ := hb r (h2 q); exact ⟨N, z, k1, fun n hn => by show (if 0 ≤ x then _ else _) = _; rw [if_neg q]; exact k2 n hn⟩
    · by_cases q : 0 < x
      · obtain ⟨N, z, k1, k2⟩ := ha r (h1 q); exact ⟨N, z, k1, fun n hn => by show (if 0 < x then _ else _) = _; rw [if_pos q]; exact k2 n hn⟩
      · obtain ⟨N, z, k1, k2⟩ := hb r (h2 q); exact ⟨N, z, k1, fun n hn => by show (if 0 < x then _ else _) = _; rw [if_neg q]; exact k2 n hn⟩
    · by_cases q : x ≤ 0
      · obtain ⟨N, z, k1, k2⟩ := ha r (h1 q); exact ⟨N, z, k1, fun n hn => by show (if x ≤ 0 then _ else _) = _; rw [if_pos q]; exact k2 n hn⟩
      · obtain ⟨N, z, k1, k2⟩ := hb r (h2 q); exact ⟨N, z, k1, fun n hn => by show (if x ≤ 0 then _ else _) = _; rw [if_neg q]; exact k2 n hn⟩
  · exact h.elim
theorem sm_w2_of {c : ClassFile.Cond} {st : List Value} {a b : List Value → Prop} {A B : List Value → Nat → Option sm_Z} (ha : ∀ r, a r → sm_ev (A r) Φ) (hb : ∀ r, b r → sm_ev (B r) Φ) (h : sm_w2 c st a b) : sm_ev (fun n => sm_b2 c st (fun r => A r n) (fun r => B r n)) Φ := by
  unfold sm_w2 at h
  split at h
  · next y x r =>
    cases c <;> dsimp only at h <;> obtain ⟨h1, h2⟩ := h
    · by_cases q : x = y
      · obtain ⟨N, z, k1, k2⟩ := ha r (h1 q); exact ⟨N, z, k1, fun n hn => by show (if x = y then _ else _) = _; rw [if_pos q]; exact k2 n hn⟩
      · obtain ⟨N, z, k1, k2⟩ := hb r (h2 q); exact ⟨N, z, k1, fun n hn => by show (if x = y then _ else _) = _; rw [if_neg q]; exact k2 n hn⟩
    · by_cases q : x = y
      · obtain ⟨N, z, k1, k2⟩ := hb r (h1 q); exact ⟨N, z, k1, fun n hn => by show (if x = y then _ else _) = _; rw [if_pos q]; exact k2 n hn⟩
      · obtain ⟨N, z, k1, k2⟩ := ha r (h2 q); exact ⟨N, z, k1, fun n hn => by show (if x = y then _ else _) = _; rw [if_neg q]; exact k2 n hn⟩
    · by_cases q : x < y
      · obtain ⟨N, z, k1, k2⟩ := ha r (h1 q); exact ⟨N, z, k1, fun n hn => by show (if x < y then _ else _) = _; rw [if_pos q]; exact k2 n hn⟩
      · obtain ⟨N, z, k1, k2⟩ := hb r (h2 q); exact ⟨N, z, k1, fun n hn => by show (if x < y then _ else _) = _; rw [if_neg q]; exact k2 n hn⟩
    · by_cases q : y ≤ x
      · obtain ⟨N, z, k1, k2⟩ := ha r (h1 q); exact ⟨N, z, k1, fun n hn => by show (if y ≤ x then _ else _) = _; rw [if_pos q]; exact k2 n hn⟩
      · obtain ⟨N, z, k1, k2⟩ := hb r (h2 q); exact ⟨N, z, k1, fun n hn => by show (if y ≤ x then _ else _) = _; rw [if_neg q]; exact k2 n hn⟩
    · by_cases q : y < x
      · obtain ⟨N, z, k1, k2⟩ := ha r (h1 q); exact ⟨N, z, k1, fun n hn => by show (if y < x then _ else _) = _; rw [if_pos q]; exact k2 n hn⟩
      · obtain ⟨N, z, k1, k2⟩ := hb r (h2 q); exact ⟨N, z, k1, fun n hn => by show (if y < x then _ else _) = _; rw [if_neg q]; exact k2 n hn⟩
    · by_cases q : x ≤ y
      · obtain ⟨N, z, k1, k2⟩ := ha r (h1 q); exact ⟨N, z, k1, fun n hn => by show (if x ≤ y then _ else _) = _; rw [if_pos q]; exact k2 n hn⟩
      · obtain ⟨N, z, k1, k2⟩ := hb r (h2 q); exact ⟨N, z, k1, fun n hn => by show (if x ≤ y then _ else _) = _; rw [if_neg q]; exact k2 n hn⟩
  · exact h.elim
theorem sm_wn_of {st : List Value} {a b : List Value → Prop} {A B : List Value → Nat → Option sm_Z} (ha : ∀ r, a r → sm_ev (A r) Φ) (hb : ∀ r, b r → sm_ev (B r) Φ) (h : sm_wn st a b) : sm_ev (fun n => sm_bn st (fun r => A r n) (fun r => B r n)) Φ := by
  unfold sm_wn at h
  split at h
  · exact ha _ h
  · exact hb _ h
  · exact h.elim
theorem sm_wsw_of {x : Int32} {k : Nat → Prop} {K : Nat → Nat → Option sm_Z} {d : Nat} (hk : ∀ b, k b → sm_ev (K b) Φ) : ∀ (bs : List Nat) (v : Int), sm_wsw x k d v bs → sm_ev (fun n => sm_sw x (fun b => K b n) d v bs) Φ
  | [], v, h => hk _ h
  | b :: r, v, h => by
    obtain ⟨h1, h2⟩ := h
    by_cases q : x.toInt = v
    · obtain ⟨N, z, k1, k2⟩ := hk b (h1 q); exact ⟨N, z, k1, fun n hn => by show (if x.toInt = v then _ else _) = _; rw [if_pos q]; exact k2 n hn⟩
    · obtain ⟨N, z, k1, k2⟩ := sm_wsw_of hk r (v + 1) (h2 q); exact ⟨N, z, k1, fun n hn => by show (if x.toInt = v then _ else _) = _; rw [if_neg q]; exact k2 n hn⟩
theorem sm_wlo_of {x : Int32} {k : Nat → Prop} {K : Nat → Nat → Option sm_Z} {d : Nat} (hk : ∀ b, k b → sm_ev (K b) Φ) : ∀ (vs : List (Int × Int)) (bs : List Nat), sm_wlo x k d vs bs → sm_ev (fun n => sm_lo x (fun b => K b n) d vs bs) Φ
  | [], bs, h => by cases bs <;> exact hk _ h
  | v :: vs, [], h => h.elim
  | v :: vs, b :: r, h => by
    obtain ⟨h1, h2⟩ := h
    by_cases q : x.toInt = v.1
    · obtain ⟨N, z, k1, k2⟩ := hk b (h1 q); exact ⟨N, z, k1, fun n hn => by show (if x.toInt = v.1 then _ else _) = _; rw [if_pos q]; exact k2 n hn⟩
    · obtain ⟨N, z, k1, k2⟩ := sm_wlo_of hk vs r (h2 q); exact ⟨N, z, k1, fun n hn => by show (if x.toInt = v.1 then _ else _) = _; rw [if_neg q]; exact k2 n hn⟩
theorem sm_elseW_of {i : Instr} {ops : List Nat} {lv : sm_V} {st : List Value} {w : sm_W} {cs : Nat × Nat} {k : sm_V → List Value → sm_W → Nat × Nat → Prop} {K : Nat → sm_V → List Value → sm_W → Nat × Nat → Option sm_Z} (hk : ∀ lv st w cs, k lv st w cs → sm_ev (fun n => K n lv st w cs) Φ) (h : sm_elseW P S (sm_cl P S) d M i ops lv st w cs k) : sm_ev (fun n => sm_else P S (sm_run P S n) d M i ops lv st w cs (K n)) Φ := by
  unfold sm_elseW at h
  split at h
  · next g inst ci a1 a2 a3 a4 r =>
    cases d with
    | zero => exact h.elim
    | succ d =>
      obtain ⟨hg, h⟩ := sm_g_of h
      simp only [Bool.and_eq_true, decide_eq_true_eq] at hg
      obtain ⟨N1, z1, ⟨N2, z2, k1, k2⟩, k3⟩ := sm_ev_wp (Φ := fun z => sm_ev (fun n => K n lv (z.1.toList ++ st.drop ((P g).2.2.2.2.1 + inst)) z.2 (cs.1 + (P g).2.2.2.2.2.1, cs.2 + (P g).2.2.2.2.2.2.1)) Φ) (by
        obtain ⟨n, z, e1, e2⟩ := h
        exact ⟨n, z, e1, hk _ _ _ _ e2⟩)
      refine ⟨max N1 N2, z2, k1, fun n hn => ?_⟩
      show sm_else P S (sm_run P S n) (d + 1) M i (g :: inst :: ci :: a1 :: a2 :: a3 :: a4 :: r) lv st w cs (K n) = some z2
      unfold sm_else
      dsimp only
      unfold sm_inv
      rw [if_neg]
      · have k3' := k3 n (by omega)
        dsimp only at k3' ⊢
        rw [k3']
        exact k2 n (by omega)
      · rintro (q | q | q | q | q | q)
        · rw [hg.1.1.1.1.1] at q; cases q
        · exact absurd hg.1.1.1.1.2 (by omega)
        · exact absurd hg.1.1.1.2 (by omega)
        · exact absurd hg.1.1.2 (by omega)
        · have := hg.1.2; simp only at q this; omega
        · have := hg.2; simp only at q this; omega
  · next hno =>
    obtain ⟨q, e1, e2⟩ := sm_oneW_of h
    obtain ⟨N, z, k1, k2⟩ := hk _ _ _ _ e2
    refine ⟨N, z, k1, fun n hn => ?_⟩
    show sm_else P S (sm_run P S n) d M i ops lv st w cs (K n) = some z
    unfold sm_else
    split
    · next g inst ci a1 a2 a3 a4 r => exact absurd rfl (hno g inst ci a1 a2 a3 a4 r)
    · rw [e1]; exact k2 n hn
theorem sm_blkW_else {call : Nat → Nat → List Value → sm_W → (sm_Z → Prop) → Prop} {i : Instr} {ops : List Nat} {is : List (Instr × List Nat)} {lv : sm_V} {st : List Value} {w : sm_W} {cs : Nat × Nat} (h : sm_isE i = true) : sm_blkW P S call jmp d M fall Φ ((i, ops) :: is) lv st w cs = sm_elseW P S call d M i ops lv st w cs (fun lv st w cs => sm_blkW P S call jmp d M fall Φ is lv st w cs) := by
  cases i <;> first | rfl | cases h
set_option maxHeartbeats 4000000 in
theorem sm_blkW_of (hj : ∀ b lv st w cs, jmp b lv st w cs → sm_ev (fun n => J n b lv st w cs) Φ) : ∀ (is : List (Instr × List Nat)) (lv : sm_V) (st : List Value) (w : sm_W) (cs : Nat × Nat), sm_blkW P S (sm_cl P S) jmp d M fall Φ is lv st w cs → sm_ev (fun n => sm_blk P S (sm_run P S n) (J n) d M fall is lv st w cs) Φ := by
  intro is
  induction is with
  | nil => intro lv st w cs h; exact hj _ _ _ _ _ h
  | cons q is ih =>
    obtain ⟨i, ops⟩ := q
    intro lv st w cs h
    cases i with
    | goto off => exact hj _ _ _ _ _ h
    | ifCond c off => exact sm_w1_of (A := fun r n => J n (ops.getD 0 0) lv r w cs) (B := fun r n => J n (ops.getD 1 0) lv r w cs) (fun r h => hj _ _ _ _ _ h) (fun r h => hj _ _ _ _ _ h) h
    | if_icmp c off => exact sm_w2_of (A := fun r n => J n (ops.getD 0 0) lv r w cs) (B := fun r n => J n (ops.getD 1 0) lv r w cs) (fun r h => hj _ _ _ _ _ h) (fun r h => hj _ _ _ _ _ h) h
    | ifnull off => exact sm_wn_of (A := fun r n => J n (ops.getD 0 0) lv r w cs) (B := fun r n => J n (ops.getD 1 0) lv r w cs) (fun r h => hj _ _ _ _ _ h) (fun r h => hj _ _ _ _ _ h) h
    | ifnonnull off => exact sm_wn_of (A := fun r n => J n (ops.getD 1 0) lv r w cs) (B := fun r n => J n (ops.getD 0 0) lv r w cs) (fun r h => hj _ _ _ _ _ h) (fun r h => hj _ _ _ _ _ h) h
    | tableswitch df lo hi offs =>
      unfold sm_blkW at h
      dsimp only at h
      split at h
      · next x r => exact sm_wsw_of (K := fun b n => J n b lv r w cs) (fun b h => hj _ _ _ _ _ h) _ _ h
      · exact h.elim
    | lookupswitch df ps =>
      unfold sm_blkW at h
      dsimp only at h
      split at h
      · next x r => exact sm_wlo_of (K := fun b n => J n b lv r w cs) (fun b h => hj _ _ _ _ _ h) _ _ h
      · exact h.elim
    | ireturn =>
      unfold sm_blkW at h
      dsimp only at h
      split at h
      · next x =>
        obtain ⟨hc, h⟩ := sm_g_of h
        have hc := of_decide_eq_true hc
        cases hz : sm_isZ M.2.2.2.1 with
        | true =>
          rw [hz] at h
          obtain ⟨h1, h2⟩ := h
          refine ⟨0, _, h2, fun n _ => ?_⟩
          show (if cs = _ then (if sm_isZ M.2.2.2.1 = true then (if x = 0 ∨ x = 1 then _ else _) else _) else _) = _
          rw [if_pos hc, if_pos hz, if_pos h1]
        | false =>
          rw [hz] at h
          refine ⟨0, _, h, fun n _ => ?_⟩
          show (if cs = _ then (if sm_isZ M.2.2.2.1 = true then (if x = 0 ∨ x = 1 then _ else _) else _) else _) = _
          rw [if_pos hc, if_neg (by rw [hz]; decide)]
      · exact h.elim
    | lreturn =>
      unfold sm_blkW at h
      dsimp only at h
      split at h
      · obtain ⟨hc, h⟩ := sm_g_of h
        exact ⟨0, _, h, fun n _ => by show (if cs = _ then _ else _) = _; rw [if_pos (of_decide_eq_true hc)]⟩
      · exact h.elim
    | areturn =>
      unfold sm_blkW at h
      dsimp only at h
      split at h
      · obtain ⟨hc, h⟩ := sm_g_of h
        exact ⟨0, _, h, fun n _ => by show (if cs = _ then _ else _) = _; rw [if_pos (of_decide_eq_true hc)]⟩
      · exact h.elim
    | return_ =>
      unfold sm_blkW at h
      dsimp only at h
      split at h
      · obtain ⟨hc, h⟩ := sm_g_of h
        exact ⟨0, _, h, fun n _ => by show (if cs = _ then _ else _) = _; rw [if_pos (of_decide_eq_true hc)]⟩
      · exact h.elim
    | new x =>
      unfold sm_blkW at h
      dsimp only at h
      obtain ⟨hc, h⟩ := sm_g_of h
      simp only [Bool.and_eq_true, decide_eq_true_eq] at hc
      obtain ⟨N, z, k1, k2⟩ := ih _ _ _ _ h
      refine ⟨N, z, k1, fun n hn => ?_⟩
      show (if _ then _ else _) = _
      rw [if_neg (by omega)]
      exact k2 n hn
    | newarray at' =>
      unfold sm_blkW at h
      dsimp only at h
      split at h
      · obtain ⟨hc, h⟩ := sm_g_of h
        simp only [Bool.and_eq_true, decide_eq_true_eq] at hc
        obtain ⟨N, z, k1, k2⟩ := ih _ _ _ _ h
        refine ⟨N, z, k1, fun n hn => ?_⟩
        show (if _ then _ else _) = _
        rw [if_neg (by
          rintro (q | q | q | q | q)
          · exact hc.1.1.1.1 q
          · omega
          · omega
          · omega
          · omega)]
        exact k2 n hn
      · exact h.elim
    | _ =>
      rw [sm_blkW_else rfl] at h
      have k1 := sm_elseW_of (K := fun n lv st w cs => sm_blk P S (sm_run P S n) (J n) d M fall is lv st w cs) ih h
      obtain ⟨N, z, k2, k3⟩ := k1
      exact ⟨N, z, k2, fun n hn => by show sm_blk _ _ _ _ _ _ _ _ _ _ _ _ = _; rw [sm_blk_else rfl]; exact k3 n hn⟩
theorem sm_goW_of : ∀ (K b : Nat) (lv : sm_V) (st : List Value) (w : sm_W) (cs : Nat × Nat), sm_goW P S d f M Φ K b lv st w cs → sm_ev (fun n => sm_go P S (sm_run P S n) d f M K b lv st w cs) Φ := by
  intro K
  induction K with
  | zero => intro b lv st w cs h; exact h.elim
  | succ K ih =>
    intro b lv st w cs h
    unfold sm_goW at h
    obtain ⟨hb, h⟩ := sm_g_of h
    have hb := of_decide_eq_true hb
    cases hB : M.2.2.2.2.2.2.2.2[b]? with
    | none => rw [hB] at h; exact h.elim
    | some B =>
      obtain ⟨pcb, lo, fall, is⟩ := B
      rw [hB] at h
      cases lo with
      | some live =>
        dsimp only at h
        cases hp : sm_pick live lv with
        | none => rw [hp] at h; exact h.elim
        | some vs =>
          rw [hp] at h
          have e0 : ∀ n, sm_go P S (sm_run P S n) d f M (K + 1) b lv st w cs = sm_run P S n d f b vs st w cs := by
            intro n
            unfold sm_go
            rw [if_neg hb, hB]
            dsimp only
            rw [hp]
          simp only [e0]
          exact sm_ev_wp h
      | none =>
        dsimp only at h
        have e0 : ∀ n, sm_go P S (sm_run P S n) d f M (K + 1) b lv st w cs = sm_blk P S (sm_run P S n) (sm_go P S (sm_run P S n) d f M K) d M fall is lv st w cs := by
          intro n
          show sm_go P S (sm_run P S n) d f M (K + 1) b lv st w cs = _
          rw [sm_go, if_neg hb, hB]
        simp only [e0]
        exact sm_blkW_of ih _ _ _ _ _ h
/-- one round by conditions -/
theorem sm_wp_step {b : Nat} {vs st : List Value} {w : sm_W} {cs : Nat × Nat} (h : sm_FW P S d f b vs st w cs Φ) : sm_wp P S d f b vs st w cs Φ := by
  unfold sm_FW at h
  split at h
  · next pcb live fall is e =>
    obtain ⟨N, z, k1, k2⟩ := sm_blkW_of (J := fun n => sm_go P S (sm_run P S n) d f (P f) 64) (fun b lv st w cs h => sm_goW_of 64 b lv st w cs h) _ _ _ _ _ h
    refine ⟨N + 1, z, ?_, k1⟩
    show sm_F P S (sm_run P S N) d f b vs st w cs = some z
    unfold sm_F
    rw [e]
    exact k2 N (Nat.le_refl N)
  · exact h.elim
theorem sm_wp_mono {b : Nat} {vs st : List Value} {w : sm_W} {cs : Nat × Nat} {Ψ : sm_Z → Prop} (h : sm_wp P S d f b vs st w cs Ψ) (hq : ∀ z, Ψ z → Φ z) : sm_wp P S d f b vs st w cs Φ := by
  obtain ⟨n, z, h1, h2⟩ := h
  exact ⟨n, z, h1, hq z h2⟩
end SmRules
end
section
/-! the same checks with the pcs written out: the kernel then does not sum them again and again -/
def sm_hd (pcs : List Nat) (k : Nat → List Nat → Bool) : Bool := match pcs with
  | p' :: r => k p' r
  | [] => false
def sm_okLf (P : Nat → sm_M) (M : sm_M) (fall : Nat) : List (Instr × List Nat) → List Nat → Bool
  | [], pc :: _ => sm_tg M pc 0 fall
  | (i, ops) :: is, pc :: pcs => sm_okI P M pc i ops (fun q => sm_hd pcs (fun p' r => decide (q = p') && sm_okLf P M fall is (p' :: r)))
  | _, [] => false
theorem sm_okI_mono {P : Nat → sm_M} {M : sm_M} {pc : Nat} {i : Instr} {ops : List Nat} {k k' : Nat → Bool} (hk : ∀ q, k q = true → k' q = true) (h : sm_okI P M pc i ops k = true) : sm_okI P M pc i ops k' = true := by
  cases i with
  | goto off => exact h
  | ifCond c off => exact h
  | if_icmp c off => exact h
  | ifnull off => exact h
  | ifnonnull off => exact h
  | tableswitch df lo hi offs => exact h
  | lookupswitch df ps => exact h
  | ireturn => exact h
  | lreturn => exact h
  | areturn => exact h
  | return_ => exact h
  | new x => have h := Bool.and_eq_true_iff.mp h; exact Bool.and_eq_true_iff.mpr ⟨h.1, hk _ h.2⟩
  | newarray at' => have h := Bool.and_eq_true_iff.mp h; exact Bool.and_eq_true_iff.mpr ⟨h.1, hk _ h.2⟩
  | _ => have h := Bool.and_eq_true_iff.mp h; exact Bool.and_eq_true_iff.mpr ⟨h.1, hk _ h.2⟩
theorem sm_okLf_of {P : Nat → sm_M} {M : sm_M} {fall : Nat} : ∀ (is : List (Instr × List Nat)) (pc : Nat) (pcs : List Nat), sm_okLf P M fall is (pc :: pcs) = true → sm_okL P M fall is pc = true
  | [], pc, pcs, h => h
  | (i, ops) :: is, pc, pcs, h => by
    have h : sm_okI P M pc i ops (fun q => sm_hd pcs (fun p' r => decide (q = p') && sm_okLf P M fall is (p' :: r))) = true := h
    refine sm_okI_mono (fun q hq => ?_) h
    cases pcs with
    | nil => cases hq
    | cons p' r =>
      have hq := Bool.and_eq_true_iff.mp hq
      have e := of_decide_eq_true hq.1
      subst e
      exact sm_okLf_of is q r hq.2
def sm_okBf (P : Nat → sm_M) (M : sm_M) : List sm_B → List (List Nat) → Bool
  | [], _ => true
  | B :: Bs, pcs :: r => sm_hd pcs (fun pc ps => decide (pc = B.1) && sm_okLf P M B.2.2.1 B.2.2.2 (pc :: ps)) && sm_okBf P M Bs r
  | _ :: _, [] => false
theorem sm_okBf_of {P : Nat → sm_M} {M : sm_M} : ∀ (Bs : List sm_B) (L : List (List Nat)), sm_okBf P M Bs L = true → Bs.all (fun B => sm_okL P M B.2.2.1 B.2.2.2 B.1) = true
  | [], _, _ => rfl
  | B :: Bs, [], h => by cases h
  | B :: Bs, pcs :: r, h => by
    have h : (sm_hd pcs (fun pc ps => decide (pc = B.1) && sm_okLf P M B.2.2.1 B.2.2.2 (pc :: ps)) && sm_okBf P M Bs r) = true := h
    have h := Bool.and_eq_true_iff.mp h
    rw [List.all_cons, Bool.and_eq_true]
    refine ⟨?_, sm_okBf_of Bs r h.2⟩
    cases pcs with
    | nil => cases h.1
    | cons pc ps =>
      have h1 := Bool.and_eq_true_iff.mp h.1
      have e := of_decide_eq_true h1.1
      subst e
      exact sm_okLf_of _ _ _ h1.2
def sm_okMf (P : Nat → sm_M) (M : sm_M) (L : List (List Nat)) : Bool := plainName M.1.cls && decide (M.1.cls ≠ "java/lang/invoke/MethodHandle") && decide (M.1.cls ≠ "java/lang/invoke/VarHandle") &&
  decide ((parseMethodDescriptor M.1.desc).map (fun d => d.parameters.length) = some M.2.2.2.2.1) && decide (M.2.2.1 ≤ 60) && (match (sm_blks M)[0]? with
    | some B => decide (B.1 = 0)
    | none => false) && sm_okBf P M (sm_blks M) L
theorem sm_okMf_of {P : Nat → sm_M} {M : sm_M} (L : List (List Nat)) (h : sm_okMf P M L = true) : sm_okM P M = true := by
  have h := Bool.and_eq_true_iff.mp h
  exact Bool.and_eq_true_iff.mpr ⟨h.1, sm_okBf_of _ _ h.2⟩
theorem sm_inw (k j : Nat) {w : Cond} (h : (sm_chunk k)[j]? = some w) (hg : goodWord w = true) : w ∈ sm_wl := List.mem_filter.mpr ⟨sm_chunk_in (List.mem_of_getElem? h), hg⟩
def sm_okMh (M : sm_M) : Bool := plainName M.1.cls && decide (M.1.cls ≠ "java/lang/invoke/MethodHandle") && decide (M.1.cls ≠ "java/lang/invoke/VarHandle") &&
  decide ((parseMethodDescriptor M.1.desc).map (fun d => d.parameters.length) = some M.2.2.2.2.1) && decide (M.2.2.1 ≤ 60) && (match (sm_blks M)[0]? with
    | some B => decide (B.1 = 0)
    | none => false)
theorem sm_okMg_of {P : Nat → sm_M} {M : sm_M} (h : sm_okMh M = true) (hb : ∀ B ∈ sm_blks M, sm_okL P M B.2.2.1 B.2.2.2 B.1 = true) : sm_okM P M = true := Bool.and_eq_true_iff.mpr ⟨h, List.all_eq_true.mpr hb⟩
end
