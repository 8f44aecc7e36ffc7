section
-- ===== PART A: goes FIRST, ahead of the names: the tables' words, and 'selects' of the private methods out of them =====
/-- a private method of a class that the tables say can be made, by its rows of tables_1 -/
def lw_okq (q : MethodName × Nat) : Prop := (q.1.cls ≠ "java/lang/invoke/MethodHandle" ∧ q.1.cls ≠ "java/lang/invoke/VarHandle") ∧ Cond.instantiable q.1.cls q.2 ∈ tables_1 ∧ Cond.privateMethod q.1 ∈ tables_1 ∧ Cond.instanceMethod q.1 ∈ tables_1
theorem lw_p0 : lw_okq (⟨"NightHours", "putFour", "(I)V"⟩, 14) := ⟨⟨by decide +kernel, by decide +kernel⟩, List.mem_of_getElem? (i := 19) (by decide +kernel), List.mem_of_getElem? (i := 535) (by decide +kernel), List.mem_of_getElem? (i := 536) (by decide +kernel)⟩
theorem lw_p1 : lw_okq (⟨"NightHours$Tokens", "scanOne", "([BII)I"⟩, 4) := ⟨⟨by decide +kernel, by decide +kernel⟩, List.mem_of_getElem? (i := 33) (by decide +kernel), List.mem_of_getElem? (i := 559) (by decide +kernel), List.mem_of_getElem? (i := 560) (by decide +kernel)⟩
theorem lw_p2 : lw_okq (⟨"NightHours$Reader", "syntaxFault", "()I"⟩, 12) := ⟨⟨by decide +kernel, by decide +kernel⟩, List.mem_of_getElem? (i := 27) (by decide +kernel), List.mem_of_getElem? (i := 585) (by decide +kernel), List.mem_of_getElem? (i := 586) (by decide +kernel)⟩
theorem lw_p3 : lw_okq (⟨"NightHours$Grammar", "hasRoom", "(II)Z"⟩, 4) := ⟨⟨by decide +kernel, by decide +kernel⟩, List.mem_of_getElem? (i := 59) (by decide +kernel), List.mem_of_getElem? (i := 603) (by decide +kernel), List.mem_of_getElem? (i := 604) (by decide +kernel)⟩
theorem lw_p4 : lw_okq (⟨"NightHours$Reader", "meaningFault", "()I"⟩, 12) := ⟨⟨by decide +kernel, by decide +kernel⟩, List.mem_of_getElem? (i := 27) (by decide +kernel), List.mem_of_getElem? (i := 610) (by decide +kernel), List.mem_of_getElem? (i := 611) (by decide +kernel)⟩
theorem lw_p5 : lw_okq (⟨"NightHours$Reader", "take", "(IIJ)I"⟩, 12) := ⟨⟨by decide +kernel, by decide +kernel⟩, List.mem_of_getElem? (i := 27) (by decide +kernel), List.mem_of_getElem? (i := 615) (by decide +kernel), List.mem_of_getElem? (i := 616) (by decide +kernel)⟩
theorem lw_p6 : lw_okq (⟨"NightHours$Reader", "takeNew", "(J)I"⟩, 12) := ⟨⟨by decide +kernel, by decide +kernel⟩, List.mem_of_getElem? (i := 27) (by decide +kernel), List.mem_of_getElem? (i := 619) (by decide +kernel), List.mem_of_getElem? (i := 620) (by decide +kernel)⟩
theorem lw_p7 : lw_okq (⟨"NightHours$Reader", "numberNew", "(I)I"⟩, 12) := ⟨⟨by decide +kernel, by decide +kernel⟩, List.mem_of_getElem? (i := 27) (by decide +kernel), List.mem_of_getElem? (i := 623) (by decide +kernel), List.mem_of_getElem? (i := 624) (by decide +kernel)⟩
theorem lw_p8 : lw_okq (⟨"NightHours$Reader", "takePath", "(IJ)I"⟩, 12) := ⟨⟨by decide +kernel, by decide +kernel⟩, List.mem_of_getElem? (i := 27) (by decide +kernel), List.mem_of_getElem? (i := 634) (by decide +kernel), List.mem_of_getElem? (i := 635) (by decide +kernel)⟩
theorem lw_p9 : lw_okq (⟨"NightHours$Reader", "find", "(JI)I"⟩, 12) := ⟨⟨by decide +kernel, by decide +kernel⟩, List.mem_of_getElem? (i := 27) (by decide +kernel), List.mem_of_getElem? (i := 638) (by decide +kernel), List.mem_of_getElem? (i := 639) (by decide +kernel)⟩
theorem lw_p10 : lw_okq (⟨"NightHours$Reader", "takeWhere", "(IJ)I"⟩, 12) := ⟨⟨by decide +kernel, by decide +kernel⟩, List.mem_of_getElem? (i := 27) (by decide +kernel), List.mem_of_getElem? (i := 642) (by decide +kernel), List.mem_of_getElem? (i := 643) (by decide +kernel)⟩
theorem lw_p11 : lw_okq (⟨"NightHours$Reader", "takeOpen", "(IJ)I"⟩, 12) := ⟨⟨by decide +kernel, by decide +kernel⟩, List.mem_of_getElem? (i := 27) (by decide +kernel), List.mem_of_getElem? (i := 650) (by decide +kernel), List.mem_of_getElem? (i := 651) (by decide +kernel)⟩
theorem lw_p12 : lw_okq (⟨"NightHours$Reader", "takeSpanTime", "(IJ)I"⟩, 12) := ⟨⟨by decide +kernel, by decide +kernel⟩, List.mem_of_getElem? (i := 27) (by decide +kernel), List.mem_of_getElem? (i := 661) (by decide +kernel), List.mem_of_getElem? (i := 662) (by decide +kernel)⟩
theorem lw_p13 : lw_okq (⟨"NightHours$Reader", "takeTrust", "(I)I"⟩, 12) := ⟨⟨by decide +kernel, by decide +kernel⟩, List.mem_of_getElem? (i := 27) (by decide +kernel), List.mem_of_getElem? (i := 669) (by decide +kernel), List.mem_of_getElem? (i := 670) (by decide +kernel)⟩
theorem lw_p14 : lw_okq (⟨"NightHours$Reader", "takeInt", "(III)I"⟩, 12) := ⟨⟨by decide +kernel, by decide +kernel⟩, List.mem_of_getElem? (i := 27) (by decide +kernel), List.mem_of_getElem? (i := 677) (by decide +kernel), List.mem_of_getElem? (i := 678) (by decide +kernel)⟩
theorem lw_p15 : lw_okq (⟨"NightHours$Reader", "endPathOrOpen", "(I)V"⟩, 12) := ⟨⟨by decide +kernel, by decide +kernel⟩, List.mem_of_getElem? (i := 27) (by decide +kernel), List.mem_of_getElem? (i := 684) (by decide +kernel), List.mem_of_getElem? (i := 685) (by decide +kernel)⟩
def lw_privs_1 : List (MethodName × Nat) := [(⟨"NightHours", "putFour", "(I)V"⟩, 14), (⟨"NightHours$Tokens", "scanOne", "([BII)I"⟩, 4), (⟨"NightHours$Reader", "syntaxFault", "()I"⟩, 12), (⟨"NightHours$Grammar", "hasRoom", "(II)Z"⟩, 4), (⟨"NightHours$Reader", "meaningFault", "()I"⟩, 12), (⟨"NightHours$Reader", "take", "(IIJ)I"⟩, 12), (⟨"NightHours$Reader", "takeNew", "(J)I"⟩, 12), (⟨"NightHours$Reader", "numberNew", "(I)I"⟩, 12), (⟨"NightHours$Reader", "takePath", "(IJ)I"⟩, 12), (⟨"NightHours$Reader", "find", "(JI)I"⟩, 12), (⟨"NightHours$Reader", "takeWhere", "(IJ)I"⟩, 12), (⟨"NightHours$Reader", "takeOpen", "(IJ)I"⟩, 12), (⟨"NightHours$Reader", "takeSpanTime", "(IJ)I"⟩, 12), (⟨"NightHours$Reader", "takeTrust", "(I)I"⟩, 12), (⟨"NightHours$Reader", "takeInt", "(III)I"⟩, 12), (⟨"NightHours$Reader", "endPathOrOpen", "(I)V"⟩, 12)]
theorem lw_r1 : ∀ q ∈ lw_privs_1, lw_okq q := List.forall_mem_cons.mpr ⟨lw_p0, List.forall_mem_cons.mpr ⟨lw_p1, List.forall_mem_cons.mpr ⟨lw_p2, List.forall_mem_cons.mpr ⟨lw_p3, List.forall_mem_cons.mpr ⟨lw_p4, List.forall_mem_cons.mpr ⟨lw_p5, List.forall_mem_cons.mpr ⟨lw_p6, List.forall_mem_cons.mpr ⟨lw_p7, List.forall_mem_cons.mpr ⟨lw_p8, List.forall_mem_cons.mpr ⟨lw_p9, List.forall_mem_cons.mpr ⟨lw_p10, List.forall_mem_cons.mpr ⟨lw_p11, List.forall_mem_cons.mpr ⟨lw_p12, List.forall_mem_cons.mpr ⟨lw_p13, List.forall_mem_cons.mpr ⟨lw_p14, List.forall_mem_cons.mpr ⟨lw_p15, fun _ h => absurd h List.not_mem_nil⟩⟩⟩⟩⟩⟩⟩⟩⟩⟩⟩⟩⟩⟩⟩⟩
theorem lw_p16 : lw_okq (⟨"NightHours$Spans", "hasRow", "(I)Z"⟩, 4) := ⟨⟨by decide +kernel, by decide +kernel⟩, List.mem_of_getElem? (i := 84) (by decide +kernel), List.mem_of_getElem? (i := 696) (by decide +kernel), List.mem_of_getElem? (i := 697) (by decide +kernel)⟩
theorem lw_p17 : lw_okq (⟨"NightHours$Reader", "endSpan", "(I)V"⟩, 12) := ⟨⟨by decide +kernel, by decide +kernel⟩, List.mem_of_getElem? (i := 27) (by decide +kernel), List.mem_of_getElem? (i := 704) (by decide +kernel), List.mem_of_getElem? (i := 705) (by decide +kernel)⟩
theorem lw_p18 : lw_okq (⟨"NightHours", "stale", "()V"⟩, 14) := ⟨⟨by decide +kernel, by decide +kernel⟩, List.mem_of_getElem? (i := 19) (by decide +kernel), List.mem_of_getElem? (i := 738) (by decide +kernel), List.mem_of_getElem? (i := 739) (by decide +kernel)⟩
theorem lw_p19 : lw_okq (⟨"NightHours", "isSay", "(I)Z"⟩, 14) := ⟨⟨by decide +kernel, by decide +kernel⟩, List.mem_of_getElem? (i := 19) (by decide +kernel), List.mem_of_getElem? (i := 750) (by decide +kernel), List.mem_of_getElem? (i := 751) (by decide +kernel)⟩
theorem lw_p20 : lw_okq (⟨"NightHours", "isSaying", "(I)Z"⟩, 14) := ⟨⟨by decide +kernel, by decide +kernel⟩, List.mem_of_getElem? (i := 19) (by decide +kernel), List.mem_of_getElem? (i := 754) (by decide +kernel), List.mem_of_getElem? (i := 755) (by decide +kernel)⟩
theorem lw_p21 : lw_okq (⟨"NightHours", "isPlace", "(I)Z"⟩, 14) := ⟨⟨by decide +kernel, by decide +kernel⟩, List.mem_of_getElem? (i := 19) (by decide +kernel), List.mem_of_getElem? (i := 762) (by decide +kernel), List.mem_of_getElem? (i := 763) (by decide +kernel)⟩
theorem lw_p22 : lw_okq (⟨"NightHours", "isGoneThrough", "()Z"⟩, 14) := ⟨⟨by decide +kernel, by decide +kernel⟩, List.mem_of_getElem? (i := 19) (by decide +kernel), List.mem_of_getElem? (i := 775) (by decide +kernel), List.mem_of_getElem? (i := 776) (by decide +kernel)⟩
theorem lw_p23 : lw_okq (⟨"NightHours$Going", "layBase", "(I)V"⟩, 18) := ⟨⟨by decide +kernel, by decide +kernel⟩, List.mem_of_getElem? (i := 310) (by decide +kernel), List.mem_of_getElem? (i := 787) (by decide +kernel), List.mem_of_getElem? (i := 788) (by decide +kernel)⟩
theorem lw_p24 : lw_okq (⟨"NightHours$Net", "hasNode", "(I)Z"⟩, 6) := ⟨⟨by decide +kernel, by decide +kernel⟩, List.mem_of_getElem? (i := 316) (by decide +kernel), List.mem_of_getElem? (i := 799) (by decide +kernel), List.mem_of_getElem? (i := 800) (by decide +kernel)⟩
theorem lw_p25 : lw_okq (⟨"NightHours$Net", "tightenRow", "(III)V"⟩, 6) := ⟨⟨by decide +kernel, by decide +kernel⟩, List.mem_of_getElem? (i := 316) (by decide +kernel), List.mem_of_getElem? (i := 811) (by decide +kernel), List.mem_of_getElem? (i := 812) (by decide +kernel)⟩
theorem lw_p26 : lw_okq (⟨"NightHours$Going", "addItem", "(I)V"⟩, 18) := ⟨⟨by decide +kernel, by decide +kernel⟩, List.mem_of_getElem? (i := 310) (by decide +kernel), List.mem_of_getElem? (i := 815) (by decide +kernel), List.mem_of_getElem? (i := 816) (by decide +kernel)⟩
theorem lw_p27 : lw_okq (⟨"NightHours$Going", "noteWay", "(LNightHours$Book;)V"⟩, 18) := ⟨⟨by decide +kernel, by decide +kernel⟩, List.mem_of_getElem? (i := 310) (by decide +kernel), List.mem_of_getElem? (i := 823) (by decide +kernel), List.mem_of_getElem? (i := 824) (by decide +kernel)⟩
theorem lw_p28 : lw_okq (⟨"NightHours$Net", "hasLevel", "(I)Z"⟩, 6) := ⟨⟨by decide +kernel, by decide +kernel⟩, List.mem_of_getElem? (i := 316) (by decide +kernel), List.mem_of_getElem? (i := 835) (by decide +kernel), List.mem_of_getElem? (i := 836) (by decide +kernel)⟩
theorem lw_p29 : lw_okq (⟨"NightHours$Going", "choicesOf", "(I)I"⟩, 18) := ⟨⟨by decide +kernel, by decide +kernel⟩, List.mem_of_getElem? (i := 310) (by decide +kernel), List.mem_of_getElem? (i := 843) (by decide +kernel), List.mem_of_getElem? (i := 844) (by decide +kernel)⟩
theorem lw_p30 : lw_okq (⟨"NightHours$Going", "walkOf", "(I)I"⟩, 18) := ⟨⟨by decide +kernel, by decide +kernel⟩, List.mem_of_getElem? (i := 310) (by decide +kernel), List.mem_of_getElem? (i := 848) (by decide +kernel), List.mem_of_getElem? (i := 849) (by decide +kernel)⟩
theorem lw_p31 : lw_okq (⟨"NightHours$Going", "pushMove", "(III)Z"⟩, 18) := ⟨⟨by decide +kernel, by decide +kernel⟩, List.mem_of_getElem? (i := 310) (by decide +kernel), List.mem_of_getElem? (i := 864) (by decide +kernel), List.mem_of_getElem? (i := 865) (by decide +kernel)⟩
def lw_privs_2 : List (MethodName × Nat) := [(⟨"NightHours$Spans", "hasRow", "(I)Z"⟩, 4), (⟨"NightHours$Reader", "endSpan", "(I)V"⟩, 12), (⟨"NightHours", "stale", "()V"⟩, 14), (⟨"NightHours", "isSay", "(I)Z"⟩, 14), (⟨"NightHours", "isSaying", "(I)Z"⟩, 14), (⟨"NightHours", "isPlace", "(I)Z"⟩, 14), (⟨"NightHours", "isGoneThrough", "()Z"⟩, 14), (⟨"NightHours$Going", "layBase", "(I)V"⟩, 18), (⟨"NightHours$Net", "hasNode", "(I)Z"⟩, 6), (⟨"NightHours$Net", "tightenRow", "(III)V"⟩, 6), (⟨"NightHours$Going", "addItem", "(I)V"⟩, 18), (⟨"NightHours$Going", "noteWay", "(LNightHours$Book;)V"⟩, 18), (⟨"NightHours$Net", "hasLevel", "(I)Z"⟩, 6), (⟨"NightHours$Going", "choicesOf", "(I)I"⟩, 18), (⟨"NightHours$Going", "walkOf", "(I)I"⟩, 18), (⟨"NightHours$Going", "pushMove", "(III)Z"⟩, 18)]
theorem lw_r2 : ∀ q ∈ lw_privs_2, lw_okq q := List.forall_mem_cons.mpr ⟨lw_p16, List.forall_mem_cons.mpr ⟨lw_p17, List.forall_mem_cons.mpr ⟨lw_p18, List.forall_mem_cons.mpr ⟨lw_p19, List.forall_mem_cons.mpr ⟨lw_p20, List.forall_mem_cons.mpr ⟨lw_p21, List.forall_mem_cons.mpr ⟨lw_p22, List.forall_mem_cons.mpr ⟨lw_p23, List.forall_mem_cons.mpr ⟨lw_p24, List.forall_mem_cons.mpr ⟨lw_p25, List.forall_mem_cons.mpr ⟨lw_p26, List.forall_mem_cons.mpr ⟨lw_p27, List.forall_mem_cons.mpr ⟨lw_p28, List.forall_mem_cons.mpr ⟨lw_p29, List.forall_mem_cons.mpr ⟨lw_p30, List.forall_mem_cons.mpr ⟨lw_p31, fun _ h => absurd h List.not_mem_nil⟩⟩⟩⟩⟩⟩⟩⟩⟩⟩⟩⟩⟩⟩⟩⟩
theorem lw_p32 : lw_okq (⟨"NightHours", "levelOf", "(I)I"⟩, 14) := ⟨⟨by decide +kernel, by decide +kernel⟩, List.mem_of_getElem? (i := 19) (by decide +kernel), List.mem_of_getElem? (i := 878) (by decide +kernel), List.mem_of_getElem? (i := 879) (by decide +kernel)⟩
theorem lw_p33 : lw_okq (⟨"NightHours", "isDoubted", "(I)Z"⟩, 14) := ⟨⟨by decide +kernel, by decide +kernel⟩, List.mem_of_getElem? (i := 19) (by decide +kernel), List.mem_of_getElem? (i := 890) (by decide +kernel), List.mem_of_getElem? (i := 891) (by decide +kernel)⟩
theorem lw_p34 : lw_okq (⟨"NightHours", "isTime", "(I)Z"⟩, 14) := ⟨⟨by decide +kernel, by decide +kernel⟩, List.mem_of_getElem? (i := 19) (by decide +kernel), List.mem_of_getElem? (i := 903) (by decide +kernel), List.mem_of_getElem? (i := 904) (by decide +kernel)⟩
theorem lw_p35 : lw_okq (⟨"NightHours$Quarrelling", "goThroughAll", "(LNightHours$Told;LNightHours$Held;I)Z"⟩, 12) := ⟨⟨by decide +kernel, by decide +kernel⟩, List.mem_of_getElem? (i := 409) (by decide +kernel), List.mem_of_getElem? (i := 971) (by decide +kernel), List.mem_of_getElem? (i := 972) (by decide +kernel)⟩
theorem lw_p36 : lw_okq (⟨"NightHours$Quarrelling", "listSets", "(II)V"⟩, 12) := ⟨⟨by decide +kernel, by decide +kernel⟩, List.mem_of_getElem? (i := 409) (by decide +kernel), List.mem_of_getElem? (i := 977) (by decide +kernel), List.mem_of_getElem? (i := 978) (by decide +kernel)⟩
theorem lw_p37 : lw_okq (⟨"NightHours$Quarrelling", "isQuarrel", "(I)Z"⟩, 12) := ⟨⟨by decide +kernel, by decide +kernel⟩, List.mem_of_getElem? (i := 409) (by decide +kernel), List.mem_of_getElem? (i := 987) (by decide +kernel), List.mem_of_getElem? (i := 988) (by decide +kernel)⟩
theorem lw_p38 : lw_okq (⟨"NightHours$Quarrelling", "isGivingUp", "(II)Z"⟩, 12) := ⟨⟨by decide +kernel, by decide +kernel⟩, List.mem_of_getElem? (i := 409) (by decide +kernel), List.mem_of_getElem? (i := 991) (by decide +kernel), List.mem_of_getElem? (i := 992) (by decide +kernel)⟩
theorem lw_p39 : lw_okq (⟨"NightHours$Quarrelling", "holdTogether", "(LNightHours$Held;J)Z"⟩, 12) := ⟨⟨by decide +kernel, by decide +kernel⟩, List.mem_of_getElem? (i := 409) (by decide +kernel), List.mem_of_getElem? (i := 1036) (by decide +kernel), List.mem_of_getElem? (i := 1037) (by decide +kernel)⟩
theorem lw_p40 : lw_okq (⟨"NightHours$Quarrelling", "listRing", "(LNightHours$Held;)V"⟩, 12) := ⟨⟨by decide +kernel, by decide +kernel⟩, List.mem_of_getElem? (i := 409) (by decide +kernel), List.mem_of_getElem? (i := 1044) (by decide +kernel), List.mem_of_getElem? (i := 1045) (by decide +kernel)⟩
theorem lw_p41 : lw_okq (⟨"NightHours", "isPerson", "(I)Z"⟩, 14) := ⟨⟨by decide +kernel, by decide +kernel⟩, List.mem_of_getElem? (i := 19) (by decide +kernel), List.mem_of_getElem? (i := 1060) (by decide +kernel), List.mem_of_getElem? (i := 1061) (by decide +kernel)⟩
theorem lw_p42 : lw_okq (⟨"NightHours", "goWithGuest", "(IIII)V"⟩, 14) := ⟨⟨by decide +kernel, by decide +kernel⟩, List.mem_of_getElem? (i := 19) (by decide +kernel), List.mem_of_getElem? (i := 1064) (by decide +kernel), List.mem_of_getElem? (i := 1065) (by decide +kernel)⟩
theorem lw_p43 : lw_okq (⟨"NightHours$Asking", "isLeft", "(LNightHours$Told;IIII)Z"⟩, 6) := ⟨⟨by decide +kernel, by decide +kernel⟩, List.mem_of_getElem? (i := 461) (by decide +kernel), List.mem_of_getElem? (i := 1099) (by decide +kernel), List.mem_of_getElem? (i := 1100) (by decide +kernel)⟩
theorem lw_p44 : lw_okq (⟨"NightHours$Asking", "answer", "(LNightHours$Told;III)Z"⟩, 6) := ⟨⟨by decide +kernel, by decide +kernel⟩, List.mem_of_getElem? (i := 461) (by decide +kernel), List.mem_of_getElem? (i := 1103) (by decide +kernel), List.mem_of_getElem? (i := 1104) (by decide +kernel)⟩
theorem lw_p45 : lw_okq (⟨"NightHours", "planTo", "(I)I"⟩, 14) := ⟨⟨by decide +kernel, by decide +kernel⟩, List.mem_of_getElem? (i := 19) (by decide +kernel), List.mem_of_getElem? (i := 1114) (by decide +kernel), List.mem_of_getElem? (i := 1115) (by decide +kernel)⟩
theorem lw_p46 : lw_okq (⟨"NightHours$Asking", "spread", "(LNightHours$Told;IIII)V"⟩, 6) := ⟨⟨by decide +kernel, by decide +kernel⟩, List.mem_of_getElem? (i := 461) (by decide +kernel), List.mem_of_getElem? (i := 1123) (by decide +kernel), List.mem_of_getElem? (i := 1124) (by decide +kernel)⟩
theorem lw_p47 : lw_okq (⟨"NightHours$Asking", "countLeft", "(II)I"⟩, 6) := ⟨⟨by decide +kernel, by decide +kernel⟩, List.mem_of_getElem? (i := 461) (by decide +kernel), List.mem_of_getElem? (i := 1132) (by decide +kernel), List.mem_of_getElem? (i := 1133) (by decide +kernel)⟩
def lw_privs_3 : List (MethodName × Nat) := [(⟨"NightHours", "levelOf", "(I)I"⟩, 14), (⟨"NightHours", "isDoubted", "(I)Z"⟩, 14), (⟨"NightHours", "isTime", "(I)Z"⟩, 14), (⟨"NightHours$Quarrelling", "goThroughAll", "(LNightHours$Told;LNightHours$Held;I)Z"⟩, 12), (⟨"NightHours$Quarrelling", "listSets", "(II)V"⟩, 12), (⟨"NightHours$Quarrelling", "isQuarrel", "(I)Z"⟩, 12), (⟨"NightHours$Quarrelling", "isGivingUp", "(II)Z"⟩, 12), (⟨"NightHours$Quarrelling", "holdTogether", "(LNightHours$Held;J)Z"⟩, 12), (⟨"NightHours$Quarrelling", "listRing", "(LNightHours$Held;)V"⟩, 12), (⟨"NightHours", "isPerson", "(I)Z"⟩, 14), (⟨"NightHours", "goWithGuest", "(IIII)V"⟩, 14), (⟨"NightHours$Asking", "isLeft", "(LNightHours$Told;IIII)Z"⟩, 6), (⟨"NightHours$Asking", "answer", "(LNightHours$Told;III)Z"⟩, 6), (⟨"NightHours", "planTo", "(I)I"⟩, 14), (⟨"NightHours$Asking", "spread", "(LNightHours$Told;IIII)V"⟩, 6), (⟨"NightHours$Asking", "countLeft", "(II)I"⟩, 6)]
theorem lw_r3 : ∀ q ∈ lw_privs_3, lw_okq q := List.forall_mem_cons.mpr ⟨lw_p32, List.forall_mem_cons.mpr ⟨lw_p33, List.forall_mem_cons.mpr ⟨lw_p34, List.forall_mem_cons.mpr ⟨lw_p35, List.forall_mem_cons.mpr ⟨lw_p36, List.forall_mem_cons.mpr ⟨lw_p37, List.forall_mem_cons.mpr ⟨lw_p38, List.forall_mem_cons.mpr ⟨lw_p39, List.forall_mem_cons.mpr ⟨lw_p40, List.forall_mem_cons.mpr ⟨lw_p41, List.forall_mem_cons.mpr ⟨lw_p42, List.forall_mem_cons.mpr ⟨lw_p43, List.forall_mem_cons.mpr ⟨lw_p44, List.forall_mem_cons.mpr ⟨lw_p45, List.forall_mem_cons.mpr ⟨lw_p46, List.forall_mem_cons.mpr ⟨lw_p47, fun _ h => absurd h List.not_mem_nil⟩⟩⟩⟩⟩⟩⟩⟩⟩⟩⟩⟩⟩⟩⟩⟩
theorem lw_p48 : lw_okq (⟨"NightHours$Asking", "neededWith", "(II)I"⟩, 6) := ⟨⟨by decide +kernel, by decide +kernel⟩, List.mem_of_getElem? (i := 461) (by decide +kernel), List.mem_of_getElem? (i := 1140) (by decide +kernel), List.mem_of_getElem? (i := 1141) (by decide +kernel)⟩
theorem lw_p49 : lw_okq (⟨"NightHours", "whereAt", "(III)I"⟩, 14) := ⟨⟨by decide +kernel, by decide +kernel⟩, List.mem_of_getElem? (i := 19) (by decide +kernel), List.mem_of_getElem? (i := 1195) (by decide +kernel), List.mem_of_getElem? (i := 1196) (by decide +kernel)⟩
theorem lw_p50 : lw_okq (⟨"NightHours", "leastGive", "(I)I"⟩, 14) := ⟨⟨by decide +kernel, by decide +kernel⟩, List.mem_of_getElem? (i := 19) (by decide +kernel), List.mem_of_getElem? (i := 1203) (by decide +kernel), List.mem_of_getElem? (i := 1204) (by decide +kernel)⟩
theorem lw_p51 : lw_okq (⟨"NightHours", "isKept", "(I)Z"⟩, 14) := ⟨⟨by decide +kernel, by decide +kernel⟩, List.mem_of_getElem? (i := 19) (by decide +kernel), List.mem_of_getElem? (i := 1219) (by decide +kernel), List.mem_of_getElem? (i := 1220) (by decide +kernel)⟩
theorem lw_p52 : lw_okq (⟨"NightHoursModel", "put", "(I)V"⟩, 97) := ⟨⟨by decide +kernel, by decide +kernel⟩, List.mem_of_getElem? (i := 1236) (by decide +kernel), List.mem_of_getElem? (i := 1544) (by decide +kernel), List.mem_of_getElem? (i := 1545) (by decide +kernel)⟩
theorem lw_p53 : lw_okq (⟨"NightHoursModel", "cut", "()V"⟩, 97) := ⟨⟨by decide +kernel, by decide +kernel⟩, List.mem_of_getElem? (i := 1236) (by decide +kernel), List.mem_of_getElem? (i := 1556) (by decide +kernel), List.mem_of_getElem? (i := 1557) (by decide +kernel)⟩
theorem lw_p54 : lw_okq (⟨"NightHoursModel", "byteAt", "(I)I"⟩, 97) := ⟨⟨by decide +kernel, by decide +kernel⟩, List.mem_of_getElem? (i := 1236) (by decide +kernel), List.mem_of_getElem? (i := 1560) (by decide +kernel), List.mem_of_getElem? (i := 1561) (by decide +kernel)⟩
theorem lw_p55 : lw_okq (⟨"NightHoursModel", "token", "(IIIJ)V"⟩, 97) := ⟨⟨by decide +kernel, by decide +kernel⟩, List.mem_of_getElem? (i := 1236) (by decide +kernel), List.mem_of_getElem? (i := 1564) (by decide +kernel), List.mem_of_getElem? (i := 1565) (by decide +kernel)⟩
theorem lw_p56 : lw_okq (⟨"NightHoursModel", "is", "(I)Z"⟩, 97) := ⟨⟨by decide +kernel, by decide +kernel⟩, List.mem_of_getElem? (i := 1236) (by decide +kernel), List.mem_of_getElem? (i := 1577) (by decide +kernel), List.mem_of_getElem? (i := 1578) (by decide +kernel)⟩
theorem lw_p57 : lw_okq (⟨"NightHoursModel", "tell", "()V"⟩, 97) := ⟨⟨by decide +kernel, by decide +kernel⟩, List.mem_of_getElem? (i := 1236) (by decide +kernel), List.mem_of_getElem? (i := 1581) (by decide +kernel), List.mem_of_getElem? (i := 1582) (by decide +kernel)⟩
theorem lw_p58 : lw_okq (⟨"NightHoursModel", "fail", "(I)V"⟩, 97) := ⟨⟨by decide +kernel, by decide +kernel⟩, List.mem_of_getElem? (i := 1236) (by decide +kernel), List.mem_of_getElem? (i := 1585) (by decide +kernel), List.mem_of_getElem? (i := 1586) (by decide +kernel)⟩
theorem lw_p59 : lw_okq (⟨"NightHoursModel", "tellName", "(I)V"⟩, 97) := ⟨⟨by decide +kernel, by decide +kernel⟩, List.mem_of_getElem? (i := 1236) (by decide +kernel), List.mem_of_getElem? (i := 1589) (by decide +kernel), List.mem_of_getElem? (i := 1590) (by decide +kernel)⟩
theorem lw_p60 : lw_okq (⟨"NightHoursModel", "goesOn", "()V"⟩, 97) := ⟨⟨by decide +kernel, by decide +kernel⟩, List.mem_of_getElem? (i := 1236) (by decide +kernel), List.mem_of_getElem? (i := 1593) (by decide +kernel), List.mem_of_getElem? (i := 1594) (by decide +kernel)⟩
theorem lw_p61 : lw_okq (⟨"NightHoursModel", "named", "()I"⟩, 97) := ⟨⟨by decide +kernel, by decide +kernel⟩, List.mem_of_getElem? (i := 1236) (by decide +kernel), List.mem_of_getElem? (i := 1597) (by decide +kernel), List.mem_of_getElem? (i := 1598) (by decide +kernel)⟩
theorem lw_p62 : lw_okq (⟨"NightHoursModel", "must", "(I)V"⟩, 97) := ⟨⟨by decide +kernel, by decide +kernel⟩, List.mem_of_getElem? (i := 1236) (by decide +kernel), List.mem_of_getElem? (i := 1601) (by decide +kernel), List.mem_of_getElem? (i := 1602) (by decide +kernel)⟩
theorem lw_p63 : lw_okq (⟨"NightHoursModel", "wrong", "(II)V"⟩, 97) := ⟨⟨by decide +kernel, by decide +kernel⟩, List.mem_of_getElem? (i := 1236) (by decide +kernel), List.mem_of_getElem? (i := 1605) (by decide +kernel), List.mem_of_getElem? (i := 1606) (by decide +kernel)⟩
def lw_privs_4 : List (MethodName × Nat) := [(⟨"NightHours$Asking", "neededWith", "(II)I"⟩, 6), (⟨"NightHours", "whereAt", "(III)I"⟩, 14), (⟨"NightHours", "leastGive", "(I)I"⟩, 14), (⟨"NightHours", "isKept", "(I)Z"⟩, 14), (⟨"NightHoursModel", "put", "(I)V"⟩, 97), (⟨"NightHoursModel", "cut", "()V"⟩, 97), (⟨"NightHoursModel", "byteAt", "(I)I"⟩, 97), (⟨"NightHoursModel", "token", "(IIIJ)V"⟩, 97), (⟨"NightHoursModel", "is", "(I)Z"⟩, 97), (⟨"NightHoursModel", "tell", "()V"⟩, 97), (⟨"NightHoursModel", "fail", "(I)V"⟩, 97), (⟨"NightHoursModel", "tellName", "(I)V"⟩, 97), (⟨"NightHoursModel", "goesOn", "()V"⟩, 97), (⟨"NightHoursModel", "named", "()I"⟩, 97), (⟨"NightHoursModel", "must", "(I)V"⟩, 97), (⟨"NightHoursModel", "wrong", "(II)V"⟩, 97)]
theorem lw_r4 : ∀ q ∈ lw_privs_4, lw_okq q := List.forall_mem_cons.mpr ⟨lw_p48, List.forall_mem_cons.mpr ⟨lw_p49, List.forall_mem_cons.mpr ⟨lw_p50, List.forall_mem_cons.mpr ⟨lw_p51, List.forall_mem_cons.mpr ⟨lw_p52, List.forall_mem_cons.mpr ⟨lw_p53, List.forall_mem_cons.mpr ⟨lw_p54, List.forall_mem_cons.mpr ⟨lw_p55, List.forall_mem_cons.mpr ⟨lw_p56, List.forall_mem_cons.mpr ⟨lw_p57, List.forall_mem_cons.mpr ⟨lw_p58, List.forall_mem_cons.mpr ⟨lw_p59, List.forall_mem_cons.mpr ⟨lw_p60, List.forall_mem_cons.mpr ⟨lw_p61, List.forall_mem_cons.mpr ⟨lw_p62, List.forall_mem_cons.mpr ⟨lw_p63, fun _ h => absurd h List.not_mem_nil⟩⟩⟩⟩⟩⟩⟩⟩⟩⟩⟩⟩⟩⟩⟩⟩
theorem lw_p64 : lw_okq (⟨"NightHoursModel", "knows", "(III)V"⟩, 97) := ⟨⟨by decide +kernel, by decide +kernel⟩, List.mem_of_getElem? (i := 1236) (by decide +kernel), List.mem_of_getElem? (i := 1609) (by decide +kernel), List.mem_of_getElem? (i := 1610) (by decide +kernel)⟩
theorem lw_p65 : lw_okq (⟨"NightHoursModel", "tellWay", "()V"⟩, 97) := ⟨⟨by decide +kernel, by decide +kernel⟩, List.mem_of_getElem? (i := 1236) (by decide +kernel), List.mem_of_getElem? (i := 1613) (by decide +kernel), List.mem_of_getElem? (i := 1614) (by decide +kernel)⟩
theorem lw_p66 : lw_okq (⟨"NightHoursModel", "known", "(I)I"⟩, 97) := ⟨⟨by decide +kernel, by decide +kernel⟩, List.mem_of_getElem? (i := 1236) (by decide +kernel), List.mem_of_getElem? (i := 1617) (by decide +kernel), List.mem_of_getElem? (i := 1618) (by decide +kernel)⟩
theorem lw_p67 : lw_okq (⟨"NightHoursModel", "number", "(Z)I"⟩, 97) := ⟨⟨by decide +kernel, by decide +kernel⟩, List.mem_of_getElem? (i := 1236) (by decide +kernel), List.mem_of_getElem? (i := 1621) (by decide +kernel), List.mem_of_getElem? (i := 1622) (by decide +kernel)⟩
theorem lw_p68 : lw_okq (⟨"NightHoursModel", "tellTime", "()V"⟩, 97) := ⟨⟨by decide +kernel, by decide +kernel⟩, List.mem_of_getElem? (i := 1236) (by decide +kernel), List.mem_of_getElem? (i := 1625) (by decide +kernel), List.mem_of_getElem? (i := 1626) (by decide +kernel)⟩
theorem lw_p69 : lw_okq (⟨"NightHoursModel", "tellSaying", "()V"⟩, 97) := ⟨⟨by decide +kernel, by decide +kernel⟩, List.mem_of_getElem? (i := 1236) (by decide +kernel), List.mem_of_getElem? (i := 1629) (by decide +kernel), List.mem_of_getElem? (i := 1630) (by decide +kernel)⟩
theorem lw_p70 : lw_okq (⟨"NightHoursModel", "tellAll", "(I)V"⟩, 97) := ⟨⟨by decide +kernel, by decide +kernel⟩, List.mem_of_getElem? (i := 1236) (by decide +kernel), List.mem_of_getElem? (i := 1633) (by decide +kernel), List.mem_of_getElem? (i := 1634) (by decide +kernel)⟩
theorem lw_p71 : lw_okq (⟨"NightHoursModel", "tellSpan", "(I)V"⟩, 97) := ⟨⟨by decide +kernel, by decide +kernel⟩, List.mem_of_getElem? (i := 1236) (by decide +kernel), List.mem_of_getElem? (i := 1637) (by decide +kernel), List.mem_of_getElem? (i := 1638) (by decide +kernel)⟩
theorem lw_p72 : lw_okq (⟨"NightHoursModel", "tellOpen", "()V"⟩, 97) := ⟨⟨by decide +kernel, by decide +kernel⟩, List.mem_of_getElem? (i := 1236) (by decide +kernel), List.mem_of_getElem? (i := 1641) (by decide +kernel), List.mem_of_getElem? (i := 1642) (by decide +kernel)⟩
theorem lw_p73 : lw_okq (⟨"NightHoursModel", "tellQuestion", "()V"⟩, 97) := ⟨⟨by decide +kernel, by decide +kernel⟩, List.mem_of_getElem? (i := 1236) (by decide +kernel), List.mem_of_getElem? (i := 1645) (by decide +kernel), List.mem_of_getElem? (i := 1646) (by decide +kernel)⟩
theorem lw_p74 : lw_okq (⟨"NightHoursModel", "walks", "()V"⟩, 97) := ⟨⟨by decide +kernel, by decide +kernel⟩, List.mem_of_getElem? (i := 1236) (by decide +kernel), List.mem_of_getElem? (i := 1649) (by decide +kernel), List.mem_of_getElem? (i := 1650) (by decide +kernel)⟩
theorem lw_p75 : lw_okq (⟨"NightHoursModel", "meets", "()V"⟩, 97) := ⟨⟨by decide +kernel, by decide +kernel⟩, List.mem_of_getElem? (i := 1236) (by decide +kernel), List.mem_of_getElem? (i := 1653) (by decide +kernel), List.mem_of_getElem? (i := 1654) (by decide +kernel)⟩
theorem lw_p76 : lw_okq (⟨"NightHoursModel", "changes", "()V"⟩, 97) := ⟨⟨by decide +kernel, by decide +kernel⟩, List.mem_of_getElem? (i := 1236) (by decide +kernel), List.mem_of_getElem? (i := 1657) (by decide +kernel), List.mem_of_getElem? (i := 1658) (by decide +kernel)⟩
theorem lw_p77 : lw_okq (⟨"NightHoursModel", "isTime", "(I)Z"⟩, 97) := ⟨⟨by decide +kernel, by decide +kernel⟩, List.mem_of_getElem? (i := 1236) (by decide +kernel), List.mem_of_getElem? (i := 1669) (by decide +kernel), List.mem_of_getElem? (i := 1670) (by decide +kernel)⟩
theorem lw_p78 : lw_okq (⟨"NightHoursModel", "isSaying", "(I)Z"⟩, 97) := ⟨⟨by decide +kernel, by decide +kernel⟩, List.mem_of_getElem? (i := 1236) (by decide +kernel), List.mem_of_getElem? (i := 1684) (by decide +kernel), List.mem_of_getElem? (i := 1685) (by decide +kernel)⟩
theorem lw_p79 : lw_okq (⟨"NightHoursModel", "goesAll", "()V"⟩, 97) := ⟨⟨by decide +kernel, by decide +kernel⟩, List.mem_of_getElem? (i := 1236) (by decide +kernel), List.mem_of_getElem? (i := 1700) (by decide +kernel), List.mem_of_getElem? (i := 1701) (by decide +kernel)⟩
def lw_privs_5 : List (MethodName × Nat) := [(⟨"NightHoursModel", "knows", "(III)V"⟩, 97), (⟨"NightHoursModel", "tellWay", "()V"⟩, 97), (⟨"NightHoursModel", "known", "(I)I"⟩, 97), (⟨"NightHoursModel", "number", "(Z)I"⟩, 97), (⟨"NightHoursModel", "tellTime", "()V"⟩, 97), (⟨"NightHoursModel", "tellSaying", "()V"⟩, 97), (⟨"NightHoursModel", "tellAll", "(I)V"⟩, 97), (⟨"NightHoursModel", "tellSpan", "(I)V"⟩, 97), (⟨"NightHoursModel", "tellOpen", "()V"⟩, 97), (⟨"NightHoursModel", "tellQuestion", "()V"⟩, 97), (⟨"NightHoursModel", "walks", "()V"⟩, 97), (⟨"NightHoursModel", "meets", "()V"⟩, 97), (⟨"NightHoursModel", "changes", "()V"⟩, 97), (⟨"NightHoursModel", "isTime", "(I)Z"⟩, 97), (⟨"NightHoursModel", "isSaying", "(I)Z"⟩, 97), (⟨"NightHoursModel", "goesAll", "()V"⟩, 97)]
theorem lw_r5 : ∀ q ∈ lw_privs_5, lw_okq q := List.forall_mem_cons.mpr ⟨lw_p64, List.forall_mem_cons.mpr ⟨lw_p65, List.forall_mem_cons.mpr ⟨lw_p66, List.forall_mem_cons.mpr ⟨lw_p67, List.forall_mem_cons.mpr ⟨lw_p68, List.forall_mem_cons.mpr ⟨lw_p69, List.forall_mem_cons.mpr ⟨lw_p70, List.forall_mem_cons.mpr ⟨lw_p71, List.forall_mem_cons.mpr ⟨lw_p72, List.forall_mem_cons.mpr ⟨lw_p73, List.forall_mem_cons.mpr ⟨lw_p74, List.forall_mem_cons.mpr ⟨lw_p75, List.forall_mem_cons.mpr ⟨lw_p76, List.forall_mem_cons.mpr ⟨lw_p77, List.forall_mem_cons.mpr ⟨lw_p78, List.forall_mem_cons.mpr ⟨lw_p79, fun _ h => absurd h List.not_mem_nil⟩⟩⟩⟩⟩⟩⟩⟩⟩⟩⟩⟩⟩⟩⟩⟩
theorem lw_p80 : lw_okq (⟨"NightHoursModel", "undoubted", "()I"⟩, 97) := ⟨⟨by decide +kernel, by decide +kernel⟩, List.mem_of_getElem? (i := 1236) (by decide +kernel), List.mem_of_getElem? (i := 1704) (by decide +kernel), List.mem_of_getElem? (i := 1705) (by decide +kernel)⟩
theorem lw_p81 : lw_okq (⟨"NightHoursModel", "lists", "(I)V"⟩, 97) := ⟨⟨by decide +kernel, by decide +kernel⟩, List.mem_of_getElem? (i := 1236) (by decide +kernel), List.mem_of_getElem? (i := 1708) (by decide +kernel), List.mem_of_getElem? (i := 1709) (by decide +kernel)⟩
theorem lw_p82 : lw_okq (⟨"NightHoursModel", "begins", "(I)Z"⟩, 97) := ⟨⟨by decide +kernel, by decide +kernel⟩, List.mem_of_getElem? (i := 1236) (by decide +kernel), List.mem_of_getElem? (i := 1712) (by decide +kernel), List.mem_of_getElem? (i := 1713) (by decide +kernel)⟩
theorem lw_p83 : lw_okq (⟨"NightHoursModel", "bound", "(III)Z"⟩, 97) := ⟨⟨by decide +kernel, by decide +kernel⟩, List.mem_of_getElem? (i := 1236) (by decide +kernel), List.mem_of_getElem? (i := 1716) (by decide +kernel), List.mem_of_getElem? (i := 1717) (by decide +kernel)⟩
theorem lw_p84 : lw_okq (⟨"NightHoursModel", "holdsSpan", "(II)Z"⟩, 97) := ⟨⟨by decide +kernel, by decide +kernel⟩, List.mem_of_getElem? (i := 1236) (by decide +kernel), List.mem_of_getElem? (i := 1720) (by decide +kernel), List.mem_of_getElem? (i := 1721) (by decide +kernel)⟩
theorem lw_p85 : lw_okq (⟨"NightHoursModel", "between", "(IIII)Z"⟩, 97) := ⟨⟨by decide +kernel, by decide +kernel⟩, List.mem_of_getElem? (i := 1236) (by decide +kernel), List.mem_of_getElem? (i := 1724) (by decide +kernel), List.mem_of_getElem? (i := 1725) (by decide +kernel)⟩
theorem lw_p86 : lw_okq (⟨"NightHoursModel", "atMost", "(III)Z"⟩, 97) := ⟨⟨by decide +kernel, by decide +kernel⟩, List.mem_of_getElem? (i := 1236) (by decide +kernel), List.mem_of_getElem? (i := 1728) (by decide +kernel), List.mem_of_getElem? (i := 1729) (by decide +kernel)⟩
theorem lw_p87 : lw_okq (⟨"NightHoursModel", "openAt", "(I)I"⟩, 97) := ⟨⟨by decide +kernel, by decide +kernel⟩, List.mem_of_getElem? (i := 1236) (by decide +kernel), List.mem_of_getElem? (i := 1732) (by decide +kernel), List.mem_of_getElem? (i := 1733) (by decide +kernel)⟩
theorem lw_p88 : lw_okq (⟨"NightHoursModel", "searches", "(Z)I"⟩, 97) := ⟨⟨by decide +kernel, by decide +kernel⟩, List.mem_of_getElem? (i := 1236) (by decide +kernel), List.mem_of_getElem? (i := 1736) (by decide +kernel), List.mem_of_getElem? (i := 1737) (by decide +kernel)⟩
theorem lw_p89 : lw_okq (⟨"NightHoursModel", "choices", "(I)I"⟩, 97) := ⟨⟨by decide +kernel, by decide +kernel⟩, List.mem_of_getElem? (i := 1236) (by decide +kernel), List.mem_of_getElem? (i := 1740) (by decide +kernel), List.mem_of_getElem? (i := 1741) (by decide +kernel)⟩
theorem lw_p90 : lw_okq (⟨"NightHoursModel", "copies", "(II)V"⟩, 97) := ⟨⟨by decide +kernel, by decide +kernel⟩, List.mem_of_getElem? (i := 1236) (by decide +kernel), List.mem_of_getElem? (i := 1744) (by decide +kernel), List.mem_of_getElem? (i := 1745) (by decide +kernel)⟩
theorem lw_p91 : lw_okq (⟨"NightHoursModel", "chooses", "(II)Z"⟩, 97) := ⟨⟨by decide +kernel, by decide +kernel⟩, List.mem_of_getElem? (i := 1236) (by decide +kernel), List.mem_of_getElem? (i := 1748) (by decide +kernel), List.mem_of_getElem? (i := 1749) (by decide +kernel)⟩
theorem lw_p92 : lw_okq (⟨"NightHoursModel", "notes", "(IIZ)V"⟩, 97) := ⟨⟨by decide +kernel, by decide +kernel⟩, List.mem_of_getElem? (i := 1236) (by decide +kernel), List.mem_of_getElem? (i := 1752) (by decide +kernel), List.mem_of_getElem? (i := 1753) (by decide +kernel)⟩
theorem lw_p93 : lw_okq (⟨"NightHoursModel", "asks", "(I)I"⟩, 97) := ⟨⟨by decide +kernel, by decide +kernel⟩, List.mem_of_getElem? (i := 1236) (by decide +kernel), List.mem_of_getElem? (i := 1760) (by decide +kernel), List.mem_of_getElem? (i := 1761) (by decide +kernel)⟩
theorem lw_p94 : lw_okq (⟨"NightHoursModel", "choiceOf", "(II)I"⟩, 97) := ⟨⟨by decide +kernel, by decide +kernel⟩, List.mem_of_getElem? (i := 1236) (by decide +kernel), List.mem_of_getElem? (i := 1764) (by decide +kernel), List.mem_of_getElem? (i := 1765) (by decide +kernel)⟩
theorem lw_p95 : lw_okq (⟨"NightHoursModel", "lays", "(IZ)Z"⟩, 97) := ⟨⟨by decide +kernel, by decide +kernel⟩, List.mem_of_getElem? (i := 1236) (by decide +kernel), List.mem_of_getElem? (i := 1776) (by decide +kernel), List.mem_of_getElem? (i := 1777) (by decide +kernel)⟩
def lw_privs_6 : List (MethodName × Nat) := [(⟨"NightHoursModel", "undoubted", "()I"⟩, 97), (⟨"NightHoursModel", "lists", "(I)V"⟩, 97), (⟨"NightHoursModel", "begins", "(I)Z"⟩, 97), (⟨"NightHoursModel", "bound", "(III)Z"⟩, 97), (⟨"NightHoursModel", "holdsSpan", "(II)Z"⟩, 97), (⟨"NightHoursModel", "between", "(IIII)Z"⟩, 97), (⟨"NightHoursModel", "atMost", "(III)Z"⟩, 97), (⟨"NightHoursModel", "openAt", "(I)I"⟩, 97), (⟨"NightHoursModel", "searches", "(Z)I"⟩, 97), (⟨"NightHoursModel", "choices", "(I)I"⟩, 97), (⟨"NightHoursModel", "copies", "(II)V"⟩, 97), (⟨"NightHoursModel", "chooses", "(II)Z"⟩, 97), (⟨"NightHoursModel", "notes", "(IIZ)V"⟩, 97), (⟨"NightHoursModel", "asks", "(I)I"⟩, 97), (⟨"NightHoursModel", "choiceOf", "(II)I"⟩, 97), (⟨"NightHoursModel", "lays", "(IZ)Z"⟩, 97)]
theorem lw_r6 : ∀ q ∈ lw_privs_6, lw_okq q := List.forall_mem_cons.mpr ⟨lw_p80, List.forall_mem_cons.mpr ⟨lw_p81, List.forall_mem_cons.mpr ⟨lw_p82, List.forall_mem_cons.mpr ⟨lw_p83, List.forall_mem_cons.mpr ⟨lw_p84, List.forall_mem_cons.mpr ⟨lw_p85, List.forall_mem_cons.mpr ⟨lw_p86, List.forall_mem_cons.mpr ⟨lw_p87, List.forall_mem_cons.mpr ⟨lw_p88, List.forall_mem_cons.mpr ⟨lw_p89, List.forall_mem_cons.mpr ⟨lw_p90, List.forall_mem_cons.mpr ⟨lw_p91, List.forall_mem_cons.mpr ⟨lw_p92, List.forall_mem_cons.mpr ⟨lw_p93, List.forall_mem_cons.mpr ⟨lw_p94, List.forall_mem_cons.mpr ⟨lw_p95, fun _ h => absurd h List.not_mem_nil⟩⟩⟩⟩⟩⟩⟩⟩⟩⟩⟩⟩⟩⟩⟩⟩
theorem lw_p96 : lw_okq (⟨"NightHoursModel", "gapNow", "(IIZ)I"⟩, 97) := ⟨⟨by decide +kernel, by decide +kernel⟩, List.mem_of_getElem? (i := 1236) (by decide +kernel), List.mem_of_getElem? (i := 1780) (by decide +kernel), List.mem_of_getElem? (i := 1781) (by decide +kernel)⟩
theorem lw_p97 : lw_okq (⟨"NightHoursModel", "isMinute", "(I)Z"⟩, 97) := ⟨⟨by decide +kernel, by decide +kernel⟩, List.mem_of_getElem? (i := 1236) (by decide +kernel), List.mem_of_getElem? (i := 1796) (by decide +kernel), List.mem_of_getElem? (i := 1797) (by decide +kernel)⟩
theorem lw_p98 : lw_okq (⟨"NightHoursModel", "bearsSpan", "(I)I"⟩, 97) := ⟨⟨by decide +kernel, by decide +kernel⟩, List.mem_of_getElem? (i := 1236) (by decide +kernel), List.mem_of_getElem? (i := 1812) (by decide +kernel), List.mem_of_getElem? (i := 1813) (by decide +kernel)⟩
theorem lw_p99 : lw_okq (⟨"NightHoursModel", "sets", "()V"⟩, 97) := ⟨⟨by decide +kernel, by decide +kernel⟩, List.mem_of_getElem? (i := 1236) (by decide +kernel), List.mem_of_getElem? (i := 1824) (by decide +kernel), List.mem_of_getElem? (i := 1825) (by decide +kernel)⟩
theorem lw_p100 : lw_okq (⟨"NightHoursModel", "sureOnes", "()I"⟩, 97) := ⟨⟨by decide +kernel, by decide +kernel⟩, List.mem_of_getElem? (i := 1236) (by decide +kernel), List.mem_of_getElem? (i := 1828) (by decide +kernel), List.mem_of_getElem? (i := 1829) (by decide +kernel)⟩
theorem lw_p101 : lw_okq (⟨"NightHoursModel", "hasWay", "(I)Z"⟩, 97) := ⟨⟨by decide +kernel, by decide +kernel⟩, List.mem_of_getElem? (i := 1236) (by decide +kernel), List.mem_of_getElem? (i := 1832) (by decide +kernel), List.mem_of_getElem? (i := 1833) (by decide +kernel)⟩
theorem lw_p102 : lw_okq (⟨"NightHoursModel", "trustIn", "(I)I"⟩, 97) := ⟨⟨by decide +kernel, by decide +kernel⟩, List.mem_of_getElem? (i := 1236) (by decide +kernel), List.mem_of_getElem? (i := 1855) (by decide +kernel), List.mem_of_getElem? (i := 1856) (by decide +kernel)⟩
theorem lw_p103 : lw_okq (⟨"NightHoursModel", "itemAt", "(I)I"⟩, 97) := ⟨⟨by decide +kernel, by decide +kernel⟩, List.mem_of_getElem? (i := 1236) (by decide +kernel), List.mem_of_getElem? (i := 1868) (by decide +kernel), List.mem_of_getElem? (i := 1869) (by decide +kernel)⟩
theorem lw_p104 : lw_okq (⟨"NightHoursModel", "pickedStands", "()Z"⟩, 97) := ⟨⟨by decide +kernel, by decide +kernel⟩, List.mem_of_getElem? (i := 1236) (by decide +kernel), List.mem_of_getElem? (i := 1876) (by decide +kernel), List.mem_of_getElem? (i := 1877) (by decide +kernel)⟩
theorem lw_p105 : lw_okq (⟨"NightHoursModel", "rings", "()Z"⟩, 97) := ⟨⟨by decide +kernel, by decide +kernel⟩, List.mem_of_getElem? (i := 1236) (by decide +kernel), List.mem_of_getElem? (i := 1884) (by decide +kernel), List.mem_of_getElem? (i := 1885) (by decide +kernel)⟩
theorem lw_p106 : lw_okq (⟨"NightHoursModel", "isPerson", "(I)Z"⟩, 97) := ⟨⟨by decide +kernel, by decide +kernel⟩, List.mem_of_getElem? (i := 1236) (by decide +kernel), List.mem_of_getElem? (i := 1900) (by decide +kernel), List.mem_of_getElem? (i := 1901) (by decide +kernel)⟩
theorem lw_p107 : lw_okq (⟨"NightHoursModel", "oneMore", "(II)V"⟩, 97) := ⟨⟨by decide +kernel, by decide +kernel⟩, List.mem_of_getElem? (i := 1236) (by decide +kernel), List.mem_of_getElem? (i := 1904) (by decide +kernel), List.mem_of_getElem? (i := 1905) (by decide +kernel)⟩
theorem lw_p108 : lw_okq (⟨"NightHoursModel", "meetsAll", "()V"⟩, 97) := ⟨⟨by decide +kernel, by decide +kernel⟩, List.mem_of_getElem? (i := 1236) (by decide +kernel), List.mem_of_getElem? (i := 1912) (by decide +kernel), List.mem_of_getElem? (i := 1913) (by decide +kernel)⟩
theorem lw_p109 : lw_okq (⟨"NightHoursModel", "sees", "(I)V"⟩, 97) := ⟨⟨by decide +kernel, by decide +kernel⟩, List.mem_of_getElem? (i := 1236) (by decide +kernel), List.mem_of_getElem? (i := 1916) (by decide +kernel), List.mem_of_getElem? (i := 1917) (by decide +kernel)⟩
theorem lw_p110 : lw_okq (⟨"NightHoursModel", "leftOf", "(II)I"⟩, 97) := ⟨⟨by decide +kernel, by decide +kernel⟩, List.mem_of_getElem? (i := 1236) (by decide +kernel), List.mem_of_getElem? (i := 1924) (by decide +kernel), List.mem_of_getElem? (i := 1925) (by decide +kernel)⟩
theorem lw_p111 : lw_okq (⟨"NightHoursModel", "isLeft", "(II)Z"⟩, 97) := ⟨⟨by decide +kernel, by decide +kernel⟩, List.mem_of_getElem? (i := 1236) (by decide +kernel), List.mem_of_getElem? (i := 1928) (by decide +kernel), List.mem_of_getElem? (i := 1929) (by decide +kernel)⟩
def lw_privs_7 : List (MethodName × Nat) := [(⟨"NightHoursModel", "gapNow", "(IIZ)I"⟩, 97), (⟨"NightHoursModel", "isMinute", "(I)Z"⟩, 97), (⟨"NightHoursModel", "bearsSpan", "(I)I"⟩, 97), (⟨"NightHoursModel", "sets", "()V"⟩, 97), (⟨"NightHoursModel", "sureOnes", "()I"⟩, 97), (⟨"NightHoursModel", "hasWay", "(I)Z"⟩, 97), (⟨"NightHoursModel", "trustIn", "(I)I"⟩, 97), (⟨"NightHoursModel", "itemAt", "(I)I"⟩, 97), (⟨"NightHoursModel", "pickedStands", "()Z"⟩, 97), (⟨"NightHoursModel", "rings", "()Z"⟩, 97), (⟨"NightHoursModel", "isPerson", "(I)Z"⟩, 97), (⟨"NightHoursModel", "oneMore", "(II)V"⟩, 97), (⟨"NightHoursModel", "meetsAll", "()V"⟩, 97), (⟨"NightHoursModel", "sees", "(I)V"⟩, 97), (⟨"NightHoursModel", "leftOf", "(II)I"⟩, 97), (⟨"NightHoursModel", "isLeft", "(II)Z"⟩, 97)]
theorem lw_r7 : ∀ q ∈ lw_privs_7, lw_okq q := List.forall_mem_cons.mpr ⟨lw_p96, List.forall_mem_cons.mpr ⟨lw_p97, List.forall_mem_cons.mpr ⟨lw_p98, List.forall_mem_cons.mpr ⟨lw_p99, List.forall_mem_cons.mpr ⟨lw_p100, List.forall_mem_cons.mpr ⟨lw_p101, List.forall_mem_cons.mpr ⟨lw_p102, List.forall_mem_cons.mpr ⟨lw_p103, List.forall_mem_cons.mpr ⟨lw_p104, List.forall_mem_cons.mpr ⟨lw_p105, List.forall_mem_cons.mpr ⟨lw_p106, List.forall_mem_cons.mpr ⟨lw_p107, List.forall_mem_cons.mpr ⟨lw_p108, List.forall_mem_cons.mpr ⟨lw_p109, List.forall_mem_cons.mpr ⟨lw_p110, List.forall_mem_cons.mpr ⟨lw_p111, fun _ h => absurd h List.not_mem_nil⟩⟩⟩⟩⟩⟩⟩⟩⟩⟩⟩⟩⟩⟩⟩⟩
theorem lw_p112 : lw_okq (⟨"NightHoursModel", "answers", "(II)Z"⟩, 97) := ⟨⟨by decide +kernel, by decide +kernel⟩, List.mem_of_getElem? (i := 1236) (by decide +kernel), List.mem_of_getElem? (i := 1932) (by decide +kernel), List.mem_of_getElem? (i := 1933) (by decide +kernel)⟩
theorem lw_p113 : lw_okq (⟨"NightHoursModel", "planOf", "(IZ)I"⟩, 97) := ⟨⟨by decide +kernel, by decide +kernel⟩, List.mem_of_getElem? (i := 1236) (by decide +kernel), List.mem_of_getElem? (i := 1948) (by decide +kernel), List.mem_of_getElem? (i := 1949) (by decide +kernel)⟩
theorem lw_p114 : lw_okq (⟨"NightHoursModel", "plans", "(I)I"⟩, 97) := ⟨⟨by decide +kernel, by decide +kernel⟩, List.mem_of_getElem? (i := 1236) (by decide +kernel), List.mem_of_getElem? (i := 1952) (by decide +kernel), List.mem_of_getElem? (i := 1953) (by decide +kernel)⟩
theorem lw_p115 : lw_okq (⟨"NightHoursModel", "laysSet", "(I)Z"⟩, 97) := ⟨⟨by decide +kernel, by decide +kernel⟩, List.mem_of_getElem? (i := 1236) (by decide +kernel), List.mem_of_getElem? (i := 1968) (by decide +kernel), List.mem_of_getElem? (i := 1969) (by decide +kernel)⟩
theorem lw_p116 : lw_okq (⟨"NightHoursModel", "gives", "(I)I"⟩, 97) := ⟨⟨by decide +kernel, by decide +kernel⟩, List.mem_of_getElem? (i := 1236) (by decide +kernel), List.mem_of_getElem? (i := 1984) (by decide +kernel), List.mem_of_getElem? (i := 1985) (by decide +kernel)⟩
def lw_privs_8 : List (MethodName × Nat) := [(⟨"NightHoursModel", "answers", "(II)Z"⟩, 97), (⟨"NightHoursModel", "planOf", "(IZ)I"⟩, 97), (⟨"NightHoursModel", "plans", "(I)I"⟩, 97), (⟨"NightHoursModel", "laysSet", "(I)Z"⟩, 97), (⟨"NightHoursModel", "gives", "(I)I"⟩, 97)]
theorem lw_r8 : ∀ q ∈ lw_privs_8, lw_okq q := List.forall_mem_cons.mpr ⟨lw_p112, List.forall_mem_cons.mpr ⟨lw_p113, List.forall_mem_cons.mpr ⟨lw_p114, List.forall_mem_cons.mpr ⟨lw_p115, List.forall_mem_cons.mpr ⟨lw_p116, fun _ h => absurd h List.not_mem_nil⟩⟩⟩⟩⟩
def lw_privs : List (MethodName × Nat) := lw_privs_1 ++ (lw_privs_2 ++ (lw_privs_3 ++ (lw_privs_4 ++ (lw_privs_5 ++ (lw_privs_6 ++ (lw_privs_7 ++ (lw_privs_8)))))))
def lw_tbl : List Cond := k2_sels lw_privs ++ tables_1
theorem lw_privs_ok : ∀ q ∈ lw_privs, lw_okq q := by
  show ∀ q ∈ lw_privs_1 ++ (lw_privs_2 ++ (lw_privs_3 ++ (lw_privs_4 ++ (lw_privs_5 ++ (lw_privs_6 ++ (lw_privs_7 ++ (lw_privs_8))))))), lw_okq q
  exact List.forall_mem_append.mpr ⟨lw_r1, List.forall_mem_append.mpr ⟨lw_r2, List.forall_mem_append.mpr ⟨lw_r3, List.forall_mem_append.mpr ⟨lw_r4, List.forall_mem_append.mpr ⟨lw_r5, List.forall_mem_append.mpr ⟨lw_r6, List.forall_mem_append.mpr ⟨lw_r7, lw_r8⟩⟩⟩⟩⟩⟩⟩
end
section
def RX0 : String := "NightHours$Asking"
def TX0 : u_T := fun k => match k with
  | 0 => ("NightHours$Asking", "going", "LNightHours$Going;", true)
  | 1 => ("NightHours$Asking", "book", "LNightHours$Book;", true)
  | 2 => ("NightHours$Asking", "wholeAnswers", "[I", true)
  | 3 => ("NightHours$Asking", "leftRow", "[I", true)
  | 4 => ("NightHours$Asking", "needed", "[I", true)
  | _ => ("NightHours$Asking", "fresh", "Z", false)
def tyX0 : Nat → FieldType := fun k => match k with
  | 0 => .object "NightHours$Going"
  | 1 => .object "NightHours$Book"
  | 2 => .array .int
  | 3 => .array .int
  | 4 => .array .int
  | _ => .boolean
abbrev wsX00 : List Cond := u_ws RX0 TX0 6
theorem nmX0 : ∀ a, a < 6 → ∀ b, b < 6 → a ≠ b → (TX0 a).2.1 ≠ (TX0 b).2.1 := by decide +kernel
theorem tyX0_ok : ∀ k, k < 6 → parseFieldDescriptor (TX0 k).2.2.1 = some (tyX0 k) := by decide +kernel
abbrev cX0_init : ByteArray := prog_2_method_1_code
def yX0_init : MethodName := ⟨RX0, "<init>", "(LNightHours$Going;LNightHours$Book;)V"⟩
abbrev cX0_answered : ByteArray := prog_2_method_2_code
def yX0_answered : MethodName := ⟨RX0, "answered", "(LNightHours$Told;IZ)I"⟩
abbrev cX0_leftWith : ByteArray := prog_2_method_3_code
def yX0_leftWith : MethodName := ⟨RX0, "leftWith", "(LNightHours$Told;II)I"⟩
abbrev cX0_isLeft : ByteArray := prog_2_method_4_code
def yX0_isLeft : MethodName := ⟨RX0, "isLeft", "(LNightHours$Told;IIII)Z"⟩
abbrev cX0_answer : ByteArray := prog_2_method_5_code
def yX0_answer : MethodName := ⟨RX0, "answer", "(LNightHours$Told;III)Z"⟩
abbrev cX0_workOut : ByteArray := prog_2_method_6_code
def yX0_workOut : MethodName := ⟨RX0, "workOut", "(LNightHours$Told;I)V"⟩
abbrev cX0_neededWith : ByteArray := prog_2_method_7_code
def yX0_neededWith : MethodName := ⟨RX0, "neededWith", "(II)I"⟩
abbrev cX0_firstQuestion : ByteArray := prog_2_method_8_code
def yX0_firstQuestion : MethodName := ⟨RX0, "firstQuestion", "(LNightHours$Told;)I"⟩
abbrev cX0_countStates : ByteArray := prog_2_method_9_code
def yX0_countStates : MethodName := ⟨RX0, "countStates", "(LNightHours$Told;)V"⟩
abbrev cX0_answersOf : ByteArray := prog_2_method_10_code
def yX0_answersOf : MethodName := ⟨RX0, "answersOf", "(LNightHours$Told;I)I"⟩
abbrev cX0_countLeft : ByteArray := prog_2_method_11_code
def yX0_countLeft : MethodName := ⟨RX0, "countLeft", "(II)I"⟩
abbrev cX0_spread : ByteArray := prog_2_method_12_code
def yX0_spread : MethodName := ⟨RX0, "spread", "(LNightHours$Told;IIII)V"⟩
def RX1 : String := "NightHours$Book"
def TX1 : u_T := fun k => match k with
  | 0 => ("NightHours$Book", "tryRow", "[I", true)
  | 1 => ("NightHours$Book", "sayRow", "[I", true)
  | _ => ("NightHours$Book", "moveRow", "[J", true)
def tyX1 : Nat → FieldType := fun k => match k with
  | 0 => .array .int
  | 1 => .array .int
  | _ => .array .long
abbrev wsX10 : List Cond := u_ws RX1 TX1 3
theorem nmX1 : ∀ a, a < 3 → ∀ b, b < 3 → a ≠ b → (TX1 a).2.1 ≠ (TX1 b).2.1 := by decide +kernel
theorem tyX1_ok : ∀ k, k < 3 → parseFieldDescriptor (TX1 k).2.2.1 = some (tyX1 k) := by decide +kernel
abbrev cX1_init : ByteArray := prog_3_method_1_code
def yX1_init : MethodName := ⟨RX1, "<init>", "()V"⟩
abbrev cX1_addTry : ByteArray := prog_3_method_2_code
def yX1_addTry : MethodName := ⟨RX1, "addTry", "(IIIZ)V"⟩
abbrev cX1_addWay : ByteArray := prog_3_method_3_code
def yX1_addWay : MethodName := ⟨RX1, "addWay", "(I[I[II)V"⟩
abbrev cX1_choiceOf : ByteArray := prog_3_method_4_code
def yX1_choiceOf : MethodName := ⟨RX1, "choiceOf", "(II)I"⟩
abbrev cX1_tryOf : ByteArray := prog_3_method_5_code
def yX1_tryOf : MethodName := ⟨RX1, "tryOf", "(II)I"⟩
def RX2 : String := "NightHours$Going"
def TX2 : u_T := fun k => match k with
  | 0 => ("NightHours$Going", "net", "LNightHours$Net;", true)
  | 1 => ("NightHours$Going", "isHard", "Z", true)
  | 2 => ("NightHours$Going", "item", "[I", true)
  | 3 => ("NightHours$Going", "chosen", "[I", true)
  | 4 => ("NightHours$Going", "told", "LNightHours$Told;", false)
  | 5 => ("NightHours$Going", "held", "LNightHours$Held;", false)
  | 6 => ("NightHours$Going", "built", "I", false)
  | 7 => ("NightHours$Going", "widened", "I", false)
  | 8 => ("NightHours$Going", "give", "I", false)
  | 9 => ("NightHours$Going", "guestPlace", "I", false)
  | 10 => ("NightHours$Going", "hasGuest", "Z", false)
  | 11 => ("NightHours$Going", "items", "I", false)
  | 12 => ("NightHours$Going", "based", "Z", false)
  | 13 => ("NightHours$Going", "tries", "I", false)
  | 14 => ("NightHours$Going", "found", "I", false)
  | 15 => ("NightHours$Going", "spent", "Z", false)
  | 16 => ("NightHours$Going", "guestLeast", "I", false)
  | _ => ("NightHours$Going", "guestMost", "I", false)
def tyX2 : Nat → FieldType := fun k => match k with
  | 0 => .object "NightHours$Net"
  | 1 => .boolean
  | 2 => .array .int
  | 3 => .array .int
  | 4 => .object "NightHours$Told"
  | 5 => .object "NightHours$Held"
  | 6 => .int
  | 7 => .int
  | 8 => .int
  | 9 => .int
  | 10 => .boolean
  | 11 => .int
  | 12 => .boolean
  | 13 => .int
  | 14 => .int
  | 15 => .boolean
  | 16 => .int
  | _ => .int
abbrev wsX20 : List Cond := u_ws RX2 TX2 18
theorem nmX2 : ∀ a, a < 18 → ∀ b, b < 18 → a ≠ b → (TX2 a).2.1 ≠ (TX2 b).2.1 := by decide +kernel
theorem tyX2_ok : ∀ k, k < 18 → parseFieldDescriptor (TX2 k).2.2.1 = some (tyX2 k) := by decide +kernel
abbrev cX2_init : ByteArray := prog_4_method_1_code
def yX2_init : MethodName := ⟨RX2, "<init>", "(IIZLNightHours$Told;LNightHours$Held;)V"⟩
abbrev cX2_begin : ByteArray := prog_4_method_2_code
def yX2_begin : MethodName := ⟨RX2, "begin", "(LNightHours$Told;LNightHours$Held;II)V"⟩
abbrev cX2_addItem : ByteArray := prog_4_method_3_code
def yX2_addItem : MethodName := ⟨RX2, "addItem", "(I)V"⟩
abbrev cX2_layBase : ByteArray := prog_4_method_4_code
def yX2_layBase : MethodName := ⟨RX2, "layBase", "(I)V"⟩
abbrev cX2_host : ByteArray := prog_4_method_5_code
def yX2_host : MethodName := ⟨RX2, "host", "(IIII)V"⟩
abbrev cX2_widen : ByteArray := prog_4_method_6_code
def yX2_widen : MethodName := ⟨RX2, "widen", "(II)V"⟩
abbrev cX2_bind : ByteArray := prog_4_method_7_code
def yX2_bind : MethodName := ⟨RX2, "bind", "(IIIII)Z"⟩
abbrev cX2_choicesOf : ByteArray := prog_4_method_8_code
def yX2_choicesOf : MethodName := ⟨RX2, "choicesOf", "(I)I"⟩
abbrev cX2_walkOf : ByteArray := prog_4_method_9_code
def yX2_walkOf : MethodName := ⟨RX2, "walkOf", "(I)I"⟩
abbrev cX2_push : ByteArray := prog_4_method_10_code
def yX2_push : MethodName := ⟨RX2, "push", "(III)Z"⟩
abbrev cX2_pushMove : ByteArray := prog_4_method_11_code
def yX2_pushMove : MethodName := ⟨RX2, "pushMove", "(III)Z"⟩
abbrev cX2_goThrough : ByteArray := prog_4_method_12_code
def yX2_goThrough : MethodName := ⟨RX2, "goThrough", "(LNightHours$Book;Z)V"⟩
abbrev cX2_noteWay : ByteArray := prog_4_method_13_code
def yX2_noteWay : MethodName := ⟨RX2, "noteWay", "(LNightHours$Book;)V"⟩
abbrev cX2_bring : ByteArray := prog_4_method_14_code
def yX2_bring : MethodName := ⟨RX2, "bring", "(LNightHours$Book;I)Z"⟩
abbrev cX2_minute : ByteArray := prog_4_method_15_code
def yX2_minute : MethodName := ⟨RX2, "minute", "(IIZ)I"⟩
abbrev cX2_distance : ByteArray := prog_4_method_16_code
def yX2_distance : MethodName := ⟨RX2, "distance", "(IIIZ)I"⟩
abbrev cX2_takes : ByteArray := prog_4_method_17_code
def yX2_takes : MethodName := ⟨RX2, "takes", "(I[I)Z"⟩
abbrev cX2_minuteWith : ByteArray := prog_4_method_18_code
def yX2_minuteWith : MethodName := ⟨RX2, "minuteWith", "(II[IZ)I"⟩
def RX3 : String := "NightHours$Grammar"
def TX3 : u_T := fun k => match k with
  | 0 => ("NightHours$Grammar", "tells", "[I", true)
  | 1 => ("NightHours$Grammar", "tell", "I", false)
  | 2 => ("NightHours$Grammar", "alls", "I", false)
  | _ => ("NightHours$Grammar", "parts", "I", false)
def tyX3 : Nat → FieldType := fun k => match k with
  | 0 => .array .int
  | 1 => .int
  | 2 => .int
  | _ => .int
abbrev wsX30 : List Cond := u_ws RX3 TX3 4
theorem nmX3 : ∀ a, a < 4 → ∀ b, b < 4 → a ≠ b → (TX3 a).2.1 ≠ (TX3 b).2.1 := by decide +kernel
theorem tyX3_ok : ∀ k, k < 4 → parseFieldDescriptor (TX3 k).2.2.1 = some (tyX3 k) := by decide +kernel
abbrev cX3_init : ByteArray := prog_5_method_1_code
def yX3_init : MethodName := ⟨RX3, "<init>", "()V"⟩
abbrev cX3_clear : ByteArray := prog_5_method_2_code
def yX3_clear : MethodName := ⟨RX3, "clear", "()V"⟩
abbrev cX3_follow : ByteArray := prog_5_method_3_code
def yX3_follow : MethodName := ⟨RX3, "follow", "(II)I"⟩
abbrev cX3_isBehindMinus : ByteArray := prog_5_method_4_code
def yX3_isBehindMinus : MethodName := ⟨RX3, "isBehindMinus", "(I)Z"⟩
abbrev cX3_faultOf : ByteArray := prog_5_method_5_code
def yX3_faultOf : MethodName := ⟨RX3, "faultOf", "(III)I"⟩
abbrev cX3_hasRoom : ByteArray := prog_5_method_6_code
def yX3_hasRoom : MethodName := ⟨RX3, "hasRoom", "(II)Z"⟩
def RX4 : String := "NightHours$Held"
def TX4 : u_T := fun k => match k with
  | 0 => ("NightHours$Held", "doubted", "I", false)
  | 1 => ("NightHours$Held", "moreCount", "I", false)
  | 2 => ("NightHours$Held", "hours", "[I", true)
  | 3 => ("NightHours$Held", "picks", "[I", true)
  | _ => ("NightHours$Held", "more", "LNightHours$Spans;", true)
def tyX4 : Nat → FieldType := fun k => match k with
  | 0 => .int
  | 1 => .int
  | 2 => .array .int
  | 3 => .array .int
  | _ => .object "NightHours$Spans"
abbrev wsX40 : List Cond := u_ws RX4 TX4 5
theorem nmX4 : ∀ a, a < 5 → ∀ b, b < 5 → a ≠ b → (TX4 a).2.1 ≠ (TX4 b).2.1 := by decide +kernel
theorem tyX4_ok : ∀ k, k < 5 → parseFieldDescriptor (TX4 k).2.2.1 = some (tyX4 k) := by decide +kernel
abbrev cX4_init : ByteArray := prog_6_method_1_code
def yX4_init : MethodName := ⟨RX4, "<init>", "()V"⟩
abbrev cX4_clear : ByteArray := prog_6_method_2_code
def yX4_clear : MethodName := ⟨RX4, "clear", "()V"⟩
def RX5 : String := "NightHours$Net"
def TX5 : u_T := fun k => match k with
  | 0 => ("NightHours$Net", "most", "[I", true)
  | 1 => ("NightHours$Net", "stead", "[I", true)
  | 2 => ("NightHours$Net", "nearest", "[I", true)
  | 3 => ("NightHours$Net", "farthest", "[I", true)
  | 4 => ("NightHours$Net", "nodes", "I", false)
  | _ => ("NightHours$Net", "area", "I", false)
def tyX5 : Nat → FieldType := fun k => match k with
  | 0 => .array .int
  | 1 => .array .int
  | 2 => .array .int
  | 3 => .array .int
  | 4 => .int
  | _ => .int
abbrev wsX50 : List Cond := u_ws RX5 TX5 6
theorem nmX5 : ∀ a, a < 6 → ∀ b, b < 6 → a ≠ b → (TX5 a).2.1 ≠ (TX5 b).2.1 := by decide +kernel
theorem tyX5_ok : ∀ k, k < 6 → parseFieldDescriptor (TX5 k).2.2.1 = some (tyX5 k) := by decide +kernel
abbrev cX5_init : ByteArray := prog_7_method_1_code
def yX5_init : MethodName := ⟨RX5, "<init>", "(II)V"⟩
abbrev cX5_hasLevel : ByteArray := prog_7_method_2_code
def yX5_hasLevel : MethodName := ⟨RX5, "hasLevel", "(I)Z"⟩
abbrev cX5_hasNode : ByteArray := prog_7_method_3_code
def yX5_hasNode : MethodName := ⟨RX5, "hasNode", "(I)Z"⟩
abbrev cX5_blank : ByteArray := prog_7_method_4_code
def yX5_blank : MethodName := ⟨RX5, "blank", "(I)V"⟩
abbrev cX5_loose : ByteArray := prog_7_method_5_code
def yX5_loose : MethodName := ⟨RX5, "loose", "(IIII)V"⟩
abbrev cX5_copyUp : ByteArray := prog_7_method_6_code
def yX5_copyUp : MethodName := ⟨RX5, "copyUp", "(I)V"⟩
abbrev cX5_reach : ByteArray := prog_7_method_7_code
def yX5_reach : MethodName := ⟨RX5, "reach", "(III)I"⟩
abbrev cX5_tighten : ByteArray := prog_7_method_8_code
def yX5_tighten : MethodName := ⟨RX5, "tighten", "(IIII)Z"⟩
abbrev cX5_tightenRow : ByteArray := prog_7_method_9_code
def yX5_tightenRow : MethodName := ⟨RX5, "tightenRow", "(III)V"⟩
def RX6 : String := "NightHours$Quarrelling"
def TX6 : u_T := fun k => match k with
  | 0 => ("NightHours$Quarrelling", "going", "LNightHours$Going;", true)
  | 1 => ("NightHours$Quarrelling", "hasWay", "[Z", true)
  | 2 => ("NightHours$Quarrelling", "quarrelRow", "[I", true)
  | 3 => ("NightHours$Quarrelling", "givingRow", "[I", true)
  | 4 => ("NightHours$Quarrelling", "quarrelCount", "I", false)
  | 5 => ("NightHours$Quarrelling", "givingCount", "I", false)
  | 6 => ("NightHours$Quarrelling", "ringRow", "[I", true)
  | 7 => ("NightHours$Quarrelling", "ringCount", "I", false)
  | 8 => ("NightHours$Quarrelling", "fresh", "Z", false)
  | 9 => ("NightHours$Quarrelling", "ringFresh", "Z", false)
  | 10 => ("NightHours$Quarrelling", "spent", "Z", false)
  | _ => ("NightHours$Quarrelling", "tight", "Z", false)
def tyX6 : Nat → FieldType := fun k => match k with
  | 0 => .object "NightHours$Going"
  | 1 => .array .boolean
  | 2 => .array .int
  | 3 => .array .int
  | 4 => .int
  | 5 => .int
  | 6 => .array .int
  | 7 => .int
  | 8 => .boolean
  | 9 => .boolean
  | 10 => .boolean
  | _ => .boolean
abbrev wsX60 : List Cond := u_ws RX6 TX6 12
theorem nmX6 : ∀ a, a < 12 → ∀ b, b < 12 → a ≠ b → (TX6 a).2.1 ≠ (TX6 b).2.1 := by decide +kernel
theorem tyX6_ok : ∀ k, k < 12 → parseFieldDescriptor (TX6 k).2.2.1 = some (tyX6 k) := by decide +kernel
abbrev cX6_init : ByteArray := prog_8_method_1_code
def yX6_init : MethodName := ⟨RX6, "<init>", "(LNightHours$Going;)V"⟩
abbrev cX6_isKnown : ByteArray := prog_8_method_2_code
def yX6_isKnown : MethodName := ⟨RX6, "isKnown", "(LNightHours$Told;LNightHours$Held;)Z"⟩
abbrev cX6_goThroughAll : ByteArray := prog_8_method_3_code
def yX6_goThroughAll : MethodName := ⟨RX6, "goThroughAll", "(LNightHours$Told;LNightHours$Held;I)Z"⟩
abbrev cX6_listSets : ByteArray := prog_8_method_4_code
def yX6_listSets : MethodName := ⟨RX6, "listSets", "(II)V"⟩
abbrev cX6_isQuarrel : ByteArray := prog_8_method_5_code
def yX6_isQuarrel : MethodName := ⟨RX6, "isQuarrel", "(I)Z"⟩
abbrev cX6_isGivingUp : ByteArray := prog_8_method_6_code
def yX6_isGivingUp : MethodName := ⟨RX6, "isGivingUp", "(II)Z"⟩
abbrev cX6_isTight : ByteArray := prog_8_method_7_code
def yX6_isTight : MethodName := ⟨RX6, "isTight", "(LNightHours$Told;LNightHours$Held;)Z"⟩
abbrev cX6_holdTogether : ByteArray := prog_8_method_8_code
def yX6_holdTogether : MethodName := ⟨RX6, "holdTogether", "(LNightHours$Held;J)Z"⟩
abbrev cX6_itemOf : ByteArray := prog_8_method_9_code
def yX6_itemOf : MethodName := ⟨RX6, "itemOf", "(I)I"⟩
abbrev cX6_listRing : ByteArray := prog_8_method_10_code
def yX6_listRing : MethodName := ⟨RX6, "listRing", "(LNightHours$Held;)V"⟩
abbrev cX6_cheapestGiving : ByteArray := prog_8_method_11_code
def yX6_cheapestGiving : MethodName := ⟨RX6, "cheapestGiving", "(LNightHours$Told;)I"⟩
def RX7 : String := "NightHours$Reader"
def TX7 : u_T := fun k => match k with
  | 0 => ("NightHours$Reader", "tokens", "LNightHours$Tokens;", true)
  | 1 => ("NightHours$Reader", "grammar", "LNightHours$Grammar;", true)
  | 2 => ("NightHours$Reader", "names", "[J", true)
  | 3 => ("NightHours$Reader", "nameKind", "[I", true)
  | 4 => ("NightHours$Reader", "nameNumber", "[I", true)
  | 5 => ("NightHours$Reader", "nameCount", "I", false)
  | 6 => ("NightHours$Reader", "into", "LNightHours$Told;", false)
  | 7 => ("NightHours$Reader", "tell", "I", false)
  | 8 => ("NightHours$Reader", "x", "I", false)
  | 9 => ("NightHours$Reader", "y", "I", false)
  | 10 => ("NightHours$Reader", "low", "I", false)
  | _ => ("NightHours$Reader", "faultPlace", "I", false)
def tyX7 : Nat → FieldType := fun k => match k with
  | 0 => .object "NightHours$Tokens"
  | 1 => .object "NightHours$Grammar"
  | 2 => .array .long
  | 3 => .array .int
  | 4 => .array .int
  | 5 => .int
  | 6 => .object "NightHours$Told"
  | 7 => .int
  | 8 => .int
  | 9 => .int
  | 10 => .int
  | _ => .int
abbrev wsX70 : List Cond := u_ws RX7 TX7 12
theorem nmX7 : ∀ a, a < 12 → ∀ b, b < 12 → a ≠ b → (TX7 a).2.1 ≠ (TX7 b).2.1 := by decide +kernel
theorem tyX7_ok : ∀ k, k < 12 → parseFieldDescriptor (TX7 k).2.2.1 = some (tyX7 k) := by decide +kernel
abbrev cX7_init : ByteArray := prog_9_method_1_code
def yX7_init : MethodName := ⟨RX7, "<init>", "()V"⟩
abbrev cX7_readTape : ByteArray := prog_9_method_2_code
def yX7_readTape : MethodName := ⟨RX7, "readTape", "([BI)I"⟩
abbrev cX7_changePlaces : ByteArray := prog_9_method_3_code
def yX7_changePlaces : MethodName := ⟨RX7, "changePlaces", "(LNightHours$Told;)LNightHours$Told;"⟩
abbrev cX7_syntaxFault : ByteArray := prog_9_method_4_code
def yX7_syntaxFault : MethodName := ⟨RX7, "syntaxFault", "()I"⟩
abbrev cX7_meaningFault : ByteArray := prog_9_method_5_code
def yX7_meaningFault : MethodName := ⟨RX7, "meaningFault", "()I"⟩
abbrev cX7_take : ByteArray := prog_9_method_6_code
def yX7_take : MethodName := ⟨RX7, "take", "(IIJ)I"⟩
abbrev cX7_takeNew : ByteArray := prog_9_method_7_code
def yX7_takeNew : MethodName := ⟨RX7, "takeNew", "(J)I"⟩
abbrev cX7_numberNew : ByteArray := prog_9_method_8_code
def yX7_numberNew : MethodName := ⟨RX7, "numberNew", "(I)I"⟩
abbrev cX7_find : ByteArray := prog_9_method_9_code
def yX7_find : MethodName := ⟨RX7, "find", "(JI)I"⟩
abbrev cX7_takePath : ByteArray := prog_9_method_10_code
def yX7_takePath : MethodName := ⟨RX7, "takePath", "(IJ)I"⟩
abbrev cX7_takeWhere : ByteArray := prog_9_method_11_code
def yX7_takeWhere : MethodName := ⟨RX7, "takeWhere", "(IJ)I"⟩
abbrev cX7_takeOpen : ByteArray := prog_9_method_12_code
def yX7_takeOpen : MethodName := ⟨RX7, "takeOpen", "(IJ)I"⟩
abbrev cX7_takeSpanTime : ByteArray := prog_9_method_13_code
def yX7_takeSpanTime : MethodName := ⟨RX7, "takeSpanTime", "(IJ)I"⟩
abbrev cX7_takeTrust : ByteArray := prog_9_method_14_code
def yX7_takeTrust : MethodName := ⟨RX7, "takeTrust", "(I)I"⟩
abbrev cX7_takeInt : ByteArray := prog_9_method_15_code
def yX7_takeInt : MethodName := ⟨RX7, "takeInt", "(III)I"⟩
abbrev cX7_endPathOrOpen : ByteArray := prog_9_method_16_code
def yX7_endPathOrOpen : MethodName := ⟨RX7, "endPathOrOpen", "(I)V"⟩
abbrev cX7_endSpan : ByteArray := prog_9_method_17_code
def yX7_endSpan : MethodName := ⟨RX7, "endSpan", "(I)V"⟩
def RX8 : String := "NightHours$Spans"
def TX8 : u_T := fun k => match k with
  | 0 => ("NightHours$Spans", "x", "[I", true)
  | 1 => ("NightHours$Spans", "y", "[I", true)
  | 2 => ("NightHours$Spans", "low", "[I", true)
  | _ => ("NightHours$Spans", "high", "[I", true)
def tyX8 : Nat → FieldType := fun k => match k with
  | 0 => .array .int
  | 1 => .array .int
  | 2 => .array .int
  | _ => .array .int
abbrev wsX80 : List Cond := u_ws RX8 TX8 4
theorem nmX8 : ∀ a, a < 4 → ∀ b, b < 4 → a ≠ b → (TX8 a).2.1 ≠ (TX8 b).2.1 := by decide +kernel
theorem tyX8_ok : ∀ k, k < 4 → parseFieldDescriptor (TX8 k).2.2.1 = some (tyX8 k) := by decide +kernel
abbrev cX8_init : ByteArray := prog_10_method_1_code
def yX8_init : MethodName := ⟨RX8, "<init>", "(I)V"⟩
abbrev cX8_put : ByteArray := prog_10_method_2_code
def yX8_put : MethodName := ⟨RX8, "put", "(III)V"⟩
abbrev cX8_bound : ByteArray := prog_10_method_3_code
def yX8_bound : MethodName := ⟨RX8, "bound", "(III)V"⟩
abbrev cX8_hasRow : ByteArray := prog_10_method_4_code
def yX8_hasRow : MethodName := ⟨RX8, "hasRow", "(I)Z"⟩
abbrev cX8_isSet : ByteArray := prog_10_method_5_code
def yX8_isSet : MethodName := ⟨RX8, "isSet", "(I[I)Z"⟩
abbrev cX8_holds : ByteArray := prog_10_method_6_code
def yX8_holds : MethodName := ⟨RX8, "holds", "(I[I)Z"⟩
def RX9 : String := "NightHours$Tokens"
def TX9 : u_T := fun k => match k with
  | 0 => ("NightHours$Tokens", "kind", "[I", true)
  | 1 => ("NightHours$Tokens", "place", "[I", true)
  | 2 => ("NightHours$Tokens", "value", "[J", true)
  | _ => ("NightHours$Tokens", "count", "I", false)
def tyX9 : Nat → FieldType := fun k => match k with
  | 0 => .array .int
  | 1 => .array .int
  | 2 => .array .long
  | _ => .int
abbrev wsX90 : List Cond := u_ws RX9 TX9 4
theorem nmX9 : ∀ a, a < 4 → ∀ b, b < 4 → a ≠ b → (TX9 a).2.1 ≠ (TX9 b).2.1 := by decide +kernel
theorem tyX9_ok : ∀ k, k < 4 → parseFieldDescriptor (TX9 k).2.2.1 = some (tyX9 k) := by decide +kernel
abbrev cX9_init : ByteArray := prog_11_method_1_code
def yX9_init : MethodName := ⟨RX9, "<init>", "()V"⟩
abbrev cX9_scan : ByteArray := prog_11_method_2_code
def yX9_scan : MethodName := ⟨RX9, "scan", "([BI)V"⟩
abbrev cX9_scanOne : ByteArray := prog_11_method_3_code
def yX9_scanOne : MethodName := ⟨RX9, "scanOne", "([BII)I"⟩
abbrev cX9_endOfLetters : ByteArray := prog_11_method_4_code
def yX9_endOfLetters : MethodName := ⟨RX9, "endOfLetters", "([BII)I"⟩
abbrev cX9_endOfDigits : ByteArray := prog_11_method_5_code
def yX9_endOfDigits : MethodName := ⟨RX9, "endOfDigits", "([BII)I"⟩
abbrev cX9_wordOrName : ByteArray := prog_11_method_6_code
def yX9_wordOrName : MethodName := ⟨RX9, "wordOrName", "(J)I"⟩
abbrev cX9_sign : ByteArray := prog_11_method_7_code
def yX9_sign : MethodName := ⟨RX9, "sign", "(B)I"⟩
abbrev cX9_isBlank : ByteArray := prog_11_method_8_code
def yX9_isBlank : MethodName := ⟨RX9, "isBlank", "(B)Z"⟩
abbrev cX9_isLetter : ByteArray := prog_11_method_9_code
def yX9_isLetter : MethodName := ⟨RX9, "isLetter", "(B)Z"⟩
abbrev cX9_isDigit : ByteArray := prog_11_method_10_code
def yX9_isDigit : MethodName := ⟨RX9, "isDigit", "(B)Z"⟩
def RX10 : String := "NightHours$Told"
def TX10 : u_T := fun k => match k with
  | 0 => ("NightHours$Told", "persons", "I", false)
  | 1 => ("NightHours$Told", "places", "I", false)
  | 2 => ("NightHours$Told", "times", "I", false)
  | 3 => ("NightHours$Told", "sayings", "I", false)
  | 4 => ("NightHours$Told", "questions", "I", false)
  | 5 => ("NightHours$Told", "moves", "I", false)
  | 6 => ("NightHours$Told", "sureBits", "I", false)
  | 7 => ("NightHours$Told", "walks", "[I", true)
  | 8 => ("NightHours$Told", "timePerson", "[I", true)
  | 9 => ("NightHours$Told", "timePlace", "[I", true)
  | 10 => ("NightHours$Told", "opens", "LNightHours$Spans;", true)
  | 11 => ("NightHours$Told", "trust", "[I", true)
  | 12 => ("NightHours$Told", "choices", "[I", true)
  | 13 => ("NightHours$Told", "parts", "[I", true)
  | 14 => ("NightHours$Told", "spans", "LNightHours$Spans;", true)
  | 15 => ("NightHours$Told", "asked", "LNightHours$Spans;", true)
  | 16 => ("NightHours$Told", "moveLesser", "[I", true)
  | 17 => ("NightHours$Told", "moveGreater", "[I", true)
  | _ => ("NightHours$Told", "moveWalk", "[I", true)
def tyX10 : Nat → FieldType := fun k => match k with
  | 0 => .int
  | 1 => .int
  | 2 => .int
  | 3 => .int
  | 4 => .int
  | 5 => .int
  | 6 => .int
  | 7 => .array .int
  | 8 => .array .int
  | 9 => .array .int
  | 10 => .object "NightHours$Spans"
  | 11 => .array .int
  | 12 => .array .int
  | 13 => .array .int
  | 14 => .object "NightHours$Spans"
  | 15 => .object "NightHours$Spans"
  | 16 => .array .int
  | 17 => .array .int
  | _ => .array .int
abbrev wsX100 : List Cond := u_ws RX10 TX10 19
theorem nmX10 : ∀ a, a < 19 → ∀ b, b < 19 → a ≠ b → (TX10 a).2.1 ≠ (TX10 b).2.1 := by decide +kernel
theorem tyX10_ok : ∀ k, k < 19 → parseFieldDescriptor (TX10 k).2.2.1 = some (tyX10 k) := by decide +kernel
abbrev cX10_init : ByteArray := prog_12_method_1_code
def yX10_init : MethodName := ⟨RX10, "<init>", "()V"⟩
abbrev cX10_clear : ByteArray := prog_12_method_2_code
def yX10_clear : MethodName := ⟨RX10, "clear", "()V"⟩
abbrev cX10_addSaying : ByteArray := prog_12_method_3_code
def yX10_addSaying : MethodName := ⟨RX10, "addSaying", "(Z)V"⟩
abbrev cX10_addPart : ByteArray := prog_12_method_4_code
def yX10_addPart : MethodName := ⟨RX10, "addPart", "(Z)V"⟩
abbrev cX10_lastSpan : ByteArray := prog_12_method_5_code
def yX10_lastSpan : MethodName := ⟨RX10, "lastSpan", "()I"⟩
abbrev cX10_trustLast : ByteArray := prog_12_method_6_code
def yX10_trustLast : MethodName := ⟨RX10, "trustLast", "(I)V"⟩
abbrev cX10_putLastTime : ByteArray := prog_12_method_7_code
def yX10_putLastTime : MethodName := ⟨RX10, "putLastTime", "([II)V"⟩
abbrev cX10_isOpen : ByteArray := prog_12_method_8_code
def yX10_isOpen : MethodName := ⟨RX10, "isOpen", "(I)Z"⟩
abbrev cX10_allBits : ByteArray := prog_12_method_9_code
def yX10_allBits : MethodName := ⟨RX10, "allBits", "()I"⟩
abbrev cX10_firstSpan : ByteArray := prog_12_method_10_code
def yX10_firstSpan : MethodName := ⟨RX10, "firstSpan", "(II)I"⟩
abbrev cX10_partsOf : ByteArray := prog_12_method_11_code
def yX10_partsOf : MethodName := ⟨RX10, "partsOf", "(II)I"⟩
abbrev cX10_walkBetween : ByteArray := prog_12_method_12_code
def yX10_walkBetween : MethodName := ⟨RX10, "walkBetween", "(II)I"⟩
abbrev cX10_trustOf : ByteArray := prog_12_method_13_code
def yX10_trustOf : MethodName := ⟨RX10, "trustOf", "(I)I"⟩
abbrev cX10_addPath : ByteArray := prog_12_method_14_code
def yX10_addPath : MethodName := ⟨RX10, "addPath", "(III)V"⟩
abbrev cX10_findWalks : ByteArray := prog_12_method_15_code
def yX10_findWalks : MethodName := ⟨RX10, "findWalks", "()V"⟩
abbrev cX10_findMoves : ByteArray := prog_12_method_16_code
def yX10_findMoves : MethodName := ⟨RX10, "findMoves", "()V"⟩
def RX11 : String := "NightHours"
def TX11 : u_T := fun k => match k with
  | 0 => ("NightHours", "tape", "[B", true)
  | 1 => ("NightHours", "reader", "LNightHours$Reader;", true)
  | 2 => ("NightHours", "held", "LNightHours$Held;", true)
  | 3 => ("NightHours", "book", "LNightHours$Book;", true)
  | 4 => ("NightHours", "all", "LNightHours$Going;", true)
  | 5 => ("NightHours", "hard", "LNightHours$Going;", true)
  | 6 => ("NightHours", "side", "LNightHours$Going;", true)
  | 7 => ("NightHours", "quarrelling", "LNightHours$Quarrelling;", true)
  | 8 => ("NightHours", "asking", "LNightHours$Asking;", true)
  | 9 => ("NightHours", "told", "LNightHours$Told;", false)
  | 10 => ("NightHours", "bytes", "I", false)
  | 11 => ("NightHours", "faultPlace", "I", false)
  | 12 => ("NightHours", "allFresh", "Z", false)
  | _ => ("NightHours", "hardFresh", "Z", false)
def tyX11 : Nat → FieldType := fun k => match k with
  | 0 => .array .byte
  | 1 => .object "NightHours$Reader"
  | 2 => .object "NightHours$Held"
  | 3 => .object "NightHours$Book"
  | 4 => .object "NightHours$Going"
  | 5 => .object "NightHours$Going"
  | 6 => .object "NightHours$Going"
  | 7 => .object "NightHours$Quarrelling"
  | 8 => .object "NightHours$Asking"
  | 9 => .object "NightHours$Told"
  | 10 => .int
  | 11 => .int
  | 12 => .boolean
  | _ => .boolean
abbrev wsX110 : List Cond := u_ws RX11 TX11 14
theorem nmX11 : ∀ a, a < 14 → ∀ b, b < 14 → a ≠ b → (TX11 a).2.1 ≠ (TX11 b).2.1 := by decide +kernel
theorem tyX11_ok : ∀ k, k < 14 → parseFieldDescriptor (TX11 k).2.2.1 = some (tyX11 k) := by decide +kernel
abbrev cX11_init : ByteArray := prog_1_method_1_code
def yX11_init : MethodName := ⟨RX11, "<init>", "()V"⟩
abbrev cX11_feed : ByteArray := prog_1_method_2_code
def yX11_feed : MethodName := ⟨RX11, "feed", "(IIIII)I"⟩
abbrev cX11_putFour : ByteArray := prog_1_method_3_code
def yX11_putFour : MethodName := ⟨RX11, "putFour", "(I)V"⟩
abbrev cX11_back : ByteArray := prog_1_method_4_code
def yX11_back : MethodName := ⟨RX11, "back", "(I)I"⟩
abbrev cX11_read : ByteArray := prog_1_method_5_code
def yX11_read : MethodName := ⟨RX11, "read", "()I"⟩
abbrev cX11_stale : ByteArray := prog_1_method_6_code
def yX11_stale : MethodName := ⟨RX11, "stale", "()V"⟩
abbrev cX11_place : ByteArray := prog_1_method_7_code
def yX11_place : MethodName := ⟨RX11, "place", "()I"⟩
abbrev cX11_doubt : ByteArray := prog_1_method_8_code
def yX11_doubt : MethodName := ⟨RX11, "doubt", "(IZ)Z"⟩
abbrev cX11_isSaying : ByteArray := prog_1_method_9_code
def yX11_isSaying : MethodName := ⟨RX11, "isSaying", "(I)Z"⟩
abbrev cX11_isSay : ByteArray := prog_1_method_10_code
def yX11_isSay : MethodName := ⟨RX11, "isSay", "(I)Z"⟩
abbrev cX11_isDoubted : ByteArray := prog_1_method_11_code
def yX11_isDoubted : MethodName := ⟨RX11, "isDoubted", "(I)Z"⟩
abbrev cX11_isTime : ByteArray := prog_1_method_12_code
def yX11_isTime : MethodName := ⟨RX11, "isTime", "(I)Z"⟩
abbrev cX11_isPlace : ByteArray := prog_1_method_13_code
def yX11_isPlace : MethodName := ⟨RX11, "isPlace", "(I)Z"⟩
abbrev cX11_isPerson : ByteArray := prog_1_method_14_code
def yX11_isPerson : MethodName := ⟨RX11, "isPerson", "(I)Z"⟩
abbrev cX11_isMinute : ByteArray := prog_1_method_15_code
def yX11_isMinute : MethodName := ⟨RX11, "isMinute", "(I)Z"⟩
abbrev cX11_valueAt : ByteArray := prog_1_method_16_code
def yX11_valueAt : MethodName := ⟨RX11, "valueAt", "([III)I"⟩
abbrev cX11_walk : ByteArray := prog_1_method_17_code
def yX11_walk : MethodName := ⟨RX11, "walk", "(II)I"⟩
abbrev cX11_move : ByteArray := prog_1_method_18_code
def yX11_move : MethodName := ⟨RX11, "move", "(II)I"⟩
abbrev cX11_isGoneThrough : ByteArray := prog_1_method_19_code
def yX11_isGoneThrough : MethodName := ⟨RX11, "isGoneThrough", "()Z"⟩
abbrev cX11_levelOf : ByteArray := prog_1_method_20_code
def yX11_levelOf : MethodName := ⟨RX11, "levelOf", "(I)I"⟩
abbrev cX11_ways : ByteArray := prog_1_method_21_code
def yX11_ways : MethodName := ⟨RX11, "ways", "()I"⟩
abbrev cX11_choice : ByteArray := prog_1_method_22_code
def yX11_choice : MethodName := ⟨RX11, "choice", "(II)I"⟩
abbrev cX11_goes : ByteArray := prog_1_method_23_code
def yX11_goes : MethodName := ⟨RX11, "goes", "(II)I"⟩
abbrev cX11_hour : ByteArray := prog_1_method_24_code
def yX11_hour : MethodName := ⟨RX11, "hour", "(IIZ)I"⟩
abbrev cX11_gap : ByteArray := prog_1_method_25_code
def yX11_gap : MethodName := ⟨RX11, "gap", "(IIIZ)I"⟩
abbrev cX11_ends : ByteArray := prog_1_method_26_code
def yX11_ends : MethodName := ⟨RX11, "ends", "(IZ)I"⟩
abbrev cX11_can : ByteArray := prog_1_method_27_code
def yX11_can : MethodName := ⟨RX11, "can", "(II)I"⟩
abbrev cX11_forced : ByteArray := prog_1_method_28_code
def yX11_forced : MethodName := ⟨RX11, "forced", "(I)I"⟩
abbrev cX11_set : ByteArray := prog_1_method_29_code
def yX11_set : MethodName := ⟨RX11, "set", "(II)Z"⟩
abbrev cX11_bears : ByteArray := prog_1_method_30_code
def yX11_bears : MethodName := ⟨RX11, "bears", "(I)I"⟩
abbrev cX11_breaks : ByteArray := prog_1_method_31_code
def yX11_breaks : MethodName := ⟨RX11, "breaks", "()I"⟩
abbrev cX11_quarrels : ByteArray := prog_1_method_32_code
def yX11_quarrels : MethodName := ⟨RX11, "quarrels", "()I"⟩
abbrev cX11_quarrel : ByteArray := prog_1_method_33_code
def yX11_quarrel : MethodName := ⟨RX11, "quarrel", "(I)I"⟩
abbrev cX11_givingUps : ByteArray := prog_1_method_34_code
def yX11_givingUps : MethodName := ⟨RX11, "givingUps", "()I"⟩
abbrev cX11_givingUp : ByteArray := prog_1_method_35_code
def yX11_givingUp : MethodName := ⟨RX11, "givingUp", "(I)I"⟩
abbrev cX11_cheapest : ByteArray := prog_1_method_36_code
def yX11_cheapest : MethodName := ⟨RX11, "cheapest", "()I"⟩
abbrev cX11_price : ByteArray := prog_1_method_37_code
def yX11_price : MethodName := ⟨RX11, "price", "()I"⟩
abbrev cX11_pick : ByteArray := prog_1_method_38_code
def yX11_pick : MethodName := ⟨RX11, "pick", "(II)Z"⟩
abbrev cX11_stands : ByteArray := prog_1_method_39_code
def yX11_stands : MethodName := ⟨RX11, "stands", "()I"⟩
abbrev cX11_ring : ByteArray := prog_1_method_40_code
def yX11_ring : MethodName := ⟨RX11, "ring", "()I"⟩
abbrev cX11_ringAt : ByteArray := prog_1_method_41_code
def yX11_ringAt : MethodName := ⟨RX11, "ringAt", "(I)I"⟩
abbrev cX11_could : ByteArray := prog_1_method_42_code
def yX11_could : MethodName := ⟨RX11, "could", "(IIII)I"⟩
abbrev cX11_goWithGuest : ByteArray := prog_1_method_43_code
def yX11_goWithGuest : MethodName := ⟨RX11, "goWithGuest", "(IIII)V"⟩
abbrev cX11_been : ByteArray := prog_1_method_44_code
def yX11_been : MethodName := ⟨RX11, "been", "(IIZ)I"⟩
abbrev cX11_ask : ByteArray := prog_1_method_45_code
def yX11_ask : MethodName := ⟨RX11, "ask", "(IZ)I"⟩
abbrev cX11_next : ByteArray := prog_1_method_46_code
def yX11_next : MethodName := ⟨RX11, "next", "()I"⟩
abbrev cX11_left : ByteArray := prog_1_method_47_code
def yX11_left : MethodName := ⟨RX11, "left", "(II)I"⟩
abbrev cX11_planTo : ByteArray := prog_1_method_48_code
def yX11_planTo : MethodName := ⟨RX11, "planTo", "(I)I"⟩
abbrev cX11_plan : ByteArray := prog_1_method_49_code
def yX11_plan : MethodName := ⟨RX11, "plan", "(I)I"⟩
abbrev cX11_first : ByteArray := prog_1_method_50_code
def yX11_first : MethodName := ⟨RX11, "first", "(I)I"⟩
abbrev cX11_more : ByteArray := prog_1_method_51_code
def yX11_more : MethodName := ⟨RX11, "more", "(IIII)I"⟩
abbrev cX11_fewer : ByteArray := prog_1_method_52_code
def yX11_fewer : MethodName := ⟨RX11, "fewer", "()I"⟩
abbrev cX11_tried : ByteArray := prog_1_method_53_code
def yX11_tried : MethodName := ⟨RX11, "tried", "(II)I"⟩
abbrev cX11_setWays : ByteArray := prog_1_method_54_code
def yX11_setWays : MethodName := ⟨RX11, "setWays", "()I"⟩
abbrev cX11_slack : ByteArray := prog_1_method_55_code
def yX11_slack : MethodName := ⟨RX11, "slack", "(IIZ)I"⟩
abbrev cX11_drawn : ByteArray := prog_1_method_56_code
def yX11_drawn : MethodName := ⟨RX11, "drawn", "(III)I"⟩
abbrev cX11_whereAt : ByteArray := prog_1_method_57_code
def yX11_whereAt : MethodName := ⟨RX11, "whereAt", "(III)I"⟩
abbrev cX11_give : ByteArray := prog_1_method_58_code
def yX11_give : MethodName := ⟨RX11, "give", "()I"⟩
abbrev cX11_alone : ByteArray := prog_1_method_59_code
def yX11_alone : MethodName := ⟨RX11, "alone", "(I)I"⟩
abbrev cX11_leastGive : ByteArray := prog_1_method_60_code
def yX11_leastGive : MethodName := ⟨RX11, "leastGive", "(I)I"⟩
abbrev cX11_isKept : ByteArray := prog_1_method_61_code
def yX11_isKept : MethodName := ⟨RX11, "isKept", "(I)Z"⟩
abbrev cX11_kept : ByteArray := prog_1_method_62_code
def yX11_kept : MethodName := ⟨RX11, "kept", "(I)I"⟩
abbrev cX11_keep : ByteArray := prog_1_method_63_code
def yX11_keep : MethodName := ⟨RX11, "keep", "()I"⟩
abbrev cX11_hand : ByteArray := prog_1_method_64_code
def yX11_hand : MethodName := ⟨RX11, "hand", "(II)I"⟩
abbrev cX11_count : ByteArray := prog_1_method_65_code
def yX11_count : MethodName := ⟨RX11, "count", "(I)I"⟩
def RX12 : String := "NightHoursModel"
def TX12 : u_T := fun k => match k with
  | 0 => ("NightHoursModel", "thrown", "I", false)
  | 1 => ("NightHoursModel", "tape", "[B", true)
  | 2 => ("NightHoursModel", "taped", "I", false)
  | 3 => ("NightHoursModel", "text", "[B", true)
  | 4 => ("NightHoursModel", "size", "I", false)
  | 5 => ("NightHoursModel", "tKind", "[I", true)
  | 6 => ("NightHoursModel", "tPlace", "[I", true)
  | 7 => ("NightHoursModel", "tValue", "[I", true)
  | 8 => ("NightHoursModel", "tName", "[J", true)
  | 9 => ("NightHoursModel", "keys", "[J", true)
  | 10 => ("NightHoursModel", "tokens", "I", false)
  | 11 => ("NightHoursModel", "t", "I", false)
  | 12 => ("NightHoursModel", "open", "I", false)
  | 13 => ("NightHoursModel", "fault", "I", false)
  | 14 => ("NightHoursModel", "faultPlace", "I", false)
  | 15 => ("NightHoursModel", "worst", "I", false)
  | 16 => ("NightHoursModel", "worstPlace", "I", false)
  | 17 => ("NightHoursModel", "place", "I", false)
  | 18 => ("NightHoursModel", "live", "I", false)
  | 19 => ("NightHoursModel", "side", "I", false)
  | 20 => ("NightHoursModel", "names", "I", false)
  | 21 => ("NightHoursModel", "nameOf", "[J", true)
  | 22 => ("NightHoursModel", "nameSort", "[I", true)
  | 23 => ("NightHoursModel", "nameAt", "[I", true)
  | 24 => ("NightHoursModel", "persons", "[I", true)
  | 25 => ("NightHoursModel", "places", "[I", true)
  | 26 => ("NightHoursModel", "waysTold", "[I", true)
  | 27 => ("NightHoursModel", "wayOf", "[I", true)
  | 28 => ("NightHoursModel", "times", "[I", true)
  | 29 => ("NightHoursModel", "personOf", "[I", true)
  | 30 => ("NightHoursModel", "placeOf", "[I", true)
  | 31 => ("NightHoursModel", "sayings", "[I", true)
  | 32 => ("NightHoursModel", "isSure", "[Z", true)
  | 33 => ("NightHoursModel", "trustOf", "[I", true)
  | 34 => ("NightHoursModel", "alls", "[I", true)
  | 35 => ("NightHoursModel", "spans", "[I", true)
  | 36 => ("NightHoursModel", "spanX", "[I", true)
  | 37 => ("NightHoursModel", "spanY", "[I", true)
  | 38 => ("NightHoursModel", "spanA", "[I", true)
  | 39 => ("NightHoursModel", "spanB", "[I", true)
  | 40 => ("NightHoursModel", "opens", "[I", true)
  | 41 => ("NightHoursModel", "openOf", "[I", true)
  | 42 => ("NightHoursModel", "questions", "[I", true)
  | 43 => ("NightHoursModel", "isDoubted", "[Z", true)
  | 44 => ("NightHoursModel", "setAt", "[I", true)
  | 45 => ("NightHoursModel", "walkOf", "[I", true)
  | 46 => ("NightHoursModel", "moves", "I", false)
  | 47 => ("NightHoursModel", "moveA", "[I", true)
  | 48 => ("NightHoursModel", "moveB", "[I", true)
  | 49 => ("NightHoursModel", "moveWalk", "[I", true)
  | 50 => ("NightHoursModel", "far", "[I", true)
  | 51 => ("NightHoursModel", "nodes", "I", false)
  | 52 => ("NightHoursModel", "page", "I", false)
  | 53 => ("NightHoursModel", "isHand", "Z", false)
  | 54 => ("NightHoursModel", "mores", "I", false)
  | 55 => ("NightHoursModel", "moreX", "[I", true)
  | 56 => ("NightHoursModel", "moreY", "[I", true)
  | 57 => ("NightHoursModel", "moreA", "[I", true)
  | 58 => ("NightHoursModel", "moreB", "[I", true)
  | 59 => ("NightHoursModel", "items", "I", false)
  | 60 => ("NightHoursModel", "itemOf", "[I", true)
  | 61 => ("NightHoursModel", "chosen", "[I", true)
  | 62 => ("NightHoursModel", "nextChoice", "[I", true)
  | 63 => ("NightHoursModel", "tries", "I", false)
  | 64 => ("NightHoursModel", "isSpent", "Z", false)
  | 65 => ("NightHoursModel", "extraOf", "[I", true)
  | 66 => ("NightHoursModel", "extraWalk", "[I", true)
  | 67 => ("NightHoursModel", "extras", "I", false)
  | 68 => ("NightHoursModel", "giveSet", "I", false)
  | 69 => ("NightHoursModel", "giveBy", "I", false)
  | 70 => ("NightHoursModel", "isGone", "Z", false)
  | 71 => ("NightHoursModel", "isAllSpent", "Z", false)
  | 72 => ("NightHoursModel", "allTries", "I", false)
  | 73 => ("NightHoursModel", "ways", "I", false)
  | 74 => ("NightHoursModel", "wayItems", "I", false)
  | 75 => ("NightHoursModel", "wayChoice", "[B", true)
  | 76 => ("NightHoursModel", "triedItem", "[B", true)
  | 77 => ("NightHoursModel", "triedChoice", "[B", true)
  | 78 => ("NightHoursModel", "triedCan", "[Z", true)
  | 79 => ("NightHoursModel", "isSetsDone", "Z", false)
  | 80 => ("NightHoursModel", "isSetsSpent", "Z", false)
  | 81 => ("NightHoursModel", "hasWayOf", "[Z", true)
  | 82 => ("NightHoursModel", "quarrelMany", "I", false)
  | 83 => ("NightHoursModel", "quarrelOf", "[I", true)
  | 84 => ("NightHoursModel", "givingMany", "I", false)
  | 85 => ("NightHoursModel", "givingOf", "[I", true)
  | 86 => ("NightHoursModel", "picked", "[I", true)
  | 87 => ("NightHoursModel", "ringMany", "I", false)
  | 88 => ("NightHoursModel", "ringOf", "[I", true)
  | 89 => ("NightHoursModel", "isOut", "[Z", true)
  | 90 => ("NightHoursModel", "isBeen", "Z", false)
  | 91 => ("NightHoursModel", "beenLeast", "I", false)
  | 92 => ("NightHoursModel", "beenMost", "I", false)
  | 93 => ("NightHoursModel", "leftBy", "[I", true)
  | 94 => ("NightHoursModel", "planBy", "[I", true)
  | 95 => ("NightHoursModel", "power", "[I", true)
  | _ => ("NightHoursModel", "firstAsked", "I", false)
def tyX12 : Nat → FieldType := fun k => match k with
  | 0 => .int
  | 1 => .array .byte
  | 2 => .int
  | 3 => .array .byte
  | 4 => .int
  | 5 => .array .int
  | 6 => .array .int
  | 7 => .array .int
  | 8 => .array .long
  | 9 => .array .long
  | 10 => .int
  | 11 => .int
  | 12 => .int
  | 13 => .int
  | 14 => .int
  | 15 => .int
  | 16 => .int
  | 17 => .int
  | 18 => .int
  | 19 => .int
  | 20 => .int
  | 21 => .array .long
  | 22 => .array .int
  | 23 => .array .int
  | 24 => .array .int
  | 25 => .array .int
  | 26 => .array .int
  | 27 => .array .int
  | 28 => .array .int
  | 29 => .array .int
  | 30 => .array .int
  | 31 => .array .int
  | 32 => .array .boolean
  | 33 => .array .int
  | 34 => .array .int
  | 35 => .array .int
  | 36 => .array .int
  | 37 => .array .int
  | 38 => .array .int
  | 39 => .array .int
  | 40 => .array .int
  | 41 => .array .int
  | 42 => .array .int
  | 43 => .array .boolean
  | 44 => .array .int
  | 45 => .array .int
  | 46 => .int
  | 47 => .array .int
  | 48 => .array .int
  | 49 => .array .int
  | 50 => .array .int
  | 51 => .int
  | 52 => .int
  | 53 => .boolean
  | 54 => .int
  | 55 => .array .int
  | 56 => .array .int
  | 57 => .array .int
  | 58 => .array .int
  | 59 => .int
  | 60 => .array .int
  | 61 => .array .int
  | 62 => .array .int
  | 63 => .int
  | 64 => .boolean
  | 65 => .array .int
  | 66 => .array .int
  | 67 => .int
  | 68 => .int
  | 69 => .int
  | 70 => .boolean
  | 71 => .boolean
  | 72 => .int
  | 73 => .int
  | 74 => .int
  | 75 => .array .byte
  | 76 => .array .byte
  | 77 => .array .byte
  | 78 => .array .boolean
  | 79 => .boolean
  | 80 => .boolean
  | 81 => .array .boolean
  | 82 => .int
  | 83 => .array .int
  | 84 => .int
  | 85 => .array .int
  | 86 => .array .int
  | 87 => .int
  | 88 => .array .int
  | 89 => .array .boolean
  | 90 => .boolean
  | 91 => .int
  | 92 => .int
  | 93 => .array .int
  | 94 => .array .int
  | 95 => .array .int
  | _ => .int
abbrev wsX120 : List Cond := u_ws RX12 TX12 97
theorem nmX12 : ∀ a, a < 97 → ∀ b, b < 97 → a ≠ b → (TX12 a).2.1 ≠ (TX12 b).2.1 := by decide +kernel
theorem tyX12_ok : ∀ k, k < 97 → parseFieldDescriptor (TX12 k).2.2.1 = some (tyX12 k) := by decide +kernel
abbrev cX12_init : ByteArray := prog_14_method_2_code
def yX12_init : MethodName := ⟨RX12, "<init>", "()V"⟩
abbrev cX12_feed : ByteArray := prog_14_method_3_code
def yX12_feed : MethodName := ⟨RX12, "feed", "(IIIII)I"⟩
abbrev cX12_put : ByteArray := prog_14_method_4_code
def yX12_put : MethodName := ⟨RX12, "put", "(I)V"⟩
abbrev cX12_back : ByteArray := prog_14_method_5_code
def yX12_back : MethodName := ⟨RX12, "back", "(I)I"⟩
abbrev cX12_byteAt : ByteArray := prog_14_method_6_code
def yX12_byteAt : MethodName := ⟨RX12, "byteAt", "(I)I"⟩
abbrev cX12_isDigit : ByteArray := prog_14_method_7_code
def yX12_isDigit : MethodName := ⟨RX12, "isDigit", "(I)Z"⟩
abbrev cX12_isLetter : ByteArray := prog_14_method_8_code
def yX12_isLetter : MethodName := ⟨RX12, "isLetter", "(I)Z"⟩
abbrev cX12_appends : ByteArray := prog_14_method_9_code
def yX12_appends : MethodName := ⟨RX12, "appends", "(JI)J"⟩
abbrev cX12_word : ByteArray := prog_14_method_10_code
def yX12_word : MethodName := ⟨RX12, "word", "(IIIIIII)J"⟩
abbrev cX12_token : ByteArray := prog_14_method_11_code
def yX12_token : MethodName := ⟨RX12, "token", "(IIIJ)V"⟩
abbrev cX12_cut : ByteArray := prog_14_method_12_code
def yX12_cut : MethodName := ⟨RX12, "cut", "()V"⟩
abbrev cX12_sign : ByteArray := prog_14_method_13_code
def yX12_sign : MethodName := ⟨RX12, "sign", "(I)I"⟩
abbrev cX12_is : ByteArray := prog_14_method_14_code
def yX12_is : MethodName := ⟨RX12, "is", "(I)Z"⟩
abbrev cX12_fail : ByteArray := prog_14_method_15_code
def yX12_fail : MethodName := ⟨RX12, "fail", "(I)V"⟩
abbrev cX12_wrong : ByteArray := prog_14_method_16_code
def yX12_wrong : MethodName := ⟨RX12, "wrong", "(II)V"⟩
abbrev cX12_goesOn : ByteArray := prog_14_method_17_code
def yX12_goesOn : MethodName := ⟨RX12, "goesOn", "()V"⟩
abbrev cX12_must : ByteArray := prog_14_method_18_code
def yX12_must : MethodName := ⟨RX12, "must", "(I)V"⟩
abbrev cX12_read : ByteArray := prog_14_method_19_code
def yX12_read : MethodName := ⟨RX12, "read", "()I"⟩
abbrev cX12_changes : ByteArray := prog_14_method_20_code
def yX12_changes : MethodName := ⟨RX12, "changes", "()V"⟩
abbrev cX12_place : ByteArray := prog_14_method_21_code
def yX12_place : MethodName := ⟨RX12, "place", "()I"⟩
abbrev cX12_tell : ByteArray := prog_14_method_22_code
def yX12_tell : MethodName := ⟨RX12, "tell", "()V"⟩
abbrev cX12_named : ByteArray := prog_14_method_23_code
def yX12_named : MethodName := ⟨RX12, "named", "()I"⟩
abbrev cX12_knows : ByteArray := prog_14_method_24_code
def yX12_knows : MethodName := ⟨RX12, "knows", "(III)V"⟩
abbrev cX12_known : ByteArray := prog_14_method_25_code
def yX12_known : MethodName := ⟨RX12, "known", "(I)I"⟩
abbrev cX12_number : ByteArray := prog_14_method_26_code
def yX12_number : MethodName := ⟨RX12, "number", "(Z)I"⟩
abbrev cX12_tellName : ByteArray := prog_14_method_27_code
def yX12_tellName : MethodName := ⟨RX12, "tellName", "(I)V"⟩
abbrev cX12_tellWay : ByteArray := prog_14_method_28_code
def yX12_tellWay : MethodName := ⟨RX12, "tellWay", "()V"⟩
abbrev cX12_tellTime : ByteArray := prog_14_method_29_code
def yX12_tellTime : MethodName := ⟨RX12, "tellTime", "()V"⟩
abbrev cX12_tellSpan : ByteArray := prog_14_method_30_code
def yX12_tellSpan : MethodName := ⟨RX12, "tellSpan", "(I)V"⟩
abbrev cX12_tellSaying : ByteArray := prog_14_method_31_code
def yX12_tellSaying : MethodName := ⟨RX12, "tellSaying", "()V"⟩
abbrev cX12_tellAll : ByteArray := prog_14_method_32_code
def yX12_tellAll : MethodName := ⟨RX12, "tellAll", "(I)V"⟩
abbrev cX12_tellOpen : ByteArray := prog_14_method_33_code
def yX12_tellOpen : MethodName := ⟨RX12, "tellOpen", "()V"⟩
abbrev cX12_tellQuestion : ByteArray := prog_14_method_34_code
def yX12_tellQuestion : MethodName := ⟨RX12, "tellQuestion", "()V"⟩
abbrev cX12_walks : ByteArray := prog_14_method_35_code
def yX12_walks : MethodName := ⟨RX12, "walks", "()V"⟩
abbrev cX12_meets : ByteArray := prog_14_method_36_code
def yX12_meets : MethodName := ⟨RX12, "meets", "()V"⟩
abbrev cX12_copies : ByteArray := prog_14_method_37_code
def yX12_copies : MethodName := ⟨RX12, "copies", "(II)V"⟩
abbrev cX12_bound : ByteArray := prog_14_method_38_code
def yX12_bound : MethodName := ⟨RX12, "bound", "(III)Z"⟩
abbrev cX12_openAt : ByteArray := prog_14_method_39_code
def yX12_openAt : MethodName := ⟨RX12, "openAt", "(I)I"⟩
abbrev cX12_atMost : ByteArray := prog_14_method_40_code
def yX12_atMost : MethodName := ⟨RX12, "atMost", "(III)Z"⟩
abbrev cX12_between : ByteArray := prog_14_method_41_code
def yX12_between : MethodName := ⟨RX12, "between", "(IIII)Z"⟩
abbrev cX12_holdsSpan : ByteArray := prog_14_method_42_code
def yX12_holdsSpan : MethodName := ⟨RX12, "holdsSpan", "(II)Z"⟩
abbrev cX12_begins : ByteArray := prog_14_method_43_code
def yX12_begins : MethodName := ⟨RX12, "begins", "(I)Z"⟩
abbrev cX12_more : ByteArray := prog_14_method_44_code
def yX12_more : MethodName := ⟨RX12, "more", "(IIII)I"⟩
abbrev cX12_fewer : ByteArray := prog_14_method_45_code
def yX12_fewer : MethodName := ⟨RX12, "fewer", "()I"⟩
abbrev cX12_choices : ByteArray := prog_14_method_46_code
def yX12_choices : MethodName := ⟨RX12, "choices", "(I)I"⟩
abbrev cX12_chooses : ByteArray := prog_14_method_47_code
def yX12_chooses : MethodName := ⟨RX12, "chooses", "(II)Z"⟩
abbrev cX12_lists : ByteArray := prog_14_method_48_code
def yX12_lists : MethodName := ⟨RX12, "lists", "(I)V"⟩
abbrev cX12_notes : ByteArray := prog_14_method_49_code
def yX12_notes : MethodName := ⟨RX12, "notes", "(IIZ)V"⟩
abbrev cX12_searches : ByteArray := prog_14_method_50_code
def yX12_searches : MethodName := ⟨RX12, "searches", "(Z)I"⟩
abbrev cX12_undoubted : ByteArray := prog_14_method_51_code
def yX12_undoubted : MethodName := ⟨RX12, "undoubted", "()I"⟩
abbrev cX12_goesAll : ByteArray := prog_14_method_52_code
def yX12_goesAll : MethodName := ⟨RX12, "goesAll", "()V"⟩
abbrev cX12_hasWay : ByteArray := prog_14_method_53_code
def yX12_hasWay : MethodName := ⟨RX12, "hasWay", "(I)Z"⟩
abbrev cX12_lays : ByteArray := prog_14_method_54_code
def yX12_lays : MethodName := ⟨RX12, "lays", "(IZ)Z"⟩
abbrev cX12_in : ByteArray := prog_14_method_55_code
def yX12_in : MethodName := ⟨RX12, "in", "(III)Z"⟩
abbrev cX12_isTime : ByteArray := prog_14_method_56_code
def yX12_isTime : MethodName := ⟨RX12, "isTime", "(I)Z"⟩
abbrev cX12_isSaying : ByteArray := prog_14_method_57_code
def yX12_isSaying : MethodName := ⟨RX12, "isSaying", "(I)Z"⟩
abbrev cX12_isMinute : ByteArray := prog_14_method_58_code
def yX12_isMinute : MethodName := ⟨RX12, "isMinute", "(I)Z"⟩
abbrev cX12_doubt : ByteArray := prog_14_method_59_code
def yX12_doubt : MethodName := ⟨RX12, "doubt", "(IZ)Z"⟩
abbrev cX12_walk : ByteArray := prog_14_method_60_code
def yX12_walk : MethodName := ⟨RX12, "walk", "(II)I"⟩
abbrev cX12_move : ByteArray := prog_14_method_61_code
def yX12_move : MethodName := ⟨RX12, "move", "(II)I"⟩
abbrev cX12_ways : ByteArray := prog_14_method_62_code
def yX12_ways : MethodName := ⟨RX12, "ways", "()I"⟩
abbrev cX12_asks : ByteArray := prog_14_method_63_code
def yX12_asks : MethodName := ⟨RX12, "asks", "(I)I"⟩
abbrev cX12_choiceOf : ByteArray := prog_14_method_64_code
def yX12_choiceOf : MethodName := ⟨RX12, "choiceOf", "(II)I"⟩
abbrev cX12_choice : ByteArray := prog_14_method_65_code
def yX12_choice : MethodName := ⟨RX12, "choice", "(II)I"⟩
abbrev cX12_goes : ByteArray := prog_14_method_66_code
def yX12_goes : MethodName := ⟨RX12, "goes", "(II)I"⟩
abbrev cX12_gapNow : ByteArray := prog_14_method_67_code
def yX12_gapNow : MethodName := ⟨RX12, "gapNow", "(IIZ)I"⟩
abbrev cX12_hour : ByteArray := prog_14_method_68_code
def yX12_hour : MethodName := ⟨RX12, "hour", "(IIZ)I"⟩
abbrev cX12_gap : ByteArray := prog_14_method_69_code
def yX12_gap : MethodName := ⟨RX12, "gap", "(IIIZ)I"⟩
abbrev cX12_ends : ByteArray := prog_14_method_70_code
def yX12_ends : MethodName := ⟨RX12, "ends", "(IZ)I"⟩
abbrev cX12_can : ByteArray := prog_14_method_71_code
def yX12_can : MethodName := ⟨RX12, "can", "(II)I"⟩
abbrev cX12_forced : ByteArray := prog_14_method_72_code
def yX12_forced : MethodName := ⟨RX12, "forced", "(I)I"⟩
abbrev cX12_set : ByteArray := prog_14_method_73_code
def yX12_set : MethodName := ⟨RX12, "set", "(II)Z"⟩
abbrev cX12_bearsSpan : ByteArray := prog_14_method_74_code
def yX12_bearsSpan : MethodName := ⟨RX12, "bearsSpan", "(I)I"⟩
abbrev cX12_bears : ByteArray := prog_14_method_75_code
def yX12_bears : MethodName := ⟨RX12, "bears", "(I)I"⟩
abbrev cX12_breaks : ByteArray := prog_14_method_76_code
def yX12_breaks : MethodName := ⟨RX12, "breaks", "()I"⟩
abbrev cX12_bits : ByteArray := prog_14_method_77_code
def yX12_bits : MethodName := ⟨RX12, "bits", "(I)I"⟩
abbrev cX12_sureOnes : ByteArray := prog_14_method_78_code
def yX12_sureOnes : MethodName := ⟨RX12, "sureOnes", "()I"⟩
abbrev cX12_sets : ByteArray := prog_14_method_79_code
def yX12_sets : MethodName := ⟨RX12, "sets", "()V"⟩
abbrev cX12_quarrels : ByteArray := prog_14_method_80_code
def yX12_quarrels : MethodName := ⟨RX12, "quarrels", "()I"⟩
abbrev cX12_quarrel : ByteArray := prog_14_method_81_code
def yX12_quarrel : MethodName := ⟨RX12, "quarrel", "(I)I"⟩
abbrev cX12_givingUps : ByteArray := prog_14_method_82_code
def yX12_givingUps : MethodName := ⟨RX12, "givingUps", "()I"⟩
abbrev cX12_givingUp : ByteArray := prog_14_method_83_code
def yX12_givingUp : MethodName := ⟨RX12, "givingUp", "(I)I"⟩
abbrev cX12_trustIn : ByteArray := prog_14_method_84_code
def yX12_trustIn : MethodName := ⟨RX12, "trustIn", "(I)I"⟩
abbrev cX12_cheapest : ByteArray := prog_14_method_85_code
def yX12_cheapest : MethodName := ⟨RX12, "cheapest", "()I"⟩
abbrev cX12_price : ByteArray := prog_14_method_86_code
def yX12_price : MethodName := ⟨RX12, "price", "()I"⟩
abbrev cX12_itemAt : ByteArray := prog_14_method_87_code
def yX12_itemAt : MethodName := ⟨RX12, "itemAt", "(I)I"⟩
abbrev cX12_toldItem : ByteArray := prog_14_method_88_code
def yX12_toldItem : MethodName := ⟨RX12, "toldItem", "(I)I"⟩
abbrev cX12_pick : ByteArray := prog_14_method_89_code
def yX12_pick : MethodName := ⟨RX12, "pick", "(II)Z"⟩
abbrev cX12_pickedStands : ByteArray := prog_14_method_90_code
def yX12_pickedStands : MethodName := ⟨RX12, "pickedStands", "()Z"⟩
abbrev cX12_stands : ByteArray := prog_14_method_91_code
def yX12_stands : MethodName := ⟨RX12, "stands", "()I"⟩
abbrev cX12_rings : ByteArray := prog_14_method_92_code
def yX12_rings : MethodName := ⟨RX12, "rings", "()Z"⟩
abbrev cX12_ring : ByteArray := prog_14_method_93_code
def yX12_ring : MethodName := ⟨RX12, "ring", "()I"⟩
abbrev cX12_ringAt : ByteArray := prog_14_method_94_code
def yX12_ringAt : MethodName := ⟨RX12, "ringAt", "(I)I"⟩
abbrev cX12_isPerson : ByteArray := prog_14_method_95_code
def yX12_isPerson : MethodName := ⟨RX12, "isPerson", "(I)Z"⟩
abbrev cX12_oneMore : ByteArray := prog_14_method_96_code
def yX12_oneMore : MethodName := ⟨RX12, "oneMore", "(II)V"⟩
abbrev cX12_could : ByteArray := prog_14_method_97_code
def yX12_could : MethodName := ⟨RX12, "could", "(IIII)I"⟩
abbrev cX12_been : ByteArray := prog_14_method_98_code
def yX12_been : MethodName := ⟨RX12, "been", "(IIZ)I"⟩
abbrev cX12_meetsAll : ByteArray := prog_14_method_99_code
def yX12_meetsAll : MethodName := ⟨RX12, "meetsAll", "()V"⟩
abbrev cX12_sees : ByteArray := prog_14_method_100_code
def yX12_sees : MethodName := ⟨RX12, "sees", "(I)V"⟩
abbrev cX12_answers : ByteArray := prog_14_method_101_code
def yX12_answers : MethodName := ⟨RX12, "answers", "(II)Z"⟩
abbrev cX12_isLeft : ByteArray := prog_14_method_102_code
def yX12_isLeft : MethodName := ⟨RX12, "isLeft", "(II)Z"⟩
abbrev cX12_leftOf : ByteArray := prog_14_method_103_code
def yX12_leftOf : MethodName := ⟨RX12, "leftOf", "(II)I"⟩
abbrev cX12_ask : ByteArray := prog_14_method_104_code
def yX12_ask : MethodName := ⟨RX12, "ask", "(IZ)I"⟩
abbrev cX12_next : ByteArray := prog_14_method_105_code
def yX12_next : MethodName := ⟨RX12, "next", "()I"⟩
abbrev cX12_left : ByteArray := prog_14_method_106_code
def yX12_left : MethodName := ⟨RX12, "left", "(II)I"⟩
abbrev cX12_plans : ByteArray := prog_14_method_107_code
def yX12_plans : MethodName := ⟨RX12, "plans", "(I)I"⟩
abbrev cX12_planOf : ByteArray := prog_14_method_108_code
def yX12_planOf : MethodName := ⟨RX12, "planOf", "(IZ)I"⟩
abbrev cX12_plan : ByteArray := prog_14_method_109_code
def yX12_plan : MethodName := ⟨RX12, "plan", "(I)I"⟩
abbrev cX12_first : ByteArray := prog_14_method_110_code
def yX12_first : MethodName := ⟨RX12, "first", "(I)I"⟩
abbrev cX12_tried : ByteArray := prog_14_method_111_code
def yX12_tried : MethodName := ⟨RX12, "tried", "(II)I"⟩
abbrev cX12_laysSet : ByteArray := prog_14_method_112_code
def yX12_laysSet : MethodName := ⟨RX12, "laysSet", "(I)Z"⟩
abbrev cX12_setWays : ByteArray := prog_14_method_113_code
def yX12_setWays : MethodName := ⟨RX12, "setWays", "()I"⟩
abbrev cX12_slack : ByteArray := prog_14_method_114_code
def yX12_slack : MethodName := ⟨RX12, "slack", "(IIZ)I"⟩
abbrev cX12_drawn : ByteArray := prog_14_method_115_code
def yX12_drawn : MethodName := ⟨RX12, "drawn", "(III)I"⟩
abbrev cX12_gives : ByteArray := prog_14_method_116_code
def yX12_gives : MethodName := ⟨RX12, "gives", "(I)I"⟩
abbrev cX12_give : ByteArray := prog_14_method_117_code
def yX12_give : MethodName := ⟨RX12, "give", "()I"⟩
abbrev cX12_alone : ByteArray := prog_14_method_118_code
def yX12_alone : MethodName := ⟨RX12, "alone", "(I)I"⟩
abbrev cX12_kept : ByteArray := prog_14_method_119_code
def yX12_kept : MethodName := ⟨RX12, "kept", "(I)I"⟩
abbrev cX12_keep : ByteArray := prog_14_method_120_code
def yX12_keep : MethodName := ⟨RX12, "keep", "()I"⟩
abbrev cX12_hand : ByteArray := prog_14_method_121_code
def yX12_hand : MethodName := ⟨RX12, "hand", "(II)I"⟩
abbrev cX12_count : ByteArray := prog_14_method_122_code
def yX12_count : MethodName := ⟨RX12, "count", "(I)I"⟩
def RJ6 : String := "java/lang/Integer"
abbrev cJ6_bitCount_0f7a4 : ByteArray := prog_15_method_49_code
def yJ6_bitCount_0f7a4 : MethodName := ⟨RJ6, "bitCount", "(I)I"⟩
def RJ9 : String := "java/lang/Math"
abbrev cJ9_abs_0f7a4 : ByteArray := prog_16_method_59_code
def yJ9_abs_0f7a4 : MethodName := ⟨RJ9, "abs", "(I)I"⟩
abbrev cJ9_max_7cf53 : ByteArray := prog_16_method_65_code
def yJ9_max_7cf53 : MethodName := ⟨RJ9, "max", "(II)I"⟩
abbrev cJ9_min_7cf53 : ByteArray := prog_16_method_69_code
def yJ9_min_7cf53 : MethodName := ⟨RJ9, "min", "(II)I"⟩
def RJ10 : String := "java/lang/System"
def RJ7 : String := "java/util/Arrays"
abbrev cJ7_fill_53178 : ByteArray := prog_18_method_103_code
def yJ7_fill_53178 : MethodName := ⟨RJ7, "fill", "([II)V"⟩
def RL : String := "NightHoursLaw"
abbrev cL_law : ByteArray := code
def yL_law : MethodName := ⟨RL, "law", "([I)Z"⟩
abbrev vwCl : List vw_C := [(RX0, TX0, 6), (RX1, TX1, 3), (RX2, TX2, 18), (RX3, TX3, 4), (RX4, TX4, 5), (RX5, TX5, 6), (RX6, TX6, 12), (RX7, TX7, 12), (RX8, TX8, 4), (RX9, TX9, 4), (RX10, TX10, 19), (RX11, TX11, 14), (RX12, TX12, 97)]
end
