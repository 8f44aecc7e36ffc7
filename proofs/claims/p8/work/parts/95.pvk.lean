/-! tells of the reference, exact: ask -/
theorem spb_o {cc n : Nat} {row x y lo hi : Int32} {a : sg} {p j : Nat} (h : ¬ (cc + 1 ≤ p ∧ p ≤ cc + 4 ∧ j = row.toNatClampNeg)) : (spb cc n row x y lo hi a).1 p j = a.1 p j := by
  unfold spb
  by_cases c1 : row < 0
  · rw [if_pos c1]
  · rw [if_neg c1]
    by_cases c2 : Int32.ofNat n ≤ row
    · rw [if_pos c2]
    · rw [if_neg c2, u2_ne _ _ _ _ (by omega), u2_ne _ _ _ _ (by omega), u2_ne _ _ _ _ (by omega), u2_ne _ _ _ _ (by omega)]
theorem spb_2 {cc n : Nat} {row x y lo hi : Int32} {a : sg} : (spb cc n row x y lo hi a).2 = a.2 := by
  unfold spb
  by_cases c1 : row < 0
  · rw [if_pos c1]
  · rw [if_neg c1]
    by_cases c2 : Int32.ofNat n ≤ row
    · rw [if_pos c2]
    · rw [if_neg c2]; rfl
theorem spb_i {cc n k : Nat} {row x y lo hi : Int32} {a : sg} (hk : row.toInt = k) (hn : k < n) (n2 : n ≤ 200) : (spb cc n row x y lo hi a).1 (cc + 1) k = x ∧ (spb cc n row x y lo hi a).1 (cc + 2) k = y ∧ (spb cc n row x y lo hi a).1 (cc + 3) k = lo ∧ (spb cc n row x y lo hi a).1 (cc + 4) k = hi := by
  have e : (Int32.ofNat n).toInt = (n : Int) := Int32.toInt_ofNat_of_lt (by omega)
  have es : spb cc n row x y lo hi a = u2 (u2 (u2 (u2 a (cc + 1) k x) (cc + 2) k y) (cc + 3) k lo) (cc + 4) k hi := by
    unfold spb
    rw [if_neg (fun q => by rw [kl_lt, kl_0] at q; omega), if_neg (fun q => by rw [kl_le, e] at q; omega), tk_nat hk]
  rw [es]
  refine ⟨?_, ?_, ?_, ?_⟩
  · rw [u2_ne _ _ _ _ (by omega), u2_ne _ _ _ _ (by omega), u2_ne _ _ _ _ (by omega), u2_eq]
  · rw [u2_ne _ _ _ _ (by omega), u2_ne _ _ _ _ (by omega), u2_eq]
  · rw [u2_ne _ _ _ _ (by omega), u2_eq]
  · rw [u2_eq]
section
variable {K : Nat → Int32} {P : Nat → Nat} {V W : Nat → Int64} {N : Nat → Int32} {c : Nat} {R0 : Option (Int32 × Nat)} {M0 : Option (Int32 × Nat) × sg}
variable {S : sm_C} {d : Nat} {Φ : sm_Z → Prop} {I : sm_I} {L : sm_L} {R : sm_R} {m : mo} {o : Option sg} {l s t : Nat} {g : gc}
theorem x_tellQuestion (hT : TS K P V W N c) (hls : ml_ls l s) (hm : en_mem ml_tb mlX (xLay, I, L, R)) (hI : ml_TI l s I) (hX : PX K P V W N c R0 M0 (some (t, 0, g)) o I L) (hG : rG s g I) (hR : ∀ a, o = some a → rL K V W s t a I L) (ek : K t = 12) (hr : (I 136 s).toInt < 5) (h : ∀ (J : sm_I) (L' : sm_L), TP K P V W N c R0 M0 s t J L' → Φ (none, (xLay, J, L', kM R))) : sm_wp sm_P S (d + 5) 199 0 [.ref 107] [] (xLay, I, L, kM R) (0, 0) Φ := by
  obtain ⟨hl1, hs1⟩ := ml_l1 hls
  obtain ⟨sn, sv⟩ := ml_sn hls hI
  have bc := ml_cs hs1 hm
  have b34 := x_34 hs1 hm
  obtain ⟨⟨b0, b1⟩, hb⟩ := x_b117 hm
  have bs : (I 107 20).toInt ≤ ml_sum I s := hI.2.2.1
  unfold ml_sum at bs
  have b49 := ml_nm49 hls hI hm
  have tc : t ≤ c := hX.1.2.2.2.2.2.1
  have q0 := bc.2.2.2.2
  have kq : (((I 136 s).toNatClampNeg : Nat) : Int) = (I 136 s).toInt := kl_nat q0.1
  have ok : gc_ok 0 12 g = true := by
    unfold gc_ok
    rw [if_pos ⟨rfl, by decide⟩]
    refine decide_eq_true ?_
    have := hG.2.2.2.2.2.2
    rw [show gw 12 = 12 from by decide, show (sm_room.getD 12 0).toInt = 5 from by decide]
    omega
  refine u_X12_tellQuestion_0 (x_go0 (k := 12) hT ek (by decide) (by decide) (by decide +kernel) (by decide) (by decide) ok hX (fun J1 m1 f1 X1 r1 => ⟨J1, L, R, rfl, ?_⟩))
  have e1 : ∀ t' s' g', m1 = some (t', s', g') → t' = t + 1 ∧ s' = 15 ∧ g' = gc_st 0 12 g := fun t' s' g' em => by
    rcases r1 with r1 | ⟨q1, q2, q3⟩
    · rw [r1] at em; cases em
    · rw [q3] at em
      obtain ⟨y1, y2, y3⟩ := mo_i em
      exact ⟨y1.symm, by rw [← y2]; decide +kernel, y3.symm⟩
  have c20 : J1 107 20 = I 107 20 := f1 107 20 (by omega)
  refine x_named (s0 := 15) hT (by decide +kernel) (fun v a => by rw [ms_15]; rfl) X1 (fun t' s' g' em => (e1 t' s' g' em).2.1) (by rw [c20]; exact b0) (by rw [c20]; exact b1) (fun t' g' a1 em eo uc ku => ?_) (fun J2 m2 o2 f2 X2 r2 => ⟨_, J2, L, R, rfl, ?_⟩)
  · obtain ⟨a, ea3, ea4⟩ := om (Or.inr rfl) eo
    subst ea4
    exact x_hn hT f1 (hR a ea3) tc 12 uc ku (by omega)
  have f12 : xfr I J2 := xfr_tr f1 f2
  have e2 : ∀ t' s' g', m2 = some (t', s', g') → t' = t + 2 ∧ s' = 16 ∧ g' = gc_st 0 12 g ∧ t + 1 < c ∧ t + 1 < 500 ∧ K (t + 1) = 15 ∧ (J1 107 11).toInt = ((t + 1 : Nat) : Int) ∧ ∀ a2, o2 = some a2 → ∃ a, rL K V W s t a I L ∧ a2 = nm_add (V (t + 1)) (u2 a 2 7 12) := fun t' s' g' em => by
    rcases r2 with r2 | ⟨t2, g2, em2, q1, q2, q3, q4, q5⟩
    · rw [r2] at em; cases em
    · rw [q4] at em
      obtain ⟨y1, y2, y3⟩ := mo_i em
      obtain ⟨z1, z2, z3⟩ := e1 t2 15 g2 em2
      subst z1
      have hS := X1.1
      rw [em2] at hS
      refine ⟨by omega, by rw [← y2]; decide +kernel, by rw [← y3]; exact z3, q1, q2, q3, hS.2.2.2.2.1, fun a2 ea => ?_⟩
      rcases q5 with q5 | ⟨q5, -⟩
      · rw [q5] at ea; cases ea
      obtain ⟨a1, ea1, ea1'⟩ := om (Or.inr q5) ea
      obtain ⟨a, ea3, ea4⟩ := om (Or.inr rfl) ea1
      subst ea4
      exact ⟨a, hR a ea3, ea1'⟩
  refine x_mustT (i := 18) (s0 := 16) [] hT rfl (by decide +kernel) (fun v a => rfl) X2 (fun t' s' g' em => ⟨(e2 t' s' g' em).2.1, fun j hj => absurd hj List.not_mem_nil⟩) (fun J3 m3 f3 X3 r3 => ⟨J3, L, R, rfl, fun z => ?_, fun z => ?_⟩)
  · have f13 : xfr I J3 := xfr_tr f12 f3
    have e19 : J3 107 19 = I 107 19 := f13 107 19 (by omega)
    have e136 : J3 136 s = I 136 s := f13 136 s (by omega)
    have d20 : J3 107 20 = I 107 20 := f13 107 20 (by omega)
    have cm3 : cntm J3 = cntm I := by unfold cntm; rw [d20]
    have e3 : ∀ t' s' g', m3 = some (t', s', g') → t' = t + 3 ∧ s' = 17 ∧ g' = gc_st 0 12 g ∧ t + 1 < c ∧ t + 1 < 500 ∧ K (t + 1) = 15 ∧ (J1 107 11).toInt = ((t + 1 : Nat) : Int) ∧ ∀ a2, o2 = some a2 → ∃ a, rL K V W s t a I L ∧ a2 = nm_add (V (t + 1)) (u2 a 2 7 12) := fun t' s' g' em => by
      rcases r3 with r3 | ⟨t3, g3, em3, v1, v2, v3, v4⟩
      · rw [r3] at em; cases em
      · rw [v4] at em
        obtain ⟨y1, y2, y3⟩ := mo_i em
        obtain ⟨z1, z2, z3, z4⟩ := e2 t3 16 g3 em3
        exact ⟨by omega, by rw [← y2]; decide +kernel, by rw [← y3]; exact z3, z4⟩
    rw [e19, sn]
    refine ⟨sv, fun n27 e27 => ?_⟩
    have q1 : ((6 : Int32) * (I 107 19)).toInt = 6 * (s : Int) := ml_mu (by decide) hI.2.1 (by omega) (by omega)
    have q2 : ((248 : Int32) + (6 : Int32) * (I 107 19)).toInt = 248 + 6 * (s : Int) := ml_ad (by decide) q1 (by omega) (by omega)
    have q27 : n27.toInt = ((248 + 6 * s + (I 136 s).toNatClampNeg : Nat) : Int) := by
      rw [e27, e136, ml_ad q2 rfl (by omega) (by omega)]; omega
    refine x_tellSpan (t0 := t + 3) (g0 := gc_st 0 12 g) hT q27 (by omega) (by rw [d20]; exact b0) (by rw [d20]; exact b1) (fun j hj => by rw [f13 117 j (by omega)]; exact hb j (by rw [← cm3]; exact hj)) (fun nm => by rw [fdm_cg f13]; exact (x_fb hm L nm).2.2) X3 (fun t' s' g' em => ⟨(e3 t' s' g' em).1, (e3 t' s' g' em).2.1, (e3 t' s' g' em).2.2.1⟩) (fun a0 ea0 b hb0 u uc ku => ?_) (fun J4 m4 o4 X4 r4 => ⟨J4, L, R, rfl, ?_⟩)
    · obtain ⟨t', s', g', em', -⟩ := PS_0 X3.1 z
      obtain ⟨-, -, -, -, -, -, -, y8⟩ := e3 t' s' g' em'
      obtain ⟨a, RL, ea'⟩ := y8 a0 ea0
      subst ea'
      exact x_pend (k := 12) (v := V (t + 1)) hT f13 RL tc b0 (by omega) (by unfold nm_kd; rw [u2_eq]; decide) (Or.inr (Or.inr (Or.inl ⟨rfl, rfl⟩))) hb0.1 (fun i => hb0.2.1 10 i (by decide)) (fun i => hb0.2.1 11 i (by decide)) hb0.2.2.1 uc ku
    obtain ⟨sf4, r4⟩ := r4
    refine x_mustT (i := 17) (s0 := 26) [9, 13] hT rfl (by decide +kernel) (fun v a => rfl) X4 (fun t' s' g' em => ?_) (fun J5 m5 f5 X5 r5 => ⟨J5, L, R, rfl, fun z5 => ?_, fun z5 => ?_⟩)
    · rcases r4 with r4 | ⟨t4, em4, v1, v2⟩
      · rw [r4] at em; cases em
      · rw [em4] at em
        obtain ⟨y1, y2, y3⟩ := mo_i em
        refine ⟨y2.symm, fun j hj _ => ⟨?_, by rw [← y3]; exact gc0_l (by decide)⟩⟩
        rcases List.mem_cons.mp hj with q | q
        · exact Or.inl q
        · exact Or.inr (List.mem_singleton.mp q)
    · have z5 := PS_le0 X5.1 z5
      rcases r5 with r5 | ⟨t5, g5, em5, v1, v2, v3, v4⟩
      · rw [r5] at X5; exact absurd z5 (PS_no X5.1)
      rcases r4 with r4 | ⟨t4, em4, w1, w2⟩
      · rw [r4] at em5; cases em5
      rw [em4] at em5
      obtain ⟨y1, y2, y3⟩ := mo_i em5
      obtain ⟨t', s', g', em', -⟩ := PS_0 X3.1 z
      obtain ⟨-, -, -, u1, u5, u3, h8, y8⟩ := e3 t' s' g' em'
      -- frame from the start
      have ft : ∀ p j, ¬ (130 ≤ p ∧ p ≤ 133 ∧ j = 248 + 6 * s + (I 136 s).toNatClampNeg) → ¬ (p = 107 ∧ (j = 11 ∨ j = 13 ∨ j = 14 ∨ j = 15 ∨ j = 16)) → J5 p j = I p j := fun p j h1 h2 => by rw [f5 p j h2, sf4 p j h1 h2, f13 p j h2]
      have g19 : J5 107 19 = I 107 19 := ft 107 19 (by omega) (by omega)
      have g20 : J5 107 20 = I 107 20 := ft 107 20 (by omega) (by omega)
      have g136 : J5 136 s = I 136 s := ft 136 s (by omega) (by omega)
      have ecm : cntm J5 = cntm I := by unfold cntm; rw [g20]
      have e4 : fw 26 (Int32.ofNat 17) = 0 := by decide +kernel
      rw [g19, sn]
      refine ⟨sv, fun n36 e36 => ?_⟩
      rw [g136] at e36
      refine x_knows (t := t + 1) h8 (by omega) (by rw [g20]; exact b0) (by rw [g20]; exact b49) X5 (fun J6 L6 e6J e6L X6 => ⟨J6, L6, R, rfl, ?_⟩)
      rw [ecm] at e6J e6L
      have o6 : ∀ p j, ¬ ((p = 116 ∨ p = 117) ∧ j = cntm I) → ¬ (p = 107 ∧ j = 20) → J6 p j = J5 p j := fun p j h1 h2 => by rw [e6J, en_up_ne _ _ _ _ (by omega), en_up_ne _ _ _ _ (by omega), en_up_ne _ _ _ _ (by omega)]
      have s6 : J6 107 19 = I 107 19 := by rw [o6 107 19 (by omega) (by omega)]; exact g19
      rw [s6, sn]
      refine ⟨sv, fun n41 e41 => ⟨sv, fun J7 e7 => h J7 L6 ⟨m5, o4, ?_, Or.inr ⟨t5 + 1, g5, by rw [v4, e4], by omega, ?_, fun a' ea => ?_⟩⟩⟩⟩
      · rw [e7]; exact PX_up (by decide) (by omega) X6
      all_goals
        have o7 : ∀ p j, ¬ ((p = 116 ∨ p = 117) ∧ j = cntm I) → ¬ (p = 136 ∧ j = s) → p ≠ 107 → ¬ (130 ≤ p ∧ p ≤ 133 ∧ j = 248 + 6 * s + (I 136 s).toNatClampNeg) → J7 p j = I p j := fun p j h1 h2 h3 h4 => by rw [e7, en_up_ne _ _ _ _ h2, o6 p j h1 (by omega), ft p j h4 (by omega)]
        have r7 : J7 136 s = I 136 s + 1 := by rw [e7, en_up_eq, e41, o6 136 s (by omega) (by omega), g136]
        have r7i : (J7 136 s).toInt = (I 136 s).toInt + 1 := by rw [r7]; exact ml_in1 (by omega)
      · rw [← y3]
        unfold rG
        obtain ⟨G1, G2, G3, G4, G5, G6, G7⟩ := hG
        refine ⟨?_, ?_, ?_, ?_, ?_, ?_, ?_⟩
        · rw [o7 118 s (by omega) (by omega) (by decide) (by omega), gc0_t (by decide), if_neg (by decide)]; exact G1
        · rw [o7 119 s (by omega) (by omega) (by decide) (by omega), gc0_t (by decide), if_neg (by decide)]; exact G2
        · rw [o7 120 s (by omega) (by omega) (by decide) (by omega), gc0_t (by decide), if_neg (by decide)]; exact G3
        · rw [o7 122 s (by omega) (by omega) (by decide) (by omega), gc0_t (by decide), if_neg (by decide)]; exact G4
        · rw [o7 125 s (by omega) (by omega) (by decide) (by omega), gc0_t (by decide), if_neg (by decide)]; exact G5
        · rw [o7 134 s (by omega) (by omega) (by decide) (by omega), gc0_t (by decide), if_neg (by decide)]; exact G6
        · rw [r7i, gc0_t (by decide), if_pos (by decide)]; omega
      · obtain ⟨a0, ea0, b, eb, hb0, b8, b9, b10, -⟩ := w2 a' ea
        obtain ⟨a, RL, ea'⟩ := y8 a0 ea0
        subst ea'
        obtain ⟨⟨R5, RN⟩, RC, RT, RO, RW, RS, RQ, RB⟩ := RL
        have a12 : ∀ j, (u2 a 2 7 12).1 12 j = a.1 12 j := fun j => u2_ne _ _ _ _ (by omega)
        have ef : a.1 12 4 = I 136 s := RC.2.2.2.2
        obtain ⟨A1, A2, A3⟩ := nmA (v := V (t + 1)) (a := u2 a 2 7 12) (k := 12) (mx := 5) (f := 4) (u2_eq _ _ _ _) (by decide) (fun b => by unfold nb_new; rw [if_neg (by decide), if_neg (by decide), if_neg (by decide), if_pos (by decide)]) (by rw [a12, ef, show (5 : Int32).toInt = 5 from by decide]; exact hr) (by decide)
        have b7 : b.1 2 7 = 12 := by rw [hb0.2.2.2, A3 2 7 (by decide) (by decide) (by omega), if_neg (by omega), u2_eq]
        have b124 : b.1 12 4 = I 136 s + 1 := by rw [hb0.2.1 12 4 (by decide), A3 12 4 (by decide) (by decide) (by omega), if_pos ⟨rfl, rfl⟩, a12, ef]
        have row : (b.1 12 4 - 1).toInt = (((I 136 s).toNatClampNeg : Nat) : Int) := by rw [b124, i32_a1]; exact kq.symm
        have rown := tk_nat row
        have es : a' = spb 29 5 (b.1 12 4 - 1) (b.1 2 8) (b.1 2 9) (b.1 2 10) (J4 133 (248 + 6 * s + (I 136 s).toNatClampNeg)) b := by rw [eb]; unfold en_sp; rw [if_pos b7]
        have B1 : ∀ p j, p ≠ 2 → p ≠ 10 → p ≠ 11 → ¬ (p = 12 ∧ j = 4) → ¬ (30 ≤ p ∧ p ≤ 33 ∧ j = (I 136 s).toNatClampNeg) → a'.1 p j = a.1 p j := fun p j h1 h2 h3 h4 h5 => by rw [es, spb_o (by rw [rown]; omega), hb0.2.1 p j h1, A3 p j h2 h3 (by omega), if_neg h4, u2_ne _ _ _ _ (by omega)]
        have SI := spb_i (cc := 29) (n := 5) (x := b.1 2 8) (y := b.1 2 9) (lo := b.1 2 10) (hi := J4 133 (248 + 6 * s + (I 136 s).toNatClampNeg)) (a := b) row (by omega) (by omega)
        rw [← es] at SI
        have eW : L 113 (t + 1) = W (t + 1) := (hX.1.1.2 (t + 1) u1 (by omega)).2
        refine ⟨?_, ?_, ?_, ?_, ?_, ?_, ?_, ?_⟩
        · have q := rN_new (a := u2 a 2 7 12) (I := I) (J := J7) (L' := L6) (t := t) (t' := t5 + 1) (u := t + 1) (W := W) (so := 4) (x := I 136 s) (L := L) (by rw [u2_ne _ _ _ _ (by omega)]; exact R5) b0 (by omega) (rN_cg RN t (Nat.le_refl _) (fun i _ => ⟨rfl, u2_ne _ _ _ _ (by omega), u2_ne _ _ _ _ (by omega)⟩) (fun i _ => ⟨rfl, rfl, rfl⟩)) (by omega) (by omega) u3 (by rw [A1]; exact Or.inr (Or.inr (Or.inr (Or.inr ⟨rfl, rfl⟩)))) (by rw [A2, a12, ef]) (by rw [e7, en_up_ne _ _ _ _ (by omega), e6J, en_up_eq, g20]) (by rw [e7, en_up_ne _ _ _ _ (by omega), e6J, en_up_ne _ _ _ _ (by omega), en_up_ne _ _ _ _ (by omega), en_up_eq]) (by rw [e7, en_up_ne _ _ _ _ (by omega), e6J, en_up_ne _ _ _ _ (by omega), en_up_eq, e36]) (fun i hi => ⟨o7 116 i (by omega) (by omega) (by decide) (by omega), o7 117 i (by omega) (by omega) (by decide) (by omega)⟩) (by rw [e6L, en_up_eq, eW]) (fun i hi => by rw [e6L, en_up_ne _ _ _ _ (by omega)])
          refine ⟨by rw [es, spb_o (by omega), hb0.2.2.1]; exact q.1, rN_cg q.2 (t5 + 1) (Nat.le_refl _) (fun i _ => ⟨by rw [es, spb_2, hb0.1], by rw [es, spb_o (by omega), hb0.2.1 10 i (by decide)], by rw [es, spb_o (by omega), hb0.2.1 11 i (by decide)]⟩) (fun i _ => ⟨rfl, rfl, rfl⟩)⟩
        · unfold rC
          refine ⟨?_, ?_, ?_, ?_, ?_⟩
          · rw [B1 12 0 (by omega) (by omega) (by omega) (by omega) (by omega), o7 118 s (by omega) (by omega) (by decide) (by omega)]; exact RC.1
          · rw [B1 12 1 (by omega) (by omega) (by omega) (by omega) (by omega), o7 119 s (by omega) (by omega) (by decide) (by omega)]; exact RC.2.1
          · rw [B1 12 2 (by omega) (by omega) (by omega) (by omega) (by omega), o7 122 s (by omega) (by omega) (by decide) (by omega)]; exact RC.2.2.1
          · rw [B1 12 3 (by omega) (by omega) (by omega) (by omega) (by omega), o7 125 s (by omega) (by omega) (by decide) (by omega)]; exact RC.2.2.2.1
          · rw [es, spb_o (by omega), b124, r7]
        · exact rT_cg RT (fun c' j hc => B1 c' j (by omega) (by omega) (by omega) (by omega) (by omega)) (fun p j hp => o7 p j (by omega) (by omega) (by omega) (by omega))
        · exact rO_cg RO b34.2 (fun c' j h1 h2 => B1 c' j (by omega) (by omega) (by omega) (by omega) (by omega)) (by rw [o7 122 s (by omega) (by omega) (by decide) (by omega)]; exact Int.le_refl _) (o7 134 s (by omega) (by omega) (by decide) (by omega)) (fun j => o7 135 j (by omega) (by omega) (by decide) (by omega)) (fun p j h1 h2 _ _ => o7 p j (by omega) (by omega) (by omega) (by omega))
        · exact rW_cg RW (fun j => B1 13 j (by omega) (by omega) (by omega) (by omega) (by omega)) (fun j => o7 121 j (by omega) (by omega) (by decide) (by omega))
        · exact rS_cg RS bc.2.2.2.1.2 hs1 (fun c' j hc => B1 c' j (by omega) (by omega) (by omega) (by omega) (by omega)) (fun p j hp => o7 p j (by omega) (by omega) (by omega) (by omega))
        · intro q hq hq2
          rw [r7i] at hq2
          by_cases cq : q = (I 136 s).toNatClampNeg
          · have val : ∀ p, 130 ≤ p → p ≤ 133 → J7 p (248 + 6 * s + q) = J4 p (248 + 6 * s + (I 136 s).toNatClampNeg) := fun p p1 p2 => by rw [cq, e7, en_up_ne _ _ _ _ (by omega), o6 p _ (by omega) (by omega), f5 p _ (by omega)]
            rw [val 130 (by decide) (by decide), val 131 (by decide) (by decide), val 132 (by decide) (by decide), val 133 (by decide) (by decide), cq, ← b8, ← b9, ← b10]
            exact SI
          · rw [B1 30 q (by omega) (by omega) (by omega) (by omega) (by omega), B1 31 q (by omega) (by omega) (by omega) (by omega) (by omega), B1 32 q (by omega) (by omega) (by omega) (by omega) (by omega), B1 33 q (by omega) (by omega) (by omega) (by omega) (by omega), o7 130 _ (by omega) (by omega) (by decide) (by omega), o7 131 _ (by omega) (by omega) (by decide) (by omega), o7 132 _ (by omega) (by omega) (by decide) (by omega), o7 133 _ (by omega) (by omega) (by decide) (by omega)]
            exact RQ q hq (by omega)
        · exact rB_new (so := 4) (x := I 136 s) RB b0 (by omega) (by rw [e7, en_up_ne _ _ _ _ (by omega), e6J, en_up_eq, g20]) (by rw [e7, en_up_ne _ _ _ _ (by omega), e6J, en_up_ne _ _ _ _ (by omega), en_up_ne _ _ _ _ (by omega), en_up_eq]) (by rw [e7, en_up_ne _ _ _ _ (by omega), e6J, en_up_ne _ _ _ _ (by omega), en_up_eq, e36]) (fun i hi => ⟨o7 116 i (by omega) (by omega) (by decide) (by omega), o7 117 i (by omega) (by omega) (by decide) (by omega)⟩) (by rw [o7 122 s (by omega) (by omega) (by decide) (by omega)]; exact Int.le_refl _) (fun y => absurd y (by decide))
    · have nz : ¬ J5 107 13 = 0 := fun y => z5 (by rw [y]; decide)
      have em := PS_n0 X5.1 nz
      exact h J5 L ⟨m5, o4, X5, Or.inl em⟩
  · have em3 := PS_n0 X3.1 z
    subst em3
    refine x_must (i := 17) [] hT rfl X3.1 (e := (0, none)) (M0 := M0) (V := V) (PE_n z) (fun t' s' g' em => by cases em) (fun J4 m4 f4 X4 _ r4 => ⟨J4, L, R, rfl, fun z4 => ?_, fun z4 => ?_⟩)
    · exfalso
      rcases r4 with r4 | ⟨t4, s4, g4, em4, -⟩
      · subst r4; exact PS_no X4 (PS_le0 X4 z4)
      · cases em4
    · have em := PS_n0 X4 (fun y => z4 (by rw [y]; decide))
      subst em
      exact h J4 L ⟨none, none, PX_F X4, Or.inl rfl⟩
end
