section
/-! tells of the reference, exact: the end of a SAYING -/
/-- a SAYING's name -/
theorem nmY {v : Int64} {a : sg} {kk : Int32} {n : Nat} (hk : a.1 2 7 = kk) (k68 : kk = 6 ∨ kk = 8) (hn : (a.1 12 3).toInt = n) (n9 : n < 10) : nm_kd a = 6 ∧ (nm_add v a).1 11 (cnt a.1) = a.1 12 3 ∧ ∀ p j, p ≠ 10 → p ≠ 11 → ¬ (p = 2 ∧ j = 5) → (nm_add v a).1 p j = if p = 12 ∧ j = 3 then a.1 12 3 + 1 else if p = 12 ∧ j = 6 ∧ kk = 8 then a.1 12 6 ||| ((1 : Int32) <<< (a.1 12 3 &&& 31)) else if p = 22 ∧ j = n then 1 else if p = 23 ∧ j = 4 * n then 1 else a.1 p j := by
  have c10 : (10 : Int32).toInt = 10 := by decide
  have c4 : (4 : Int32).toInt = 4 := by decide
  have ek : nm_kd a = 6 := by
    unfold nm_kd
    rcases k68 with e | e
    · rw [hk, e, if_neg (by decide)]
    · rw [hk, e, if_pos rfl]
  have b12 : ∀ j, (nm_b v a).1 12 j = a.1 12 j := fun j => nm_b_o (by decide)
  have b27 : (nm_b v a).1 2 7 = kk := by rw [nm_b_o (by decide)]; exact hk
  have nn := tk_nat hn
  have m4 : (a.1 12 3 * 4).toInt = ((4 * n : Nat) : Int) := (ml_mu hn c4 (by omega) (by omega)).trans (by omega)
  have nn4 := tk_nat m4
  have nb : nb_new 6 (nm_b v a) = ((sy_new (decide (kk = 8)) (nm_b v a)).1 12 3 - 1, sy_new (decide (kk = 8)) (nm_b v a)) := by
    unfold nb_new
    rw [if_neg (by decide), if_neg (by decide), if_neg (by decide), if_neg (by decide), b27]
  have sy : sy_new (decide (kk = 8)) (nm_b v a) = u2 (u2 (u2 (if decide (kk = 8) = true then u2 (nm_b v a) 12 6 (a.1 12 6 ||| ((1 : Int32) <<< (a.1 12 3 &&& 31))) else nm_b v a) 22 n 1) 23 (4 * n) 1) 12 3 (a.1 12 3 + 1) := by
    unfold sy_new
    rw [b12, b12, if_pos (by rw [kl_lt, c10]; omega), nn, nn4]
  refine ⟨ek, ?_, fun p j p1 p2 p3 => ?_⟩
  · rw [nm_add_11, if_pos rfl, ek, nb]
    show (sy_new (decide (kk = 8)) (nm_b v a)).1 12 3 - 1 = _
    rw [sy, u2_eq]; exact i32_a1 _
  · rw [nm_add_o p1 p2 p3, ek, nb]
    show (sy_new (decide (kk = 8)) (nm_b v a)).1 p j = _
    rw [sy]
    by_cases c1 : p = 12 ∧ j = 3
    · rw [if_pos c1, c1.1, c1.2, u2_eq]
    · rw [if_neg c1, u2_ne _ _ _ _ c1]
      by_cases c2 : p = 12 ∧ j = 6 ∧ kk = 8
      · rw [if_pos c2, c2.1, c2.2.1, u2_ne _ _ _ _ (by omega), u2_ne _ _ _ _ (by omega), if_pos (decide_eq_true c2.2.2), u2_eq]
      · rw [if_neg c2]
        by_cases c3 : p = 22 ∧ j = n
        · rw [if_pos c3, c3.1, c3.2, u2_ne _ _ _ _ (by omega), u2_eq]
        · rw [if_neg c3]
          by_cases c4 : p = 23 ∧ j = 4 * n
          · rw [if_pos c4, c4.1, c4.2, u2_eq]
          · rw [if_neg c4, u2_ne _ _ _ _ c4, u2_ne _ _ _ _ c3]
            by_cases c5 : kk = 8
            · rw [if_pos (decide_eq_true c5), u2_ne _ _ _ _ (fun q => c2 ⟨q.1, q.2, c5⟩), nm_b_o p1]
            · rw [if_neg (by rw [decide_eq_false c5]; decide), nm_b_o p1]
section
variable {K : Nat → Int32} {P : Nat → Nat} {V W : Nat → Int64} {N : Nat → Int32} {c : Nat} {R0 : Option (Int32 × Nat)} {M0 : Option (Int32 × Nat) × sg}
variable {S : sm_C} {d : Nat} {Φ : sm_Z → Prop} {I : sm_I} {L : sm_L} {R : sm_R} {m : mo} {o : Option sg} {l s t n : Nat} {g : gc}
theorem x_hn2 {u : Nat} {a : sg} {J : sm_I} (hT : TS K P V W N c) (f : J 107 20 = I 107 20) (hR : rL K V W s t a I L) (tc : t ≤ c) (k : Int32) (uc : u < c) (ku : K u = 15) (b : (I 107 20).toInt < 35) : ((∃ i, i < cntm J ∧ L 115 i = W u) ↔ twc (u2 a 2 7 k).2 (V u) (cnt (u2 a 2 7 k).1) 0 = true) ∧ ¬ 35 ≤ (u2 a 2 7 k).1 2 5 := by
  have ec : cnt (u2 a 2 7 k).1 = cntm J := by unfold cnt cntm; rw [u2_ne _ _ _ _ (by omega), hR.1.1, f]
  have ecI : cntm J = cntm I := by unfold cntm; rw [f]
  refine ⟨?_, fun q => ?_⟩
  · rw [ec, ecI]
    exact rN_tw hT hR.1.2 tc uc ku
  · rw [u2_ne _ _ _ _ (by omega), hR.1.1] at q
    have q := kl_le.mp q
    rw [show (35 : Int32).toInt = 35 from by decide] at q
    omega
/-- what the header of a SAYING has told -/
def hdA (V : Nat → Int64) (kk : Int32) (tn n : Nat) (x : Int32) (a A : sg) : Prop := A.2 = (nm_add (V tn) (u2 a 2 7 kk)).2 ∧ (∀ p j, p ≠ 2 → ¬ (p = 21 ∧ j = n) → A.1 p j = (nm_add (V tn) (u2 a 2 7 kk)).1 p j) ∧ A.1 2 5 = (nm_add (V tn) (u2 a 2 7 kk)).1 2 5 ∧ A.1 2 7 = kk ∧ A.1 21 n = x
theorem x_sayT {Jh J24 : sm_I} {m3 : mo} {o3 : Option sg} {kk x1 x8 v6 x7 : Int32} (hT : TS K P V W N c) (hls : ml_ls l s) (hm : en_mem ml_tb mlX (xLay, I, L, R)) (hI : ml_TI l s I) (hG : rG s g I) (tc : t ≤ c) (tx0 : tx K P W N c I L) (hn : (I 125 s).toInt = n) (n9 : n < 10) (k68 : (kk = 6 ∧ v6 = 0) ∨ (kk = 8 ∧ v6 = 1)) (h1 : x1.toInt = ((10 * s + n : Nat) : Int)) (hfr : ∀ p j, ¬ ((p = 126 ∨ p = 127) ∧ j = 10 * s + n) → ¬ (p = 107 ∧ (j = 11 ∨ j = 13 ∨ j = 14 ∨ j = 15 ∨ j = 16)) → Jh p j = I p j) (e126 : Jh 126 (10 * s + n) = v6) (e127 : Jh 127 (10 * s + n) = x7) (X3 : PX K P V W N c R0 M0 m3 o3 Jh L) (r3 : ∀ t' s' g', m3 = some (t', s', g') → t + 1 < t' ∧ s' = 17 ∧ g' = gc_st 0 kk g ∧ t + 1 < c ∧ t + 1 < 500 ∧ K (t + 1) = 15 ∧ x8.toInt = ((t + 1 : Nat) : Int) ∧ ∀ A, o3 = some A → ∃ a, rL K V W s t a I L ∧ hdA V kk (t + 1) n x7 a A) (e24 : J24 = sm_up Jh 128 (10 * s + n) 0) (h : ∀ (J : sm_I) (L' : sm_L), TP K P V W N c R0 M0 s t J L' → Φ (none, (xLay, J, L', kM R))) : sm_wp sm_P S (d + 6) 200 10 [.ref 107, .int x1, .int x8, .int (1 : Int32)] [] (xLay, J24, L, kM R) (0, 0) Φ := by
  obtain ⟨hl1, hs1⟩ := ml_l1 hls
  obtain ⟨sn, sv⟩ := ml_sn hls hI
  have bc := ml_cs hs1 hm
  have b34 := x_34 hs1 hm
  obtain ⟨⟨b0, b1⟩, hb⟩ := x_b117 hm
  have bs : (I 107 20).toInt ≤ ml_sum I s := hI.2.2.1
  unfold ml_sum at bs
  have b49 := ml_nm49 hls hI hm
  have kk68 : kk = 6 ∨ kk = 8 := by rcases k68 with q | q; exact Or.inl q.1; exact Or.inr q.1
  have kk15 : kk.toInt < 15 := by rcases kk68 with q | q <;> rw [q] <;> decide
  have kk12 : kk ≠ 12 := by rcases kk68 with q | q <;> rw [q] <;> decide
  have gwk : gw kk = 6 := by rcases kk68 with q | q <;> rw [q] <;> decide
  have kn := tk_nat hn
  have o24 : ∀ p j, ¬ ((p = 126 ∨ p = 127 ∨ p = 128) ∧ j = 10 * s + n) → ¬ (p = 107 ∧ (j = 11 ∨ j = 13 ∨ j = 14 ∨ j = 15 ∨ j = 16)) → J24 p j = I p j := fun p j h1 h2 => by rw [e24, en_up_ne _ _ _ _ (by omega)]; exact hfr p j (by omega) h2
  have X24 : PX K P V W N c R0 M0 m3 o3 J24 L := by rw [e24]; exact PX_up (by decide) (by omega) X3
  have z128 : (J24 128 (10 * s + n)).toInt = 0 := by rw [e24, en_up_eq]; decide
  have d20 : J24 107 20 = I 107 20 := o24 107 20 (by omega) (by omega)
  have f116 : ∀ j, J24 116 j = I 116 j ∧ J24 117 j = I 117 j := fun j => ⟨o24 116 j (by omega) (by omega), o24 117 j (by omega) (by omega)⟩
  have cm : cntm J24 = cntm I := by unfold cntm; rw [d20]
  have efd : ∀ nm so, fdm J24 L nm so = fdm I L nm so := fun nm so => by unfold fdm; rw [cm, fm_cg f116]
  cases em3 : m3 with
  | none =>
    subst em3
    have nz := PS_no X24.1
    refine u_X12_tellSaying_10 ⟨fun q => absurd q (by decide), fun _ => ⟨fun q => absurd q nz, fun _ => ?_⟩⟩
    refine x_must (i := 17) [] hT rfl X24.1 (e := (0, none)) (M0 := M0) (V := V) (PE_n nz) (fun t' s' g' em => by cases em) (fun J4 m4 f4 X4 _ r4 => ⟨J4, L, R, rfl, fun z4 => ?_, fun z4 => ?_⟩)
    · exfalso
      rcases r4 with r4 | ⟨t4, s4, g4, em4, -⟩
      · subst r4; exact PS_no X4 (PS_le0 X4 z4)
      · cases em4
    · have em := PS_n0 X4 (fun y => z4 (by rw [y]; decide))
      subst em
      exact h J4 L ⟨none, none, PX_F X4, Or.inl rfl⟩
  | some mq =>
  obtain ⟨t3, s3, g3⟩ := mq
  obtain ⟨T1, T2, T3, u1, u5, u3, h8, y8⟩ := r3 t3 s3 g3 em3
  -- what is known of the header
  have hdr : ∀ A, o3 = some A → ∃ a, rL K V W s t a I L ∧ hdA V kk (t + 1) n x7 a A ∧ (nm_kd (u2 a 2 7 kk) = 6 ∧ (nm_add (V (t + 1)) (u2 a 2 7 kk)).1 11 (cnt (u2 a 2 7 kk).1) = I 125 s) ∧ ∀ p j, p ≠ 10 → p ≠ 11 → p ≠ 2 → (nm_add (V (t + 1)) (u2 a 2 7 kk)).1 p j = if p = 12 ∧ j = 3 then I 125 s + 1 else if p = 12 ∧ j = 6 ∧ kk = 8 then a.1 12 6 ||| ((1 : Int32) <<< (I 125 s &&& 31)) else if p = 22 ∧ j = n then 1 else if p = 23 ∧ j = 4 * n then 1 else a.1 p j := fun A ea => by
    obtain ⟨a, RL, hA⟩ := y8 A ea
    have ef : a.1 12 3 = I 125 s := RL.2.1.2.2.2.1
    have u12 : ∀ j, (u2 a 2 7 kk).1 12 j = a.1 12 j := fun j => u2_ne _ _ _ _ (by omega)
    obtain ⟨Y1, Y2, Y3⟩ := nmY (v := V (t + 1)) (a := u2 a 2 7 kk) (kk := kk) (n := n) (u2_eq _ _ _ _) kk68 (by rw [u12, ef]; exact hn) n9
    rw [u12, ef] at Y2
    refine ⟨a, RL, hA, ⟨Y1, Y2⟩, fun p j p1 p2 p3 => ?_⟩
    rw [Y3 p j p1 p2 (by omega), u12, u12, ef, u2_ne _ _ _ _ (by omega)]
  refine x_say10 (I0 := J24) (A := o3.getD (fun _ _ => 0, fun _ => 0)) (s := s) (n := n) (t0 := t + 1) (tl := kk) (ts := (gc_st 0 kk g).tells) hT h1 hs1 n9 (by rw [d20]; exact b0) (by rw [d20]; exact b1) (fun j hj => by rw [(f116 j).2]; exact hb j (by rw [← cm]; exact hj)) (fun nm => by rw [efd]; exact (x_fb hm L nm).2.2) kk12 (∃ A, o3 = some A) (fun hq => ?_) (fun J m' o' XJ frJ rJ => ⟨fun z => ?_, fun z => ?_⟩) (fun J pJ => h J L ⟨none, none, PX_F pJ, Or.inl rfl⟩) 4 J24 1 m3 o3 X24 (fun _ _ _ _ _ _ => rfl) (fun _ => ?_) (fun y => absurd y (by decide))
  · obtain ⟨A, ea⟩ := hq
    obtain ⟨a, RL, hA, ⟨Y1, Y2⟩, Y3⟩ := hdr A ea
    rw [ea]
    show (∀ {u : Nat} {b : sg}, u < c → K u = 15 → b.2 = A.2 → (∀ j, b.1 10 j = A.1 10 j ∧ b.1 11 j = A.1 11 j) → b.1 2 5 = A.1 2 5 → fd b (V u) 3 = fdm J24 L (W u) 2) ∧ (A.1 12 3).toInt = (n : Int) + 1 ∧ A.1 2 7 ≠ 12
    refine ⟨fun {u b} uc ku w1 w2 w3 => ?_, ?_, by rw [hA.2.2.2.1]; exact kk12⟩
    · rw [efd]
      exact x_pend (k := kk) (v := V (t + 1)) hT xfr_rf RL tc b0 (by omega) (by rw [Y1]; decide) (Or.inr (Or.inr (Or.inl ⟨rfl, rfl⟩))) (by rw [w1, hA.1]) (fun i => by rw [(w2 i).1, hA.2.1 10 i (by decide) (by omega)]) (fun i => by rw [(w2 i).2, hA.2.1 11 i (by decide) (by omega)]) (by rw [w3, hA.2.2.1]) uc ku
    · rw [hA.2.1 12 3 (by decide) (by omega), Y3 12 3 (by decide) (by decide) (by decide), if_pos ⟨rfl, rfl⟩]
      have := ml_in1 (x := I 125 s) (by omega)
      omega
  · -- the end
    have z := PS_le0 XJ.1 z
    rcases rJ with rJ | ⟨t', g', em', w1, w2, w3, w4, w5, w6⟩
    · rw [rJ] at XJ; exact absurd z (PS_no XJ.1)
    have ft : ∀ p j, ¬ ((p = 126 ∨ p = 127 ∨ p = 128) ∧ j = 10 * s + n) → ¬ (p = 129 ∧ 4 * (10 * s + n) ≤ j ∧ j < 4 * (10 * s + n) + 4) → ¬ (130 ≤ p ∧ p ≤ 133 ∧ 12 * (10 * s + n) ≤ j ∧ j < 12 * (10 * s + n) + 12) → ¬ (p = 107 ∧ (j = 11 ∨ j = 13 ∨ j = 14 ∨ j = 15 ∨ j = 16)) → J p j = I p j := fun p j p1 p2 p3 p4 => by rw [frJ p j (by omega) p2 p3 p4]; exact o24 p j p1 p4
    have k126 : J 126 (10 * s + n) = v6 := by rw [frJ 126 _ (by omega) (by omega) (by omega) (by omega), e24, en_up_ne _ _ _ _ (by omega)]; exact e126
    have k127 : J 127 (10 * s + n) = x7 := by rw [frJ 127 _ (by omega) (by omega) (by omega) (by omega), e24, en_up_ne _ _ _ _ (by omega)]; exact e127
    have g19 : J 107 19 = I 107 19 := ft 107 19 (by omega) (by omega) (by omega) (by omega)
    have g20 : J 107 20 = I 107 20 := ft 107 20 (by omega) (by omega) (by omega) (by omega)
    have g125 : J 125 s = I 125 s := ft 125 s (by omega) (by omega) (by omega) (by omega)
    have ecm : cntm J = cntm I := by unfold cntm; rw [g20]
    rw [g19, sn]
    refine ⟨sv, fun n5 e5 => ?_⟩
    rw [g125] at e5
    refine x_knows (t := t + 1) h8 (by omega) (by rw [g20]; exact b0) (by rw [g20]; exact b49) XJ (fun J6 L6 e6J e6L X6 => ⟨J6, L6, R, rfl, ?_⟩)
    rw [ecm] at e6J e6L
    have o6 : ∀ p j, ¬ ((p = 116 ∨ p = 117) ∧ j = cntm I) → ¬ (p = 107 ∧ j = 20) → J6 p j = J p j := fun p j h1 h2 => by rw [e6J, en_up_ne _ _ _ _ (by omega), en_up_ne _ _ _ _ (by omega), en_up_ne _ _ _ _ (by omega)]
    have s6 : J6 107 19 = I 107 19 := by rw [o6 107 19 (by omega) (by omega)]; exact g19
    rw [s6, sn]
    refine ⟨sv, fun n10 e10 => ⟨sv, fun J7 e7 => h J7 L6 ⟨m', o', ?_, Or.inr ⟨t', g', em', by omega, ?_, fun a' ea => ?_⟩⟩⟩⟩
    · rw [e7]; exact PX_up (by decide) (by omega) X6
    all_goals
      have o7J : ∀ p j, ¬ ((p = 116 ∨ p = 117) ∧ j = cntm I) → ¬ (p = 125 ∧ j = s) → p ≠ 107 → J7 p j = J p j := fun p j h1 h2 h3 => by rw [e7, en_up_ne _ _ _ _ h2, o6 p j h1 (by omega)]
      have o7 : ∀ p j, ¬ ((p = 116 ∨ p = 117) ∧ j = cntm I) → ¬ (p = 125 ∧ j = s) → p ≠ 107 → ¬ ((p = 126 ∨ p = 127 ∨ p = 128) ∧ j = 10 * s + n) → ¬ (p = 129 ∧ 4 * (10 * s + n) ≤ j ∧ j < 4 * (10 * s + n) + 4) → ¬ (130 ≤ p ∧ p ≤ 133 ∧ 12 * (10 * s + n) ≤ j ∧ j < 12 * (10 * s + n) + 12) → J7 p j = I p j := fun p j h1 h2 h3 h4 h5 h6 => by rw [o7J p j h1 h2 h3, ft p j h4 h5 h6 (by omega)]
      have r7 : J7 125 s = I 125 s + 1 := by rw [e7, en_up_eq, e10, o6 125 s (by omega) (by omega), g125]
      have r7i : (J7 125 s).toInt = (I 125 s).toInt + 1 := by rw [r7]; exact ml_in1 (by omega)
    · unfold rG
      obtain ⟨G1, G2, G3, G4, G5, G6, G7⟩ := hG
      rw [w2]
      refine ⟨?_, ?_, ?_, ?_, ?_, ?_, ?_⟩
      · rw [o7 118 s (by omega) (by omega) (by decide) (by omega) (by omega) (by omega), gc0_t kk15, if_neg (by rw [gwk]; decide)]; exact G1
      · rw [o7 119 s (by omega) (by omega) (by decide) (by omega) (by omega) (by omega), gc0_t kk15, if_neg (by rw [gwk]; decide)]; exact G2
      · rw [o7 120 s (by omega) (by omega) (by decide) (by omega) (by omega) (by omega), gc0_t kk15, if_neg (by rw [gwk]; decide)]; exact G3
      · rw [o7 122 s (by omega) (by omega) (by decide) (by omega) (by omega) (by omega), gc0_t kk15, if_neg (by rw [gwk]; decide)]; exact G4
      · rw [r7i, gc0_t kk15, if_pos (by rw [gwk])]; omega
      · rw [o7 134 s (by omega) (by omega) (by decide) (by omega) (by omega) (by omega), gc0_t kk15, if_neg (by rw [gwk]; decide)]; exact G6
      · rw [o7 136 s (by omega) (by omega) (by decide) (by omega) (by omega) (by omega), gc0_t kk15, if_neg (by rw [gwk]; decide)]; exact G7
    · obtain ⟨⟨A, eA⟩, RF⟩ := w6 a' ea
      rw [eA] at RF
      have RF : rF s n g'.alls A a' J := RF
      obtain ⟨a, RL, hA, ⟨Y1, Y2⟩, Y3⟩ := hdr A eA
      obtain ⟨⟨R5, RN⟩, RC, RT, RO, RW, RS, RQ, RB⟩ := RL
      obtain ⟨⟨F1, F2, F3⟩, F4, F5⟩ := RF
      have u12 : ∀ j, (u2 a 2 7 kk).1 12 j = a.1 12 j := fun j => u2_ne _ _ _ _ (by omega)
      -- cells that neither the name nor the choices touch
      have B : ∀ p j, p ≠ 2 → p ≠ 10 → p ≠ 11 → ¬ (p = 12 ∧ (j = 3 ∨ j = 6)) → ¬ (p = 21 ∧ j = n) → ¬ (p = 22 ∧ j = n) → ¬ (p = 23 ∧ 4 * n ≤ j ∧ j < 4 * n + 4) → ¬ (25 ≤ p ∧ p ≤ 28 ∧ 12 * n ≤ j ∧ j < 12 * n + 12) → a'.1 p j = a.1 p j := fun p j q1 q2 q3 q4 q5 q6 q7 q8 => by
        rw [F2 p j q1 q6 q7 q8, hA.2.1 p j q1 q5, Y3 p j q2 q3 q1, if_neg (by omega), if_neg (by omega), if_neg (by omega), if_neg (by omega)]
      have eW : L 113 (t + 1) = W (t + 1) := (tx0.2 (t + 1) u1 (by omega)).2
      refine ⟨?_, ?_, ?_, ?_, ?_, ?_, ?_, ?_⟩
      · have q := rN_new (a := u2 a 2 7 kk) (I := I) (J := J7) (L' := L6) (t := t) (t' := t') (u := t + 1) (W := W) (so := 3) (x := I 125 s) (L := L) (by rw [u2_ne _ _ _ _ (by omega)]; exact R5) b0 (by omega) (rN_cg RN t (Nat.le_refl _) (fun i _ => ⟨rfl, u2_ne _ _ _ _ (by omega), u2_ne _ _ _ _ (by omega)⟩) (fun i _ => ⟨rfl, rfl, rfl⟩)) (by omega) (by omega) u3 (by rw [Y1]; exact Or.inr (Or.inr (Or.inr (Or.inl ⟨rfl, rfl⟩)))) Y2 (by rw [e7, en_up_ne _ _ _ _ (by omega), e6J, en_up_eq, g20]) (by rw [e7, en_up_ne _ _ _ _ (by omega), e6J, en_up_ne _ _ _ _ (by omega), en_up_ne _ _ _ _ (by omega), en_up_eq]) (by rw [e7, en_up_ne _ _ _ _ (by omega), e6J, en_up_ne _ _ _ _ (by omega), en_up_eq, e5]) (fun i hi => ⟨o7 116 i (by omega) (by omega) (by decide) (by omega) (by omega) (by omega), o7 117 i (by omega) (by omega) (by decide) (by omega) (by omega) (by omega)⟩) (by rw [e6L, en_up_eq, eW]) (fun i hi => by rw [e6L, en_up_ne _ _ _ _ (by omega)])
        refine ⟨by rw [F3, hA.2.2.1]; exact q.1, rN_cg q.2 t' (Nat.le_refl _) (fun i _ => ⟨by rw [F1, hA.1], by rw [F2 10 i (by decide) (by omega) (by omega) (by omega), hA.2.1 10 i (by decide) (by omega)], by rw [F2 11 i (by decide) (by omega) (by omega) (by omega), hA.2.1 11 i (by decide) (by omega)]⟩) (fun i _ => ⟨rfl, rfl, rfl⟩)⟩
      · unfold rC
        refine ⟨?_, ?_, ?_, ?_, ?_⟩
        · rw [B 12 0 (by omega) (by omega) (by omega) (by omega) (by omega) (by omega) (by omega) (by omega), o7 118 s (by omega) (by omega) (by decide) (by omega) (by omega) (by omega)]; exact RC.1
        · rw [B 12 1 (by omega) (by omega) (by omega) (by omega) (by omega) (by omega) (by omega) (by omega), o7 119 s (by omega) (by omega) (by decide) (by omega) (by omega) (by omega)]; exact RC.2.1
        · rw [B 12 2 (by omega) (by omega) (by omega) (by omega) (by omega) (by omega) (by omega) (by omega), o7 122 s (by omega) (by omega) (by decide) (by omega) (by omega) (by omega)]; exact RC.2.2.1
        · rw [F2 12 3 (by decide) (by omega) (by omega) (by omega), hA.2.1 12 3 (by decide) (by omega), Y3 12 3 (by decide) (by decide) (by decide), if_pos ⟨rfl, rfl⟩, r7]
        · rw [B 12 4 (by omega) (by omega) (by omega) (by omega) (by omega) (by omega) (by omega) (by omega), o7 136 s (by omega) (by omega) (by decide) (by omega) (by omega) (by omega)]; exact RC.2.2.2.2
      · exact rT_cg RT (fun c' j hc => B c' j (by omega) (by omega) (by omega) (by omega) (by omega) (by omega) (by omega) (by omega)) (fun p j hp => o7 p j (by omega) (by omega) (by omega) (by omega) (by omega) (by omega))
      · exact rO_cg RO b34.2 (fun c' j h1 h2 => B c' j (by omega) (by omega) (by omega) (by omega) (by omega) (by omega) (by omega) (by omega)) (by rw [o7 122 s (by omega) (by omega) (by decide) (by omega) (by omega) (by omega)]; exact Int.le_refl _) (o7 134 s (by omega) (by omega) (by decide) (by omega) (by omega) (by omega)) (fun j => o7 135 j (by omega) (by omega) (by decide) (by omega) (by omega) (by omega)) (fun p j h1 h2 _ _ => o7 p j (by omega) (by omega) (by omega) (by omega) (by omega) (by omega))
      · exact rW_cg RW (fun j => B 13 j (by omega) (by omega) (by omega) (by omega) (by omega) (by omega) (by omega) (by omega)) (fun j => o7 121 j (by omega) (by omega) (by decide) (by omega) (by omega) (by omega))
      · refine ⟨fun i hi => ⟨fun q => ?_, fun q => ?_⟩, ?_⟩
        · rw [r7i] at q
          by_cases ci : i = n
          · subst ci
            have e8 : J7 128 (10 * s + i) = J 128 (10 * s + i) := o7J 128 _ (by omega) (by omega) (by decide)
            refine ⟨?_, ?_, ?_, ?_, fun q' hq => ?_⟩
            · rw [F2 21 i (by decide) (by omega) (by omega) (by omega), hA.2.2.2.2, o7J 127 _ (by omega) (by omega) (by decide), k127]
            · rw [e8]; exact en_ofI (by rw [F4, w3])
            · rw [e8, w3]; omega
            · rw [e8, w3]; omega
            · rw [e8, w3] at hq
              exact rA_cg (F5 q' (by omega)) hi (by omega) (fun _ _ _ _ _ _ => rfl) rfl (o7J 129 _ (by omega) (by omega) (by decide)) (fun p j p1 p2 _ _ => o7J p j (by omega) (by omega) (by omega))
          · exact rY_cg ((RS.1 i hi).1 (by omega)) hi (B 21 i (by omega) (by omega) (by omega) (by omega) (by omega) (by omega) (by omega) (by omega)) (B 22 i (by omega) (by omega) (by omega) (by omega) (by omega) (by omega) (by omega) (by omega)) (fun j j1 j2 => B 23 j (by omega) (by omega) (by omega) (by omega) (by omega) (by omega) (by omega) (by omega)) (fun c' j c1 c2 j1 j2 => B c' j (by omega) (by omega) (by omega) (by omega) (by omega) (by omega) (by omega) (by omega)) (o7 127 _ (by omega) (by omega) (by decide) (by omega) (by omega) (by omega)) (o7 128 _ (by omega) (by omega) (by decide) (by omega) (by omega) (by omega)) (fun j j1 j2 => o7 129 _ (by omega) (by omega) (by decide) (by omega) (by omega) (by omega)) (fun p j p1 p2 j1 j2 => o7 p _ (by omega) (by omega) (by omega) (by omega) (by omega) (by omega))
        · rw [r7i] at q
          have q0 := (RS.1 i hi).2 (by omega)
          refine ⟨by rw [B 21 i (by omega) (by omega) (by omega) (by omega) (by omega) (by omega) (by omega) (by omega)]; exact q0.1, fun q' hq => by rw [B 23 _ (by omega) (by omega) (by omega) (by omega) (by omega) (by omega) (by omega) (by omega)]; exact q0.2 q' hq⟩
        · have e1 : (J7 125 s).toNatClampNeg = n + 1 := tk_nat (by rw [r7i]; omega)
          rw [e1, F2 12 6 (by decide) (by omega) (by omega) (by omega), hA.2.1 12 6 (by decide) (by omega), Y3 12 6 (by decide) (by decide) (by decide), if_neg (by omega)]
          have S0 := RS.2
          rw [kn] at S0
          have cgS : sb (fun i => J7 126 (10 * s + i)) n = a.1 12 6 := by
            rw [S0]
            exact sb_cg n (fun i hi => o7 126 _ (by omega) (by omega) (by decide) (by omega) (by omega) (by omega))
          have k7 : J7 126 (10 * s + n) = v6 := by rw [o7J 126 _ (by omega) (by omega) (by decide)]; exact k126
          have eI : I 125 s = Int32.ofNat n := en_ofI (by rw [hn, Int32.toInt_ofNat_of_lt (by omega)])
          show _ = (if J7 126 (10 * s + n) = 0 then sb (fun i => J7 126 (10 * s + i)) n else sb (fun i => J7 126 (10 * s + i)) n ||| ((1 : Int32) <<< (Int32.ofNat n &&& 31)))
          rw [cgS, k7]
          rcases k68 with ⟨q1, q2⟩ | ⟨q1, q2⟩
          · rw [if_neg (fun y => by rw [q1] at y; exact absurd y.2.2 (by decide)), if_neg (by omega), if_neg (by omega), if_pos q2]
          · rw [if_pos ⟨rfl, rfl, q1⟩, if_neg (by rw [q2]; decide), eI]
      · exact rQ_cg RQ (fun c' j h1 h2 => B c' j (by omega) (by omega) (by omega) (by omega) (by omega) (by omega) (by omega) (by omega)) (fun p j hp => o7 p j (by omega) (by omega) (by omega) (by omega) (by omega) (by omega))
      · exact rB_new (so := 3) (x := I 125 s) RB b0 (by omega) (by rw [e7, en_up_ne _ _ _ _ (by omega), e6J, en_up_eq, g20]) (by rw [e7, en_up_ne _ _ _ _ (by omega), e6J, en_up_ne _ _ _ _ (by omega), en_up_ne _ _ _ _ (by omega), en_up_eq]) (by rw [e7, en_up_ne _ _ _ _ (by omega), e6J, en_up_ne _ _ _ _ (by omega), en_up_eq, e5]) (fun i hi => ⟨o7 116 i (by omega) (by omega) (by decide) (by omega) (by omega) (by omega), o7 117 i (by omega) (by omega) (by decide) (by omega) (by omega) (by omega)⟩) (by rw [o7 122 s (by omega) (by omega) (by decide) (by omega) (by omega) (by omega)]; exact Int.le_refl _) (fun y => absurd y (by decide))
  · have em := PS_n0 XJ.1 (fun y => z (by rw [y]; decide))
    exact h J L ⟨m', o', XJ, Or.inl em⟩
  · refine Or.inr ⟨t3, g3, by rw [em3, T2], by omega, by rw [T3]; exact gc0_l kk15, by rw [T3], by rw [z128, T3, (gc0_a kk15).1]; rfl, by rw [T3, (gc0_a kk15).1]; omega, by rw [T3]; exact (gc0_a kk15).2, by rw [T3, (gc0_a kk15).1]; omega, fun A ea => ⟨⟨A, ea⟩, ?_⟩⟩
    obtain ⟨a, RL, hA, ⟨Y1, Y2⟩, Y3⟩ := hdr A ea
    rw [ea, T3, (gc0_a kk15).1]
    show rH s n (1 - 1) 1 0 A A J24
    refine ⟨⟨rfl, fun _ _ _ _ _ _ => rfl, rfl, rfl⟩, ?_, ?_, fun q' q1 q2 => ?_, fun q' hq => absurd hq (Nat.not_lt_zero q'), fun p hp => absurd hp (Nat.not_lt_zero p)⟩
    · rw [hA.2.1 22 n (by decide) (by omega), Y3 22 n (by decide) (by decide) (by decide), if_neg (by omega), if_neg (by omega), if_pos ⟨rfl, rfl⟩]; decide
    · rw [hA.2.1 23 _ (by decide) (by omega), Y3 23 _ (by decide) (by decide) (by decide), if_neg (by omega), if_neg (by omega), if_neg (by omega), if_pos ⟨rfl, by omega⟩]; decide
    · rw [hA.2.1 23 _ (by decide) (by omega), Y3 23 _ (by decide) (by decide) (by decide), if_neg (by omega), if_neg (by omega), if_neg (by omega), if_neg (by omega)]
      exact ((RL.2.2.2.2.2.1.1 n n9).2 (by omega)).2 q' q2
end
end
section
/-! tells of the reference, exact: say and sure (wip/pe/mk98b.py) -/
theorem ms_tr {v : Int64} {a : sg} (h : ¬ lg_cmp v 1440 ≤ 0 ∨ v.toInt32 = 0 ∨ ¬ v.toInt32 ≤ 100) : ms 13 16 v a = (5, a) := by
  unfold ms
  by_cases c1 : lg_cmp v 1440 ≤ 0
  · rw [if_neg (fun z => z.2 c1)]
    show tk_trust v.toInt32 a = (5, a)
    unfold tk_trust
    by_cases c2 : v.toInt32 = 0
    · rw [if_pos c2]
    · rw [if_neg c2, if_neg]
      rcases h with h | h | h
      · exact absurd c1 h
      · exact absurd h c2
      · exact h
  · rw [if_pos ⟨rfl, c1⟩]
theorem ms_tr0 {v : Int64} {a : sg} (h1 : lg_cmp v 1440 ≤ 0) (h2 : ¬ v.toInt32 = 0) (h3 : v.toInt32 ≤ 100) : ms 13 16 v a = (0, tr_last v.toInt32 a) := by
  unfold ms
  rw [if_neg (fun z => z.2 h1)]
  show tk_trust v.toInt32 a = _
  unfold tk_trust
  rw [if_neg h2, if_pos h3]
theorem tr_last_s {v : Int32} {b : sg} {n : Nat} (h : (b.1 12 3).toInt = (n : Int) + 1) (hn : n < 10) : tr_last v b = u2 b 21 n v := by
  have c10 : (10 : Int32).toInt = 10 := by decide
  have e : (b.1 12 3 - 1).toInt = (n : Int) := by rw [Int32.toInt_sub, kl_1, h]; exact (en_bmod (by omega) (by omega) (Or.inl rfl)).trans (by omega)
  unfold tr_last
  rw [if_neg (fun y => by rw [kl_le, kl_0] at y; omega), if_neg (fun y => by rw [kl_lt, c10] at y; omega), tk_nat e]
section
variable {K : Nat → Int32} {P : Nat → Nat} {V W : Nat → Int64} {N : Nat → Int32} {c : Nat} {R0 : Option (Int32 × Nat)} {M0 : Option (Int32 × Nat) × sg}
variable {S : sm_C} {d : Nat} {Φ : sm_Z → Prop} {I : sm_I} {L : sm_L} {R : sm_R} {m : mo} {o : Option sg} {l s t : Nat} {g : gc}
theorem x_tellSure (hT : TS K P V W N c) (hls : ml_ls l s) (hm : en_mem ml_tb mlX (xLay, I, L, R)) (hI : ml_TI l s I) (hX : PX K P V W N c R0 M0 (some (t, 0, g)) o I L) (hG : rG s g I) (hR : ∀ a, o = some a → rL K V W s t a I L) (ek : K t = 8) (hr : (I 125 s).toInt < 10) (h : ∀ (J : sm_I) (L' : sm_L), TP K P V W N c R0 M0 s t J L' → Φ (none, (xLay, J, L', kM R))) : sm_wp sm_P S (d + 6) 200 0 [.ref 107] [] (xLay, I, L, kM R) (0, 0) Φ := by
  obtain ⟨hl1, hs1⟩ := ml_l1 hls
  obtain ⟨sn, sv⟩ := ml_sn hls hI
  have bc := ml_cs hs1 hm
  obtain ⟨⟨b0, b1⟩, hb⟩ := x_b117 hm
  have bs : (I 107 20).toInt ≤ ml_sum I s := hI.2.2.1
  unfold ml_sum at bs
  have tc : t ≤ c := hX.1.2.2.2.2.2.1
  obtain ⟨n, hn⟩ : ∃ n : Nat, (I 125 s).toInt = n := ⟨(I 125 s).toNatClampNeg, (kl_nat bc.2.2.2.1.1).symm⟩
  have n9 : n < 10 := by omega
  have ok : gc_ok 0 8 g = true := by
    unfold gc_ok
    rw [if_pos ⟨rfl, by decide⟩]
    refine decide_eq_true ?_
    have := hG.2.2.2.2.1
    rw [show gw 8 = 6 from by decide, show (sm_room.getD 6 0).toInt = 10 from by decide]
    omega
  have q1 : ((10 : Int32) * (I 107 19)).toInt = 10 * (s : Int) := ml_mu (by decide) hI.2.1 (by omega) (by omega)
  refine u_X12_tellSaying_0 ?_
  rw [sn]
  refine ⟨sv, fun n1 e1 => ?_⟩
  have h1 : n1.toInt = ((10 * s + n : Nat) : Int) := by rw [e1, ml_ad q1 rfl (by omega) (by omega)]; omega
  have n1n := tk_nat h1
  have v1 : vp_in n1 20 := kl_in (by omega) (by omega)
  refine x_is (i := 8) hT (by decide) rfl hX.1 (fun r5 hr05 hr5 => ⟨r5, I, L, R, rfl, v1, fun I6 e6 => ?_⟩)
  have r5v : r5 = 1 := by
    rcases hr05 with q | q
    · exact absurd q (hr5.mpr ⟨t, 0, g, rfl, ek⟩)
    · exact q
  rw [n1n, r5v, show vp_nar .boolean (1 : Int32) = 1 from by decide] at e6
  have o6 : ∀ p j, ¬ (p = 126 ∧ j = 10 * s + n) → I6 p j = I p j := fun p j hp => by rw [e6, en_up_ne _ _ _ _ hp]
  have X6 : PX K P V W N c R0 M0 (some (t, 0, g)) o I6 L := by rw [e6]; exact PX_up (by decide) (by omega) hX
  refine x_go0 (k := 8) hT ek (by decide) (by decide) (by decide +kernel) (by decide) (by decide) ok X6 (fun J1 m1 f1 X1 r1 => ⟨J1, L, R, rfl, ?_⟩)
  have m1s : ∀ t' s' g', m1 = some (t', s', g') → t' = t + 1 ∧ s' = 14 ∧ g' = gc_st 0 8 g := fun t' s' g' em => by
    rcases r1 with r1 | ⟨q1, q2, q3⟩
    · rw [r1] at em; cases em
    · rw [q3] at em
      obtain ⟨y1, y2, y3⟩ := mo_i em
      exact ⟨y1.symm, by rw [← y2]; decide +kernel, y3.symm⟩
  have c20 : J1 107 20 = I 107 20 := by rw [f1 107 20 (by omega), o6 107 20 (by omega)]
  refine x_named (s0 := 14) hT (by decide +kernel) (fun v a => by rw [ms_15]; rfl) X1 (fun t' s' g' em => (m1s t' s' g' em).2.1) (by rw [c20]; exact b0) (by rw [c20]; exact b1) (fun t' g' a1 em eo uc ku => ?_) (fun J2 m2 o2 f2 X2 r2 => ⟨_, J2, L, R, rfl, v1, fun J15 e15 => ?_⟩)
  · obtain ⟨a, ea3, ea4⟩ := om (Or.inr rfl) eo
    subst ea4
    exact x_hn2 hT c20 (hR a ea3) tc 8 uc ku (by omega)
  rw [n1n] at e15
  have o2f : ∀ p j, ¬ (p = 126 ∧ j = 10 * s + n) → ¬ (p = 107 ∧ (j = 11 ∨ j = 13 ∨ j = 14 ∨ j = 15 ∨ j = 16)) → J2 p j = I p j := fun p j h1 h2 => by rw [f2 p j h2, f1 p j h2, o6 p j h1]
  have k2 : J2 126 (10 * s + n) = 1 := by rw [f2 126 _ (by omega), f1 126 _ (by omega), e6, en_up_eq]
  have o15 : ∀ p j, ¬ ((p = 126 ∨ p = 127) ∧ j = 10 * s + n) → ¬ (p = 107 ∧ (j = 11 ∨ j = 13 ∨ j = 14 ∨ j = 15 ∨ j = 16)) → J15 p j = I p j := fun p j h1 h2 => by rw [e15, en_up_ne _ _ _ _ (by omega), o2f p j (by omega) h2]
  have k126 : J15 126 (10 * s + n) = 1 := by rw [e15, en_up_ne _ _ _ _ (by omega)]; exact k2
  have k127 : J15 127 (10 * s + n) = 1 := by rw [e15, en_up_eq]
  have X15 : PX K P V W N c R0 M0 m2 o2 J15 L := by rw [e15]; exact PX_up (by decide) (by omega) X2
  have m2s : ∀ t' s' g', m2 = some (t', s', g') → t' = t + 2 ∧ s' = 16 ∧ g' = gc_st 0 8 g ∧ t + 1 < c ∧ t + 1 < 500 ∧ K (t + 1) = 15 ∧ (J1 107 11).toInt = ((t + 1 : Nat) : Int) ∧ ∀ a2, o2 = some a2 → ∃ a, rL K V W s t a I L ∧ a2 = nm_add (V (t + 1)) (u2 a 2 7 8) := fun t' s' g' em => by
    rcases r2 with r2 | ⟨t2, g2, em2, q1, q2, q3, q4, q5⟩
    · rw [r2] at em; cases em
    · rw [q4] at em
      obtain ⟨y1, y2, y3⟩ := mo_i em
      obtain ⟨z1, z2, z3⟩ := m1s t2 14 g2 em2
      subst z1
      have hS := X1.1
      rw [em2] at hS
      refine ⟨by omega, by rw [← y2]; decide +kernel, by rw [← y3]; exact z3, q1, q2, q3, hS.2.2.2.2.1, fun a2 ea => ?_⟩
      rcases q5 with q5 | ⟨q5, -⟩
      · rw [q5] at ea; cases ea
      obtain ⟨a1, ea1, ea1'⟩ := om (Or.inr q5) ea
      obtain ⟨a, ea3, ea4⟩ := om (Or.inr rfl) ea1
      subst ea4
      exact ⟨a, hR a ea3, ea1'⟩
  -- the header's numbers
  have nm12 : ∀ a, rL K V W s t a I L → ((nm_add (V (t + 1)) (u2 a 2 7 8)).1 12 3).toInt = (n : Int) + 1 ∧ (nm_add (V (t + 1)) (u2 a 2 7 8)).1 21 n = 1 ∧ (nm_add (V (t + 1)) (u2 a 2 7 8)).1 2 7 = 8 := fun a RL => by
    have ef : a.1 12 3 = I 125 s := RL.2.1.2.2.2.1
    obtain ⟨Y1, Y2, Y3⟩ := nmY (v := V (t + 1)) (a := u2 a 2 7 8) (kk := 8) (n := n) (u2_eq _ _ _ _) (Or.inr rfl) (by rw [u2_ne _ _ _ _ (by omega), ef]; exact hn) n9
    refine ⟨?_, ?_, ?_⟩
    · rw [Y3 12 3 (by decide) (by decide) (by omega), if_pos ⟨rfl, rfl⟩, u2_ne _ _ _ _ (by omega), ef]
      have := ml_in1 (x := I 125 s) (by omega)
      omega
    · rw [Y3 21 n (by decide) (by decide) (by omega), if_neg (by omega), if_neg (by omega), if_neg (by omega), if_neg (by omega), u2_ne _ _ _ _ (by omega)]
      exact ((RL.2.2.2.2.2.1.1 n n9).2 (by omega)).1
    · rw [Y3 2 7 (by decide) (by decide) (by omega), if_neg (by omega), if_neg (by omega), if_neg (by omega), if_neg (by omega), u2_eq]
  -- the colon, and the choices
  have tail : ∀ (s0 : Int32) (ex : List Nat) (Jx : sm_I) (mx : mo) (ox : Option sg) (x7 : Int32), mkx s0 18 ex = true → (∀ (v : Int64) (a : sg), ms s0 (Int32.ofNat 18) v a = (0, a)) → fw s0 (Int32.ofNat 18) = 17 → PX K P V W N c R0 M0 mx ox Jx L → (∀ p j, ¬ ((p = 126 ∨ p = 127) ∧ j = 10 * s + n) → ¬ (p = 107 ∧ (j = 11 ∨ j = 13 ∨ j = 14 ∨ j = 15 ∨ j = 16)) → Jx p j = I p j) → Jx 126 (10 * s + n) = 1 → Jx 127 (10 * s + n) = x7 → (∀ t' s' g', mx = some (t', s', g') → t + 1 < t' ∧ s' = s0 ∧ g' = gc_st 0 8 g ∧ (∀ j, j ∈ ex → K t' = Int32.ofNat j → (j = 9 ∨ j = 13) ∧ g'.tell = 12) ∧ t + 1 < c ∧ t + 1 < 500 ∧ K (t + 1) = 15 ∧ (J1 107 11).toInt = ((t + 1 : Nat) : Int) ∧ ∀ A, ox = some A → ∃ a, rL K V W s t a I L ∧ hdA V 8 (t + 1) n x7 a A) → sm_wp sm_P S (d + 5) 165 0 [.ref 107, .int (5 : Int32)] [] (xLay, Jx, L, kM R) (0, 0) (fun z => ∃ (I20 : sm_I) (L21 : sm_L) (R22 : sm_R), z = (none, (xLay, I20, L21, (kM R22))) ∧ (vp_in n1 20) ∧ ∀ I24 : sm_I, I24 = (sm_up I20 128 n1.toNatClampNeg (0 : Int32)) → sm_wp sm_P S (d + 6) 200 10 [.ref 107, .int n1, .int (J1 107 11), .int (1 : Int32)] [] (xLay, I24, L21, (kM R22)) (0, 0) Φ) := by
    intro s0 ex Jx mx ox x7 hmk htr hfw hXx hfx h126 h127 hmx
    refine x_mustT (i := 18) (s0 := s0) ex hT rfl hmk htr hXx (fun t' s' g' em => ⟨(hmx t' s' g' em).2.1, (hmx t' s' g' em).2.2.2.1⟩) (fun J3 m3 f3 X3 r3 => ⟨J3, L, R, rfl, v1, fun J24 e24 => ?_⟩)
    rw [n1n] at e24
    refine x_sayT (Jh := J3) (m3 := m3) (o3 := ox) (kk := 8) (v6 := 1) (x7 := x7) hT hls hm hI hG tc hX.1.1 hn n9 (Or.inr ⟨rfl, rfl⟩) h1 (fun p j p1 p2 => by rw [f3 p j p2]; exact hfx p j p1 p2) (by rw [f3 126 _ (by omega)]; exact h126) (by rw [f3 127 _ (by omega)]; exact h127) X3 (fun t' s' g' em => ?_) e24 h
    rcases r3 with r3 | ⟨t3, g3, em3, w1, w2, w3, w4⟩
    · rw [r3] at em; cases em
    · rw [w4] at em
      obtain ⟨y1, y2, y3⟩ := mo_i em
      obtain ⟨z1, z2, z3, z4, z5⟩ := hmx t3 s0 g3 em3
      exact ⟨by omega, by rw [← y2]; exact hfw, by rw [← y3]; exact z3, z5⟩
  have hd1 : ∀ A, (∃ a, rL K V W s t a I L ∧ A = nm_add (V (t + 1)) (u2 a 2 7 8)) → ∃ a, rL K V W s t a I L ∧ hdA V 8 (t + 1) n 1 a A := fun A ⟨a, RL, eA⟩ => by
    obtain ⟨w1, w2, w3⟩ := nm12 a RL
    subst eA
    exact ⟨a, RL, rfl, fun _ _ _ _ => rfl, rfl, w3, w2⟩
  refine x_is (i := 7) hT (by decide) rfl X15.1 (fun r19 _ hr19 => ⟨r19, J15, L, R, rfl, fun r0 => ?_, fun r0 => ⟨v1, fun c126 => ?_, fun c126 => ?_⟩⟩)
  · refine tail 16 [] J15 m2 o2 1 (by decide +kernel) (fun v a => rfl) (by decide +kernel) X15 o15 k126 k127 (fun t' s' g' em => ?_)
    obtain ⟨y1, y2, y3, y4, y5, y6, y7, y8⟩ := m2s t' s' g' em
    refine ⟨by omega, y2, y3, fun j hj ekj => ?_, y4, y5, y6, y7, fun A ea => hd1 A (y8 A ea)⟩
    exact absurd hj List.not_mem_nil
  · rw [n1n, k126] at c126
    exact absurd c126 (by decide)
  · refine tail 16 [] J15 m2 o2 1 (by decide +kernel) (fun v a => rfl) (by decide +kernel) X15 o15 k126 k127 (fun t' s' g' em => ?_)
    obtain ⟨y1, y2, y3, y4, y5, y6, y7, y8⟩ := m2s t' s' g' em
    exact ⟨by omega, y2, y3, fun j hj => absurd hj List.not_mem_nil, y4, y5, y6, y7, fun A ea => hd1 A (y8 A ea)⟩
theorem x_tellSay (hT : TS K P V W N c) (hls : ml_ls l s) (hm : en_mem ml_tb mlX (xLay, I, L, R)) (hI : ml_TI l s I) (hX : PX K P V W N c R0 M0 (some (t, 0, g)) o I L) (hG : rG s g I) (hR : ∀ a, o = some a → rL K V W s t a I L) (ek : K t = 6) (hr : (I 125 s).toInt < 10) (h : ∀ (J : sm_I) (L' : sm_L), TP K P V W N c R0 M0 s t J L' → Φ (none, (xLay, J, L', kM R))) : sm_wp sm_P S (d + 6) 200 0 [.ref 107] [] (xLay, I, L, kM R) (0, 0) Φ := by
  obtain ⟨hl1, hs1⟩ := ml_l1 hls
  obtain ⟨sn, sv⟩ := ml_sn hls hI
  have bc := ml_cs hs1 hm
  obtain ⟨⟨b0, b1⟩, hb⟩ := x_b117 hm
  have bs : (I 107 20).toInt ≤ ml_sum I s := hI.2.2.1
  unfold ml_sum at bs
  have tc : t ≤ c := hX.1.2.2.2.2.2.1
  obtain ⟨n, hn⟩ : ∃ n : Nat, (I 125 s).toInt = n := ⟨(I 125 s).toNatClampNeg, (kl_nat bc.2.2.2.1.1).symm⟩
  have n9 : n < 10 := by omega
  have ok : gc_ok 0 6 g = true := by
    unfold gc_ok
    rw [if_pos ⟨rfl, by decide⟩]
    refine decide_eq_true ?_
    have := hG.2.2.2.2.1
    rw [show gw 6 = 6 from by decide, show (sm_room.getD 6 0).toInt = 10 from by decide]
    omega
  have q1 : ((10 : Int32) * (I 107 19)).toInt = 10 * (s : Int) := ml_mu (by decide) hI.2.1 (by omega) (by omega)
  refine u_X12_tellSaying_0 ?_
  rw [sn]
  refine ⟨sv, fun n1 e1 => ?_⟩
  have h1 : n1.toInt = ((10 * s + n : Nat) : Int) := by rw [e1, ml_ad q1 rfl (by omega) (by omega)]; omega
  have n1n := tk_nat h1
  have v1 : vp_in n1 20 := kl_in (by omega) (by omega)
  refine x_is (i := 8) hT (by decide) rfl hX.1 (fun r5 hr05 hr5 => ⟨r5, I, L, R, rfl, v1, fun I6 e6 => ?_⟩)
  have r5v : r5 = 0 := by
    rcases hr05 with q | q
    · exact q
    · exfalso
      obtain ⟨t', s', g', em, ek8⟩ := hr5.mp (by rw [q]; decide)
      have e := (mo_i em).1
      subst e
      rw [ek] at ek8
      exact absurd ek8 (by decide)
  rw [n1n, r5v, show vp_nar .boolean (0 : Int32) = 0 from by decide] at e6
  have o6 : ∀ p j, ¬ (p = 126 ∧ j = 10 * s + n) → I6 p j = I p j := fun p j hp => by rw [e6, en_up_ne _ _ _ _ hp]
  have X6 : PX K P V W N c R0 M0 (some (t, 0, g)) o I6 L := by rw [e6]; exact PX_up (by decide) (by omega) hX
  refine x_go0 (k := 6) hT ek (by decide) (by decide) (by decide +kernel) (by decide) (by decide) ok X6 (fun J1 m1 f1 X1 r1 => ⟨J1, L, R, rfl, ?_⟩)
  have m1s : ∀ t' s' g', m1 = some (t', s', g') → t' = t + 1 ∧ s' = 11 ∧ g' = gc_st 0 6 g := fun t' s' g' em => by
    rcases r1 with r1 | ⟨q1, q2, q3⟩
    · rw [r1] at em; cases em
    · rw [q3] at em
      obtain ⟨y1, y2, y3⟩ := mo_i em
      exact ⟨y1.symm, by rw [← y2]; decide +kernel, y3.symm⟩
  have c20 : J1 107 20 = I 107 20 := by rw [f1 107 20 (by omega), o6 107 20 (by omega)]
  refine x_named (s0 := 11) hT (by decide +kernel) (fun v a => by rw [ms_15]; rfl) X1 (fun t' s' g' em => (m1s t' s' g' em).2.1) (by rw [c20]; exact b0) (by rw [c20]; exact b1) (fun t' g' a1 em eo uc ku => ?_) (fun J2 m2 o2 f2 X2 r2 => ⟨_, J2, L, R, rfl, v1, fun J15 e15 => ?_⟩)
  · obtain ⟨a, ea3, ea4⟩ := om (Or.inr rfl) eo
    subst ea4
    exact x_hn2 hT c20 (hR a ea3) tc 6 uc ku (by omega)
  rw [n1n] at e15
  have o2f : ∀ p j, ¬ (p = 126 ∧ j = 10 * s + n) → ¬ (p = 107 ∧ (j = 11 ∨ j = 13 ∨ j = 14 ∨ j = 15 ∨ j = 16)) → J2 p j = I p j := fun p j h1 h2 => by rw [f2 p j h2, f1 p j h2, o6 p j h1]
  have k2 : J2 126 (10 * s + n) = 0 := by rw [f2 126 _ (by omega), f1 126 _ (by omega), e6, en_up_eq]
  have o15 : ∀ p j, ¬ ((p = 126 ∨ p = 127) ∧ j = 10 * s + n) → ¬ (p = 107 ∧ (j = 11 ∨ j = 13 ∨ j = 14 ∨ j = 15 ∨ j = 16)) → J15 p j = I p j := fun p j h1 h2 => by rw [e15, en_up_ne _ _ _ _ (by omega), o2f p j (by omega) h2]
  have k126 : J15 126 (10 * s + n) = 0 := by rw [e15, en_up_ne _ _ _ _ (by omega)]; exact k2
  have k127 : J15 127 (10 * s + n) = 1 := by rw [e15, en_up_eq]
  have X15 : PX K P V W N c R0 M0 m2 o2 J15 L := by rw [e15]; exact PX_up (by decide) (by omega) X2
  have m2s : ∀ t' s' g', m2 = some (t', s', g') → t' = t + 2 ∧ s' = 12 ∧ g' = gc_st 0 6 g ∧ t + 1 < c ∧ t + 1 < 500 ∧ K (t + 1) = 15 ∧ (J1 107 11).toInt = ((t + 1 : Nat) : Int) ∧ ∀ a2, o2 = some a2 → ∃ a, rL K V W s t a I L ∧ a2 = nm_add (V (t + 1)) (u2 a 2 7 6) := fun t' s' g' em => by
    rcases r2 with r2 | ⟨t2, g2, em2, q1, q2, q3, q4, q5⟩
    · rw [r2] at em; cases em
    · rw [q4] at em
      obtain ⟨y1, y2, y3⟩ := mo_i em
      obtain ⟨z1, z2, z3⟩ := m1s t2 11 g2 em2
      subst z1
      have hS := X1.1
      rw [em2] at hS
      refine ⟨by omega, by rw [← y2]; decide +kernel, by rw [← y3]; exact z3, q1, q2, q3, hS.2.2.2.2.1, fun a2 ea => ?_⟩
      rcases q5 with q5 | ⟨q5, -⟩
      · rw [q5] at ea; cases ea
      obtain ⟨a1, ea1, ea1'⟩ := om (Or.inr q5) ea
      obtain ⟨a, ea3, ea4⟩ := om (Or.inr rfl) ea1
      subst ea4
      exact ⟨a, hR a ea3, ea1'⟩
  -- the header's numbers
  have nm12 : ∀ a, rL K V W s t a I L → ((nm_add (V (t + 1)) (u2 a 2 7 6)).1 12 3).toInt = (n : Int) + 1 ∧ (nm_add (V (t + 1)) (u2 a 2 7 6)).1 21 n = 1 ∧ (nm_add (V (t + 1)) (u2 a 2 7 6)).1 2 7 = 6 := fun a RL => by
    have ef : a.1 12 3 = I 125 s := RL.2.1.2.2.2.1
    obtain ⟨Y1, Y2, Y3⟩ := nmY (v := V (t + 1)) (a := u2 a 2 7 6) (kk := 6) (n := n) (u2_eq _ _ _ _) (Or.inl rfl) (by rw [u2_ne _ _ _ _ (by omega), ef]; exact hn) n9
    refine ⟨?_, ?_, ?_⟩
    · rw [Y3 12 3 (by decide) (by decide) (by omega), if_pos ⟨rfl, rfl⟩, u2_ne _ _ _ _ (by omega), ef]
      have := ml_in1 (x := I 125 s) (by omega)
      omega
    · rw [Y3 21 n (by decide) (by decide) (by omega), if_neg (by omega), if_neg (by omega), if_neg (by omega), if_neg (by omega), u2_ne _ _ _ _ (by omega)]
      exact ((RL.2.2.2.2.2.1.1 n n9).2 (by omega)).1
    · rw [Y3 2 7 (by decide) (by decide) (by omega), if_neg (by omega), if_neg (by omega), if_neg (by omega), if_neg (by omega), u2_eq]
  -- the colon, and the choices
  have tail : ∀ (s0 : Int32) (ex : List Nat) (Jx : sm_I) (mx : mo) (ox : Option sg) (x7 : Int32), mkx s0 18 ex = true → (∀ (v : Int64) (a : sg), ms s0 (Int32.ofNat 18) v a = (0, a)) → fw s0 (Int32.ofNat 18) = 17 → PX K P V W N c R0 M0 mx ox Jx L → (∀ p j, ¬ ((p = 126 ∨ p = 127) ∧ j = 10 * s + n) → ¬ (p = 107 ∧ (j = 11 ∨ j = 13 ∨ j = 14 ∨ j = 15 ∨ j = 16)) → Jx p j = I p j) → Jx 126 (10 * s + n) = 0 → Jx 127 (10 * s + n) = x7 → (∀ t' s' g', mx = some (t', s', g') → t + 1 < t' ∧ s' = s0 ∧ g' = gc_st 0 6 g ∧ (∀ j, j ∈ ex → K t' = Int32.ofNat j → (j = 9 ∨ j = 13) ∧ g'.tell = 12) ∧ t + 1 < c ∧ t + 1 < 500 ∧ K (t + 1) = 15 ∧ (J1 107 11).toInt = ((t + 1 : Nat) : Int) ∧ ∀ A, ox = some A → ∃ a, rL K V W s t a I L ∧ hdA V 6 (t + 1) n x7 a A) → sm_wp sm_P S (d + 5) 165 0 [.ref 107, .int (5 : Int32)] [] (xLay, Jx, L, kM R) (0, 0) (fun z => ∃ (I20 : sm_I) (L21 : sm_L) (R22 : sm_R), z = (none, (xLay, I20, L21, (kM R22))) ∧ (vp_in n1 20) ∧ ∀ I24 : sm_I, I24 = (sm_up I20 128 n1.toNatClampNeg (0 : Int32)) → sm_wp sm_P S (d + 6) 200 10 [.ref 107, .int n1, .int (J1 107 11), .int (1 : Int32)] [] (xLay, I24, L21, (kM R22)) (0, 0) Φ) := by
    intro s0 ex Jx mx ox x7 hmk htr hfw hXx hfx h126 h127 hmx
    refine x_mustT (i := 18) (s0 := s0) ex hT rfl hmk htr hXx (fun t' s' g' em => ⟨(hmx t' s' g' em).2.1, (hmx t' s' g' em).2.2.2.1⟩) (fun J3 m3 f3 X3 r3 => ⟨J3, L, R, rfl, v1, fun J24 e24 => ?_⟩)
    rw [n1n] at e24
    refine x_sayT (Jh := J3) (m3 := m3) (o3 := ox) (kk := 6) (v6 := 0) (x7 := x7) hT hls hm hI hG tc hX.1.1 hn n9 (Or.inl ⟨rfl, rfl⟩) h1 (fun p j p1 p2 => by rw [f3 p j p2]; exact hfx p j p1 p2) (by rw [f3 126 _ (by omega)]; exact h126) (by rw [f3 127 _ (by omega)]; exact h127) X3 (fun t' s' g' em => ?_) e24 h
    rcases r3 with r3 | ⟨t3, g3, em3, w1, w2, w3, w4⟩
    · rw [r3] at em; cases em
    · rw [w4] at em
      obtain ⟨y1, y2, y3⟩ := mo_i em
      obtain ⟨z1, z2, z3, z4, z5⟩ := hmx t3 s0 g3 em3
      exact ⟨by omega, by rw [← y2]; exact hfw, by rw [← y3]; exact z3, z5⟩
  have hd1 : ∀ A, (∃ a, rL K V W s t a I L ∧ A = nm_add (V (t + 1)) (u2 a 2 7 6)) → ∃ a, rL K V W s t a I L ∧ hdA V 6 (t + 1) n 1 a A := fun A ⟨a, RL, eA⟩ => by
    obtain ⟨w1, w2, w3⟩ := nm12 a RL
    subst eA
    exact ⟨a, RL, rfl, fun _ _ _ _ => rfl, rfl, w3, w2⟩
  refine x_is (i := 7) hT (by decide) rfl X15.1 (fun r19 _ hr19 => ⟨r19, J15, L, R, rfl, fun r0 => ?_, fun r0 => ⟨v1, fun c126 => ?_, fun c126 => ?_⟩⟩)
  · refine tail 12 [7] J15 m2 o2 1 (by decide +kernel) (fun v a => rfl) (by decide +kernel) X15 o15 k126 k127 (fun t' s' g' em => ?_)
    obtain ⟨y1, y2, y3, y4, y5, y6, y7, y8⟩ := m2s t' s' g' em
    refine ⟨by omega, y2, y3, fun j hj ekj => ?_, y4, y5, y6, y7, fun A ea => hd1 A (y8 A ea)⟩
    rw [List.mem_singleton.mp hj] at ekj
    exact absurd r0 (hr19.mpr ⟨t', s', g', em, ekj⟩)
  · obtain ⟨tk, sk, gk, emk, ekk⟩ := hr19.mp r0
    refine x_goT (i := 7) (s0 := 12) [18] hT (by decide +kernel) (fun v a => rfl) X15 (fun t' s' g' em => ⟨(m2s t' s' g' em).2.1, ?_⟩) (fun J3 m3 f3 X3 r3 => ⟨J3, L, R, rfl, ?_⟩)
    · rw [emk] at em
      rw [← (mo_i em).1]; exact ekk
    have o3f : ∀ p j, ¬ ((p = 126 ∨ p = 127) ∧ j = 10 * s + n) → ¬ (p = 107 ∧ (j = 11 ∨ j = 13 ∨ j = 14 ∨ j = 15 ∨ j = 16)) → J3 p j = I p j := fun p j h1 h2 => by rw [f3 p j h2]; exact o15 p j h1 h2
    have k3 : J3 126 (10 * s + n) = 0 := by rw [f3 126 _ (by omega)]; exact k126
    have m3s : ∀ t' s' g', m3 = some (t', s', g') → t' = t + 3 ∧ s' = 13 ∧ g' = gc_st 0 6 g ∧ t + 1 < c ∧ t + 1 < 500 ∧ K (t + 1) = 15 ∧ (J1 107 11).toInt = ((t + 1 : Nat) : Int) ∧ ∀ a2, o2 = some a2 → ∃ a, rL K V W s t a I L ∧ a2 = nm_add (V (t + 1)) (u2 a 2 7 6) := fun t' s' g' em => by
      rcases r3 with r3 | ⟨t3, g3, em3, w1, w2, w3, w4⟩
      · rw [r3] at em; cases em
      · rw [w4] at em
        obtain ⟨y1, y2, y3⟩ := mo_i em
        obtain ⟨z1, z2, z3, z4⟩ := m2s t3 12 g3 em3
        exact ⟨by omega, by rw [← y2]; decide +kernel, by rw [← y3]; exact z3, z4⟩
    have bt := X3.1.2.1
    have bt2 := X3.1.2.2.1
    refine x_is (i := 16) hT (by decide) rfl X3.1 (fun r39 _ hr39 => ⟨r39, J3, L, R, rfl, fun r30 => ⟨v1, fun J40 e40 => ?_⟩, fun r30 => ⟨kl_in bt (by omega), fun n83 e83 => ⟨v1, fun J84 e84 => ?_⟩⟩⟩)
    · -- no number
      rw [n1n] at e40
      have X40 : PX K P V W N c R0 M0 m3 o2 J40 L := by rw [e40]; exact PX_up (by decide) (by omega) X3
      obtain ⟨e, hE, ee⟩ := PX_e X40
      refine x_must (i := 16) [] hT rfl X40.1 hE (fun t' s' g' em => ⟨by rw [(m3s t' s' g' em).2.1]; decide +kernel, fun j hj => absurd hj List.not_mem_nil⟩) (fun J41 m4 f4 p4 q4 r4 => ⟨J41, L, R, rfl, ?_⟩)
      have em4 : m4 = none := by
        rcases r4 with r4 | ⟨t4, s4, g4, em4, -, -, ek4, -⟩
        · exact r4
        · exact absurd r30 (hr39.mpr ⟨t4, s4, g4, em4, ek4⟩)
      subst em4
      have nz := PS_no p4
      refine ⟨fun z => absurd z nz, fun _ => ?_⟩
      exact tail 16 [] J41 none none (J41 127 (10 * s + n)) (by decide +kernel) (fun v a => rfl) (by decide +kernel) (PX_F p4) (fun p j h1 h2 => by rw [f4 p j h2, e40, en_up_ne _ _ _ _ (by omega)]; exact o3f p j h1 h2) (by rw [f4 126 _ (by omega), e40, en_up_ne _ _ _ _ (by omega)]; exact k3) rfl (fun t' s' g' em => by cases em)
    · obtain ⟨tq, sq, gq, emq, ekq⟩ := hr39.mp r30
      have ekq : K tq = 16 := ekq
      obtain ⟨T1, T2, T3, u1, u5, u3, h8, y8⟩ := m3s tq sq gq emq
      rw [n1n] at e84
      have hS3 := X3.1
      rw [emq] at hS3
      have h11 : (J3 107 11).toInt = tq := hS3.2.2.2.2.1
      have tqc : tq < c := by
        have q := hS3.2.2.2.2.2.1
        rcases Nat.lt_or_ge tq c with y | y
        · exact y
        · exfalso
          have e : tq = c := by omega
          have c5 : c ≤ 500 := by have := hS3.2.2.1; omega
          have k21 := hT.2.2.1 c5
          rw [← e, ekq] at k21
          exact absurd k21 (by decide)
      have tq5 : tq ≤ 500 := by have := hS3.2.2.1; omega
      have eN : n83 = N tq := by rw [e83, tk_nat h11]; exact (X3.1.1.2 tq tqc tq5).1
      obtain ⟨vv, v1', v2', v3'⟩ := hT.2.2.2.2.2.1 tq tqc ekq
      have e32 : (V tq).toInt32 = N tq := by
        refine en_ofI ?_
        rw [Int64.toInt_toInt32, v2', v3']
        exact en_bmod (by omega) (by omega) (Or.inl rfl)
      have c1440' : (1440 : Int64).toInt = 1440 := by decide
      have c100 : (100 : Int32).toInt = 100 := by decide
      have X84 : PX K P V W N c R0 M0 m3 o2 J84 L := by rw [e84]; exact PX_up (by decide) (by omega) X3
      obtain ⟨e, hE, ee⟩ := PX_e X84
      have n21 := hT.2.2.2.1 tq tqc
      refine x_must (i := 16) [] hT rfl X84.1 hE (fun t' s' g' em => ⟨by rw [(m3s t' s' g' em).2.1]; decide +kernel, fun j hj => absurd hj List.not_mem_nil⟩) (fun J85 m4 f4 p4 q4 r4 => ⟨J85, L, R, rfl, ?_⟩)
      have o85 : ∀ p j, ¬ ((p = 126 ∨ p = 127) ∧ j = 10 * s + n) → ¬ (p = 107 ∧ (j = 11 ∨ j = 13 ∨ j = 14 ∨ j = 15 ∨ j = 16)) → J85 p j = I p j := fun p j h1 h2 => by rw [f4 p j h2, e84, en_up_ne _ _ _ _ (by omega)]; exact o3f p j h1 h2
      have k85 : J85 126 (10 * s + n) = 0 := by rw [f4 126 _ (by omega), e84, en_up_ne _ _ _ _ (by omega)]; exact k3
      have k87 : J85 127 (10 * s + n) = N tq := by rw [f4 127 _ (by omega), e84, en_up_eq, eN]
      rw [n1n, k87]
      have st4 : ∀ t' s' g', m4 = some (t', s', g') → t' = tq + 1 ∧ s' = 16 ∧ g' = gc_st 0 6 g := fun t' s' g' em => by
        rcases r4 with r4 | ⟨t4, s4, g4, em4, w1, w2, w3, w4⟩
        · rw [r4] at em; cases em
        · rw [w4] at em
          obtain ⟨y1, y2, y3⟩ := mo_i em
          rw [emq] at em4
          obtain ⟨x1, x2, x3⟩ := mo_i em4
          exact ⟨by omega, by rw [← y2, ← x2, T2]; decide +kernel, by rw [← y3, ← x3]; exact T3⟩
      -- what is wrong with that number
      have bad : J85 107 13 = 0 → (N tq = 0 ∨ ¬ N tq ≤ 100) → sm_wp sm_P S (d + 5) 213 0 [.ref 107, .int (5 : Int32), .int (J3 107 11)] [] (xLay, J85, L, kM R) (0, 0) (fun z => ∃ (I95 : sm_I) (L96 : sm_L) (R97 : sm_R), z = (none, (xLay, I95, L96, (kM R97))) ∧ sm_wp sm_P S (d + 5) 165 0 [.ref 107, .int (5 : Int32)] [] (xLay, I95, L96, kM R97) (0, 0) (fun z => ∃ (I20 : sm_I) (L21 : sm_L) (R22 : sm_R), z = (none, (xLay, I20, L21, (kM R22))) ∧ (vp_in n1 20) ∧ ∀ I24 : sm_I, I24 = (sm_up I20 128 (10 * s + n) (0 : Int32)) → sm_wp sm_P S (d + 6) 200 10 [.ref 107, .int n1, .int (J1 107 11), .int (1 : Int32)] [] (xLay, I24, L21, (kM R22)) (0, 0) Φ)) := by
        intro z hbad
        refine x_wrong (M0 := M0) (t := tq) hT (by decide) h11 (by omega) (by omega) p4 (fun _ => ?_) (fun H fH _ pH wH => ⟨H, L, R, rfl, ?_⟩)
        · rw [ee tq sq gq emq] at q4
          cases eo : o2 with
          | none =>
            rw [eo] at q4
            exact Or.inl (PE_W q4 (Nat.le_refl tq) z)
          | some a =>
            rw [eo] at q4
            obtain ⟨pe1, pe2⟩ := q4 z
            refine Or.inr ⟨Or.inl pe1, ME_f (s := sq) (a := a) (a' := a) (by omega) n21 ?_ (by decide) pe2⟩
            rw [ekq, T2]
            exact ms_tr (Or.inr (by rw [e32]; exact hbad))
        · have := tail 16 [] H m4 none (N tq) (by decide +kernel) (fun v a => rfl) (by decide +kernel) ⟨pH, by
            cases em : m4 with
            | none => trivial
            | some q =>
              obtain ⟨t', s', g'⟩ := q
              obtain ⟨y1, -⟩ := st4 t' s' g' em
              rw [y1]
              exact PW_e wH⟩ (fun p j h1 h2 => by rw [fH p j h2]; exact o85 p j h1 h2) (by rw [fH 126 _ (by omega)]; exact k85) (by rw [fH 127 _ (by omega)]; exact k87) (fun t' s' g' em => by
              obtain ⟨y1, y2, y3⟩ := st4 t' s' g' em
              exact ⟨by omega, y2, y3, fun j hj => absurd hj List.not_mem_nil, u1, u5, u3, h8, fun A ea => by cases ea⟩)
          rw [n1n] at this
          exact this
      refine ⟨fun z => ⟨v1, fun l1 => bad z (Or.inl ?_), fun l1 => ⟨v1, fun l2 => ?_, fun l2 => bad z (Or.inr l2)⟩⟩, fun z => ?_⟩
      · rw [kl_lt, kl_1] at l1
        exact en_ofI (by rw [kl_0]; omega)
      · have l1 := kl_nlt l1
        rw [kl_1] at l1
        have l2' := kl_le.mp l2
        have := tail 16 [] J85 m4 (o2.map (tr_last (N tq))) (N tq) (by decide +kernel) (fun v a => rfl) (by decide +kernel) ⟨p4, by
            cases em : m4 with
            | none => trivial
            | some q =>
              obtain ⟨t', s', g'⟩ := q
              obtain ⟨y1, y2, -⟩ := st4 t' s' g' em
              rw [y1]
              rw [ee tq sq gq emq] at q4
              cases eo : o2 with
              | none =>
                rw [eo] at q4
                exact PE_w q4 (Nat.le_succ tq)
              | some a =>
                rw [eo] at q4
                have st := PE_st (a' := tr_last (N tq) a) (by omega) n21 (by rw [ekq, T2, ms_tr0 (lg_le.mpr (by omega)) (by rw [e32]; exact fun y => by rw [y, kl_0] at l1; omega) (by rw [e32]; exact l2), e32]) q4
                rw [ekq, T2] at st
                show PEm K P V M0 (tq + 1, some (s', tr_last (N tq) a)) J85
                rw [y2]
                exact st⟩ o85 k85 k87 (fun t' s' g' em => by
              obtain ⟨y1, y2, y3⟩ := st4 t' s' g' em
              refine ⟨by omega, y2, y3, fun j hj => absurd hj List.not_mem_nil, u1, u5, u3, h8, fun A ea => ?_⟩
              obtain ⟨a1, ea1, ea2⟩ := om (Or.inr rfl) ea
              obtain ⟨a, RL, ea3⟩ := y8 a1 ea1
              obtain ⟨w1, w2, w3⟩ := nm12 a RL
              rw [ea3] at ea2
              rw [tr_last_s w1 n9] at ea2
              subst ea2
              exact ⟨a, RL, rfl, fun p j p1 p2 => u2_ne _ _ _ _ p2, u2_ne _ _ _ _ (by omega), by rw [u2_ne _ _ _ _ (by omega)]; exact w3, u2_eq _ _ _ _⟩)
        rw [n1n] at this
        exact this
      · have em := PS_n0 p4 z
        subst em
        have := tail 16 [] J85 none none (N tq) (by decide +kernel) (fun v a => rfl) (by decide +kernel) (PX_F p4) o85 k85 k87 (fun t' s' g' em => by cases em)
        rw [n1n] at this
        exact this
  · exfalso
    rw [n1n, k126] at c126
    exact c126 rfl
end
end
section
/-! tells of the reference, exact: open -/
theorem oy_iff {s : sm_I} {x : Int32} : ∀ k i, oy s x k i = true ↔ ∃ j, i ≤ j ∧ j < i + k ∧ s 18 j = x := by
  intro k
  induction k with
  | zero =>
    intro i
    exact ⟨fun q => absurd (show false = true from q) (by decide), fun ⟨j, j1, j2, _⟩ => by omega⟩
  | succ k ih =>
    intro i
    show (if s 18 i = x then true else oy s x k (i + 1)) = true ↔ _
    by_cases c1 : s 18 i = x
    · rw [if_pos c1]
      exact ⟨fun _ => ⟨i, Nat.le_refl _, by omega, c1⟩, fun _ => rfl⟩
    · rw [if_neg c1, ih (i + 1)]
      refine ⟨fun ⟨j, j1, j2, j3⟩ => ⟨j, by omega, by omega, j3⟩, fun ⟨j, j1, j2, j3⟩ => ⟨j, ?_, by omega, j3⟩⟩
      rcases Nat.lt_or_ge i j with q | q
      · omega
      · have : j = i := by omega
        subst this
        exact absurd j3 c1
theorem is_op_s {x : Int32} {a : sg} {k : Nat} (hx : x.toInt = k) (hk : k < 10) : is_op x a = decide (¬ a.1 18 k = -1) := by
  have c10 : (10 : Int32).toInt = 10 := by decide
  unfold is_op
  rw [if_neg (fun q => by rw [kl_lt, kl_0] at q; omega), if_neg (fun q => by rw [kl_le, c10] at q; omega), tk_nat hx]
/-- the reference's rows of what is open, and the class's -/
theorem rO_18 {s i : Nat} {a : sg} {I : sm_I} (h : rO s a I) (hi : i < 10) : I 135 (10 * s + i) = -1 ↔ a.1 18 i = -1 := by
  rcases h.1 i hi with q | ⟨k, q⟩
  · exact ⟨fun _ => q.2, fun _ => q.1⟩
  · obtain ⟨q1, q2, q3, q4, q5, q6, q7, -⟩ := q
    exact ⟨fun y => by rw [y, show (-1 : Int32).toInt = -1 from by decide] at q3; omega, fun y => absurd y q7⟩
section
variable {K : Nat → Int32} {P : Nat → Nat} {V W : Nat → Int64} {N : Nat → Int32} {c : Nat} {R0 : Option (Int32 × Nat)} {M0 : Option (Int32 × Nat) × sg}
variable {S : sm_C} {d : Nat} {Φ : sm_Z → Prop} {I : sm_I} {L : sm_L} {R : sm_R} {m : mo} {e : eo} {o : Option sg} {l s t : Nat} {g : gc}
theorem PWx_mo {x y : Int32} {u : Nat} (h : PWx P M0 x u I) (hxy : x.toInt ≤ y.toInt) : PWx P M0 y u I := fun z => by
  obtain ⟨h1, j, h2, h3, h4⟩ := h z
  refine ⟨h1, j, h2, h3, ?_⟩
  rcases h4 with h4 | ⟨h4, h5⟩
  · exact Or.inl h4
  · refine Or.inr ⟨h4, fun q => h5 ?_⟩
    rw [kl_lt] at q ⊢
    omega
/-- a name that must be known, the meaning left to the caller -/
theorem x_knownG {so s0 : Int32} (hT : TS K P V W N c) (hm : mkx s0 15 [] = true) (hS : PSm K P W N c R0 m I L) (hE : PEm K P V M0 e I) (hs : ∀ t s g, m = some (t, s, g) → s = s0) (b0 : 0 ≤ (I 107 20).toInt) (b1 : (I 107 20).toInt ≤ 50) (hb : ∀ i, i < cntm I → 0 ≤ (I 117 i).toInt) (hF : ∀ J : sm_I, xfr I J → PSm K P W N c R0 none J L → Φ (some (.int 0), (xLay, J, L, kM R))) (hN : ∀ (J : sm_I) (m' : mo) (t : Nat) (g : gc), xfr I J → PSm K P W N c R0 m' J L → PEm K P V M0 e J → J 107 13 = 0 → m = some (t, s0, g) → t < c → t < 500 → K t = 15 → (I 107 11).toInt = t → m' = some (t + 1, fw s0 15, g) → ((fdm I L (W t) so = -1 → sm_wp sm_P S (d + 2) 213 0 [.ref 107, .int (4 : Int32), .int (I 107 11)] [] (xLay, J, L, (kM R)) (0, 0) (fun z => ∃ (I1 : sm_I) (L2 : sm_L) (R3 : sm_R), z = (none, (xLay, I1, L2, (kM R3))) ∧ Φ (some (.int (fdm I L (W t) so)), (xLay, I1, L2, (kM R3))))) ∧ (¬ fdm I L (W t) so = -1 → Φ (some (.int (fdm I L (W t) so)), (xLay, J, L, kM R))))) : sm_wp sm_P S (d + 3) 154 0 [.ref 107, .int so] [] (xLay, I, L, kM R) (0, 0) Φ := by
  refine u_X12_known_0 (x_must (i := 15) [] hT rfl hS hE (fun t s g em => ⟨by rw [hs t s g em]; exact hm, fun j hj => absurd hj List.not_mem_nil⟩) (fun J m' f p q rel => ⟨J, L, R, rfl, fun z => ?_, fun z => ?_⟩))
  · have z := PS_le0 p z
    rcases rel with rel | ⟨t, s, g, em, c1, c2, ek, b3⟩
    · subst rel; exact absurd z (PS_no p)
    · have es := hs t s g em
      subst es
      have ek : K t = 15 := ek
      have h11 : (I 107 11).toInt = t := by
        have hS' := hS
        rw [em] at hS'
        exact hS'.2.2.2.2.1
      have eW : L 113 t = W t := (hS.1.2 t c1 (by omega)).2
      have ef : fdm J L (W t) so = fdm I L (W t) so := fdm_cg f
      have e20 : J 107 20 = I 107 20 := f 107 20 (by omega)
      have ec : cntm J = cntm I := by unfold cntm; rw [e20]
      exact x_known3 (r := fdm I L (W t) so) (t := t) (by rw [e20]; exact b0) (by rw [e20]; exact b1) h11 (by omega) (fun i hi => by rw [f 117 i (by omega)]; exact hb i (by rw [← ec]; exact hi)) (hN J m' t g f p q z em c1 c2 ek h11 b3) (cntm J) 0 (-1) 0 (by decide) (by omega) (by rw [if_pos rfl, eW]; exact ef)
  · have nz : ¬ J 107 13 = 0 := fun y => z (by rw [y]; decide)
    have := PS_n0 p nz
    subst this
    exact hF J f p
/-- the rest of an open, from its row on -/
theorem x_openE {J : sm_I} {o3 : Option sg} {x2 x4 x5 : Int32} (hT : TS K P V W N c) (hls : ml_ls l s) (hm : en_mem ml_tb mlX (xLay, I, L, R)) (hI : ml_TI l s I) (hG : rG s g I) (hr : (I 134 s).toInt < 4) (f1 : xfr I J) (X1 : PX K P V W N c R0 M0 m o3 J L) (r1 : ∀ t' s' g', m = some (t', s', g') → t < t' ∧ s' = 30 ∧ g' = gc_st 0 10 g) (h5 : x5.toInt = ((240 + 4 * s + (I 134 s).toNatClampNeg : Nat) : Int)) (b2 : m ≠ none → -1 ≤ x2.toInt ∧ x2.toInt ≤ 9) (ho : m ≠ none → ∀ a3, o3 = some a3 → ¬ x2 = -1 ∧ ¬ x4 = -1 ∧ x2.toInt < (I 122 s).toInt ∧ ∃ a, rL K V W s t a I L ∧ a.1 18 x2.toNatClampNeg = -1 ∧ a3 = u2 (u2 (u2 a 2 7 10) 2 8 x2) 2 9 x4) (h : ∀ (J : sm_I) (L' : sm_L), TP K P V W N c R0 M0 s t J L' → Φ (none, (xLay, J, L', kM R))) : (vp_in x5 260) ∧ ∀ I1 : sm_I, I1 = (sm_up J 130 x5.toNatClampNeg x2) → (vp_in x5 260) ∧ ∀ I2 : sm_I, I2 = (sm_up I1 131 x5.toNatClampNeg x4) → sm_wp sm_P S (d + 3) 169 0 [.ref 107, .int (0 : Int32)] [] (xLay, I2, L, (kM R)) (0, 0) (fun z => ∃ (r6 : Int32) (I3 : sm_I) (L4 : sm_L) (R5 : sm_R), z = (some (.int r6), (xLay, I3, L4, (kM R5))) ∧ (vp_in x5 260) ∧ ∀ I7 : sm_I, I7 = (sm_up I3 132 x5.toNatClampNeg r6) → sm_wp sm_P S (d + 3) 169 0 [.ref 107, .int (0 : Int32)] [] (xLay, I7, L4, (kM R5)) (0, 0) (fun z => ∃ (r11 : Int32) (I8 : sm_I) (L9 : sm_L) (R10 : sm_R), z = (some (.int r11), (xLay, I8, L9, (kM R10))) ∧ (vp_in x5 260) ∧ ∀ I12 : sm_I, I12 = (sm_up I8 133 x5.toNatClampNeg r11) → sm_wp sm_P S (d + 3) 165 0 [.ref 107, .int (4 : Int32)] [] (xLay, I12, L9, (kM R10)) (0, 0) (fun z => ∃ (I13 : sm_I) (L14 : sm_L) (R15 : sm_R), z = (none, (xLay, I13, L14, (kM R15))) ∧ (((I13 107 13) ≤ 0 → ((x2 = (-1 : Int32) → (vp_in (I13 107 19) 2) ∧ ∀ n17 : Int32, n17 = ((I13 134 (I13 107 19).toNatClampNeg) + (1 : Int32)) → (vp_in (I13 107 19) 2) ∧ ∀ I18 : sm_I, I18 = (sm_up I13 134 (I13 107 19).toNatClampNeg n17) → Φ (none, (xLay, I18, L14, (kM R15)))) ∧ (¬ x2 = (-1 : Int32) → ∀ n19 : Int32, n19 = (((10 : Int32) * (I13 107 19)) + x2) → (vp_in n19 20) ∧ ∀ I20 : sm_I, I20 = (sm_up I13 135 n19.toNatClampNeg x5) → (vp_in (I20 107 19) 2) ∧ ∀ n21 : Int32, n21 = ((I20 134 (I20 107 19).toNatClampNeg) + (1 : Int32)) → (vp_in (I20 107 19) 2) ∧ ∀ I22 : sm_I, I22 = (sm_up I20 134 (I20 107 19).toNatClampNeg n21) → Φ (none, (xLay, I22, L14, (kM R15)))))) ∧ (¬ (I13 107 13) ≤ 0 → Φ (none, (xLay, I13, L14, (kM R15)))))))) := by
  obtain ⟨hl1, hs1⟩ := ml_l1 hls
  obtain ⟨sn, sv⟩ := ml_sn hls hI
  have bc := ml_cs hs1 hm
  have b34 := x_34 hs1 hm
  have k0 : (((I 134 s).toNatClampNeg : Nat) : Int) = (I 134 s).toInt := kl_nat b34.1
  obtain ⟨i5, hi5⟩ : ∃ i5, i5 = 240 + 4 * s + (I 134 s).toNatClampNeg := ⟨_, rfl⟩
  rw [← hi5] at h5
  have n5 := tk_nat h5
  have v5 : vp_in x5 260 := kl_in (by omega) (by omega)
  rw [n5]
  refine ⟨v5, fun I1 e1 => ⟨v5, fun I2 e2 => ?_⟩⟩
  have X2 : PX K P V W N c R0 M0 m o3 I2 L := by rw [e2, e1]; exact PX_up (by decide) (by omega) (PX_up (by decide) (by omega) X1)
  refine x_numU (s0 := 30) hT (by decide +kernel) (fun r a => u2 a 2 10 r) (fun v a hv => by rw [ms_16 hv]; rfl) X2 (fun t' s' g' em => (r1 t' s' g' em).2.1) (fun r6 I3 m3 o4 f3 X3 r3 => ⟨r6, I3, L, R, rfl, v5, fun I7 e7 => ?_⟩)
  have X7 : PX K P V W N c R0 M0 m3 o4 I7 L := by rw [e7]; exact PX_up (by decide) (by omega) X3
  have m3s : ∀ t' s' g', m3 = some (t', s', g') → t < t' ∧ s' = 5 ∧ g' = gc_st 0 10 g ∧ m ≠ none ∧ (o4 = none ∨ o4 = o3.map (fun a => u2 a 2 10 r6)) := fun t' s' g' em => by
    rcases r3 with r3 | ⟨t2, g2, em2, q2, q3, q4, q5⟩
    · rw [r3] at em; cases em
    · rw [q4] at em
      obtain ⟨y1, y2, y3⟩ := mo_i em
      obtain ⟨z1, z2, z3⟩ := r1 t2 30 g2 em2
      refine ⟨by omega, by rw [← y2]; decide +kernel, by rw [← y3]; exact z3, by rw [em2]; exact Option.some_ne_none _, ?_⟩
      rcases q5 with q5 | ⟨-, -, q5⟩
      · exact Or.inl q5
      · exact Or.inr q5
  refine x_numU (s0 := 5) hT (by decide +kernel) en_po (fun v a hv => by rw [ms_16 hv]; rfl) X7 (fun t' s' g' em => (m3s t' s' g' em).2.1) (fun r11 I8 m8 o8 f8 X8 r8 => ⟨r11, I8, L, R, rfl, v5, fun I12 e12 => ?_⟩)
  have X12 : PX K P V W N c R0 M0 m8 o8 I12 L := by rw [e12]; exact PX_up (by decide) (by omega) X8
  have m8s : ∀ t' s' g', m8 = some (t', s', g') → t < t' ∧ s' = 2 ∧ g' = gc_st 0 10 g ∧ m ≠ none ∧ ∀ a', o8 = some a' → ∃ a3, o3 = some a3 ∧ a' = en_po r11 (u2 a3 2 10 r6) := fun t' s' g' em => by
    rcases r8 with r8 | ⟨t2, g2, em2, q2, q3, q4, q5⟩
    · rw [r8] at em; cases em
    · rw [q4] at em
      obtain ⟨y1, y2, y3⟩ := mo_i em
      obtain ⟨z1, z2, z3, z4, z5⟩ := m3s t2 5 g2 em2
      refine ⟨by omega, by rw [← y2]; decide +kernel, by rw [← y3]; exact z3, z4, fun a' ea => ?_⟩
      rcases q5 with q5 | ⟨-, -, q5⟩
      · rw [q5] at ea; cases ea
      obtain ⟨a4, ea4, ea4'⟩ := om (Or.inr q5) ea
      obtain ⟨a3, ea3, ea3'⟩ := om z5 ea4
      exact ⟨a3, ea3, by rw [ea4', ea3']⟩
  refine x_mustT (i := 17) (s0 := 2) [] hT rfl (by decide +kernel) (fun v a => rfl) X12 (fun t' s' g' em => ⟨(m8s t' s' g' em).2.1, fun j hj => absurd hj List.not_mem_nil⟩) (fun J3 m9 f9 X9 r9 => ⟨J3, L, R, rfl, fun z => ?_, fun z => ?_⟩)
  · have z := PS_le0 X9.1 z
    rcases r9 with r9 | ⟨t3, g3, em3, v1, v2, v3, v4⟩
    · rw [r9] at X9; exact absurd z (PS_no X9.1)
    obtain ⟨y1, y2, y3, y4, y5⟩ := m8s t3 2 g3 em3
    have e4 : fw 2 (Int32.ofNat 17) = 0 := by decide +kernel
    have ft : ∀ p j, ¬ (130 ≤ p ∧ p ≤ 133 ∧ j = i5) → ¬ (p = 107 ∧ (j = 11 ∨ j = 13 ∨ j = 14 ∨ j = 15 ∨ j = 16)) → J3 p j = I p j := fun p j p1 p2 => by rw [f9 p j p2, e12, en_up_ne _ _ _ _ (by omega), f8 p j p2, e7, en_up_ne _ _ _ _ (by omega), f3 p j p2, e2, en_up_ne _ _ _ _ (by omega), e1, en_up_ne _ _ _ _ (by omega), f1 p j p2]
    have k130 : J3 130 i5 = x2 := by rw [f9 130 _ (by omega), e12, en_up_ne _ _ _ _ (by omega), f8 130 _ (by omega), e7, en_up_ne _ _ _ _ (by omega), f3 130 _ (by omega), e2, en_up_ne _ _ _ _ (by omega), e1, en_up_eq]
    have k131 : J3 131 i5 = x4 := by rw [f9 131 _ (by omega), e12, en_up_ne _ _ _ _ (by omega), f8 131 _ (by omega), e7, en_up_ne _ _ _ _ (by omega), f3 131 _ (by omega), e2, en_up_eq]
    have k132 : J3 132 i5 = r6 := by rw [f9 132 _ (by omega), e12, en_up_ne _ _ _ _ (by omega), f8 132 _ (by omega), e7, en_up_eq]
    have k133 : J3 133 i5 = r11 := by rw [f9 133 _ (by omega), e12, en_up_eq]
    have g19 : J3 107 19 = I 107 19 := ft 107 19 (by omega) (by omega)
    have g20 : J3 107 20 = I 107 20 := ft 107 20 (by omega) (by omega)
    have g134 : J3 134 s = I 134 s := ft 134 s (by omega) (by omega)
    have b2 := b2 y4
    -- counts
    have cG : ∀ J7 : sm_I, (∀ p j, p ≠ 135 → ¬ (p = 134 ∧ j = s) → J7 p j = J3 p j) → J7 134 s = I 134 s + 1 → rG s g3 J7 := fun J7 o7 r7 => by
      have o7' : ∀ p j, p ≠ 107 → p ≠ 135 → ¬ (p = 134 ∧ j = s) → ¬ (130 ≤ p ∧ p ≤ 133 ∧ j = i5) → J7 p j = I p j := fun p j p0 p1 p2 p3 => by rw [o7 p j p1 p2]; exact ft p j p3 (by omega)
      have r7i : (J7 134 s).toInt = (I 134 s).toInt + 1 := by rw [r7]; exact ml_in1 (by omega)
      rw [y3]
      unfold rG
      obtain ⟨G1, G2, G3, G4, G5, G6, G7⟩ := hG
      refine ⟨?_, ?_, ?_, ?_, ?_, ?_, ?_⟩
      · rw [o7' 118 s (by decide) (by decide) (by omega) (by omega), gc0_t (by decide), if_neg (by decide)]; exact G1
      · rw [o7' 119 s (by decide) (by decide) (by omega) (by omega), gc0_t (by decide), if_neg (by decide)]; exact G2
      · rw [o7' 120 s (by decide) (by decide) (by omega) (by omega), gc0_t (by decide), if_neg (by decide)]; exact G3
      · rw [o7' 122 s (by decide) (by decide) (by omega) (by omega), gc0_t (by decide), if_neg (by decide)]; exact G4
      · rw [o7' 125 s (by decide) (by decide) (by omega) (by omega), gc0_t (by decide), if_neg (by decide)]; exact G5
      · rw [r7i, gc0_t (by decide), if_pos (by decide)]; omega
      · rw [o7' 136 s (by decide) (by decide) (by omega) (by omega), gc0_t (by decide), if_neg (by decide)]; exact G7
    refine ⟨fun q => ?_, fun q n19 e19 => ?_⟩
    · rw [g19, sn]
      refine ⟨sv, fun n17 e17 => ⟨sv, fun J7 e7' => h J7 L ⟨m9, o8, ?_, Or.inr ⟨t3 + 1, g3, by rw [v4, e4], by omega, cG J7 (fun p j p1 p2 => by rw [e7', en_up_ne _ _ _ _ p2]) (by rw [e7', en_up_eq, e17, g134]), fun a' ea => ?_⟩⟩⟩⟩
      · rw [e7']; exact PX_up (by decide) (by omega) X9
      · obtain ⟨a3, ea3, -⟩ := y5 a' ea
        exact absurd q (ho y4 a3 ea3).1
    · have d2 := ml_m1 q
      have q10 : ((10 : Int32) * (I 107 19)).toInt = 10 * (s : Int) := ml_mu (by decide) hI.2.1 (by omega) (by omega)
      rw [g19] at e19
      obtain ⟨x0, hx0⟩ : ∃ x0 : Nat, x2.toInt = x0 := ⟨x2.toNatClampNeg, (kl_nat (by omega)).symm⟩
      have x0n := tk_nat hx0
      have q19 : n19.toInt = ((10 * s + x0 : Nat) : Int) := by rw [e19, ml_ad q10 rfl (by omega) (by omega)]; omega
      have n19n := tk_nat q19
      refine ⟨kl_in (by omega) (by omega), fun J20 e20 => ?_⟩
      rw [n19n] at e20
      have s20 : J20 107 19 = I 107 19 := by rw [e20, en_up_ne _ _ _ _ (by omega)]; exact g19
      rw [s20, sn]
      refine ⟨sv, fun n21 e21 => ⟨sv, fun J7 e7' => ?_⟩⟩
      have o7 : ∀ p j, ¬ (p = 135 ∧ j = 10 * s + x0) → ¬ (p = 134 ∧ j = s) → J7 p j = J3 p j := fun p j p1 p2 => by rw [e7', en_up_ne _ _ _ _ p2, e20, en_up_ne _ _ _ _ p1]
      have r7 : J7 134 s = I 134 s + 1 := by rw [e7', en_up_eq, e21, e20, en_up_ne _ _ _ _ (by omega), g134]
      have r7i : (J7 134 s).toInt = (I 134 s).toInt + 1 := by rw [r7]; exact ml_in1 (by omega)
      have k135 : J7 135 (10 * s + x0) = x5 := by rw [e7', en_up_ne _ _ _ _ (by omega), e20, en_up_eq]
      refine h J7 L ⟨m9, o8, ?_, Or.inr ⟨t3 + 1, g3, by rw [v4, e4], by omega, cG J7 (fun p j p1 p2 => o7 p j (by omega) p2) r7, fun a' ea => ?_⟩⟩
      · rw [e7', e20]; exact PX_up (by decide) (by omega) (PX_up (by decide) (by omega) X9)
      · obtain ⟨a3, ea3, ea'⟩ := y5 a' ea
        obtain ⟨n1, n2, lt, a, RL, a18, ea4⟩ := ho y4 a3 ea3
        subst ea4
        rw [x0n] at a18
        have d4 := ml_m1 n2
        have b7 : (u2 (u2 (u2 (u2 a 2 7 10) 2 8 x2) 2 9 x4) 2 10 r6).1 2 7 = 10 := by rw [u2_ne _ _ _ _ (by omega), u2_ne _ _ _ _ (by omega), u2_ne _ _ _ _ (by omega), u2_eq]
        have b8 : (u2 (u2 (u2 (u2 a 2 7 10) 2 8 x2) 2 9 x4) 2 10 r6).1 2 8 = x2 := by rw [u2_ne _ _ _ _ (by omega), u2_ne _ _ _ _ (by omega), u2_eq]
        have b9 : (u2 (u2 (u2 (u2 a 2 7 10) 2 8 x2) 2 9 x4) 2 10 r6).1 2 9 = x4 := by rw [u2_ne _ _ _ _ (by omega), u2_eq]
        have b10 : (u2 (u2 (u2 (u2 a 2 7 10) 2 8 x2) 2 9 x4) 2 10 r6).1 2 10 = r6 := u2_eq _ _ _ _
        have es : a' = spb 16 10 x2 x2 x4 r6 r11 (u2 (u2 (u2 (u2 a 2 7 10) 2 8 x2) 2 9 x4) 2 10 r6) := by
          rw [ea']
          unfold en_po
          rw [b7, if_neg (by decide), b8, b9, b10]
        have B : ∀ p j, p ≠ 2 → ¬ (17 ≤ p ∧ p ≤ 20 ∧ j = x0) → a'.1 p j = a.1 p j := fun p j p1 p2 => by rw [es, spb_o (by rw [x0n]; omega), u2_ne _ _ _ _ (by omega), u2_ne _ _ _ _ (by omega), u2_ne _ _ _ _ (by omega), u2_ne _ _ _ _ (by omega)]
        have SI := spb_i (cc := 16) (n := 10) (x := x2) (y := x4) (lo := r6) (hi := r11) (a := u2 (u2 (u2 (u2 a 2 7 10) 2 8 x2) 2 9 x4) 2 10 r6) hx0 (by omega) (by omega)
        rw [← es] at SI
        have o7I : ∀ p j, p ≠ 107 → ¬ (p = 135 ∧ j = 10 * s + x0) → ¬ (p = 134 ∧ j = s) → ¬ (130 ≤ p ∧ p ≤ 133 ∧ j = i5) → J7 p j = I p j := fun p j p0 p1 p2 p3 => by rw [o7 p j p1 p2]; exact ft p j p3 (by omega)
        have ec : J7 107 20 = I 107 20 := by rw [o7 107 20 (by omega) (by omega)]; exact g20
        obtain ⟨⟨R5, RN⟩, RC, RT, RO, RW, RS, RQ, RB⟩ := RL
        have ex2 : x2 = Int32.ofNat x0 := en_ofI (by rw [hx0, Int32.toInt_ofNat_of_lt (by omega)])
        have new : rO1 s x0 (I 134 s).toNatClampNeg a' J7 := by
          refine ⟨by rw [r7i]; omega, by rw [o7I 122 s (by decide) (by omega) (by omega) (by omega)]; omega, by rw [k135, h5, hi5], ?_, ?_, ?_, ?_, ?_, ?_⟩
          · rw [← hi5, o7 130 _ (by omega) (by omega), k130]; exact ex2
          · rw [SI.1]; exact ex2
          · rw [← hi5, o7 131 _ (by omega) (by omega), k131]; exact SI.2.1
          · rw [SI.2.1]; exact n2
          · rw [← hi5, o7 132 _ (by omega) (by omega), k132]; exact SI.2.2.1
          · rw [← hi5, o7 133 _ (by omega) (by omega), k133]; exact SI.2.2.2
        have old : ∀ i k, i < 10 → i ≠ x0 → rO1 s i k a I → rO1 s i k a' J7 := fun i k hi hne q => rO1_cg q b34.2 (fun c' c1 c2 => B c' i (by omega) (by omega)) (by rw [r7i]; omega) (by rw [o7I 122 s (by decide) (by omega) (by omega) (by omega)]; exact Int.le_refl _) (o7I 135 _ (by decide) (by omega) (by omega) (by omega)) (fun p j p1 p2 j1 j2 => o7I p j (by omega) (by omega) (by omega) (by omega))
        refine ⟨⟨?_, ?_⟩, ?_, ?_, ?_, ?_, ?_, ?_, ?_⟩
        · rw [es, spb_o (by omega), u2_ne _ _ _ _ (by omega), u2_ne _ _ _ _ (by omega), u2_ne _ _ _ _ (by omega), u2_ne _ _ _ _ (by omega), ec]; exact R5
        · have : cntm J7 = cntm I := by unfold cntm; rw [ec]
          rw [this]
          exact rN_cg RN (t3 + 1) (by omega) (fun i _ => ⟨by rw [es, spb_2]; rfl, B 10 i (by decide) (by omega), B 11 i (by decide) (by omega)⟩) (fun i _ => ⟨rfl, o7I 116 i (by decide) (by omega) (by omega) (by omega), o7I 117 i (by decide) (by omega) (by omega) (by omega)⟩)
        · unfold rC
          rw [B 12 0 (by decide) (by omega), B 12 1 (by decide) (by omega), B 12 2 (by decide) (by omega), B 12 3 (by decide) (by omega), B 12 4 (by decide) (by omega), o7I 118 s (by decide) (by omega) (by omega) (by omega), o7I 119 s (by decide) (by omega) (by omega) (by omega), o7I 122 s (by decide) (by omega) (by omega) (by omega), o7I 125 s (by decide) (by omega) (by omega) (by omega), o7I 136 s (by decide) (by omega) (by omega) (by omega)]
          exact RC
        · exact rT_cg RT (fun c' j hc => B c' j (by omega) (by omega)) (fun p j hp => o7I p j (by omega) (by omega) (by omega) (by omega))
        · refine ⟨fun i hi => ?_, fun k hk => ?_⟩
          · by_cases ci : i = x0
            · subst ci; exact Or.inr ⟨_, new⟩
            · rcases RO.1 i hi with q' | ⟨k, q'⟩
              · left
                rw [o7I 135 _ (by decide) (by omega) (by omega) (by omega), B 18 i (by decide) (by omega)]; exact q'
              · exact Or.inr ⟨k, old i k hi ci q'⟩
          · rw [r7i] at hk
            by_cases ck : k = (I 134 s).toNatClampNeg
            · rw [ck]; exact ⟨x0, by omega, new⟩
            · obtain ⟨i, hi, q'⟩ := RO.2 k (by omega)
              refine ⟨i, hi, old i k hi (fun y => ?_) q'⟩
              obtain ⟨-, -, -, -, -, -, w7, -⟩ := q'
              rw [y] at w7
              exact w7 a18
        · exact rW_cg RW (fun j => B 13 j (by decide) (by omega)) (fun j => o7I 121 j (by decide) (by omega) (by omega) (by omega))
        · exact rS_cg RS bc.2.2.2.1.2 hs1 (fun c' j hc => B c' j (by omega) (by omega)) (fun p j hp => o7I p j (by omega) (by omega) (by omega) (by omega))
        · exact rQ_cg RQ (fun c' j h1 h2 => B c' j (by omega) (by omega)) (fun p j hp => o7I p j (by omega) (by omega) (by omega) (by omega))
        · exact rB_cg RB ec (fun i _ => ⟨o7I 116 i (by decide) (by omega) (by omega) (by omega), o7I 117 i (by decide) (by omega) (by omega) (by omega)⟩) (by rw [o7I 122 s (by decide) (by omega) (by omega) (by omega)]; exact Int.le_refl _)
  · have nz : ¬ J3 107 13 = 0 := fun y => z (by rw [y]; decide)
    have em := PS_n0 X9.1 nz
    exact h J3 L ⟨m9, o8, X9, Or.inl em⟩
end
end
section
/-! tells of the reference, exact: open, its checks -/
section
variable {K : Nat → Int32} {P : Nat → Nat} {V W : Nat → Int64} {N : Nat → Int32} {c : Nat} {R0 : Option (Int32 × Nat)} {M0 : Option (Int32 × Nat) × sg}
variable {S : sm_C} {d : Nat} {Φ : sm_Z → Prop} {I : sm_I} {L : sm_L} {R : sm_R} {m : mo} {e : eo} {o : Option sg} {l s t : Nat} {g : gc}
/-- what is meant when both TIMES of an open are read and nothing is wrong with the first -/
def opN (K : Nat → Int32) (P : Nat → Nat) (V W : Nat → Int64) (M0 : Option (Int32 × Nat) × sg) (s t t3 : Nat) (x2 x4 : Int32) (a : sg) (I : sm_I) (L : sm_L) (J : sm_I) : Prop := rL K V W s t a I L ∧ ¬ x2 = -1 ∧ ¬ x4 = -1 ∧ x2.toInt < (I 122 s).toInt ∧ a.1 18 x2.toNatClampNeg = -1 ∧ fd (u2 (u2 a 2 7 10) 2 8 x2) (V t3) 3 = x4 ∧ PEm K P V M0 (t3, some (29, u2 (u2 a 2 7 10) 2 8 x2)) J
theorem op29 {a : sg} {x2 x4 : Int32} {v : Int64} {k4 : Nat} (hf : fd (u2 (u2 a 2 7 10) 2 8 x2) v 3 = x4) (n4 : ¬ x4 = -1) (h4 : x4.toInt = k4) (k9 : k4 < 10) : ms 29 15 v (u2 (u2 a 2 7 10) 2 8 x2) = (if x2 = x4 then 5 else if ¬ a.1 18 k4 = -1 then 5 else if oy a.1 x2 (a.1 12 2).toNatClampNeg 0 = true then 5 else 0, u2 (u2 (u2 a 2 7 10) 2 8 x2) 2 9 x4) := by
  have k8 : (u2 (u2 a 2 7 10) 2 8 x2).1 2 8 = x2 := u2_eq _ _ _ _
  have ko : ∀ p j, p ≠ 2 → (u2 (u2 a 2 7 10) 2 8 x2).1 p j = a.1 p j := fun p j hp => by rw [u2_ne _ _ _ _ (by omega), u2_ne _ _ _ _ (by omega)]
  have ey : ∀ k i, oy (u2 (u2 a 2 7 10) 2 8 x2).1 x2 k i = oy a.1 x2 k i := by
    intro k
    induction k with
    | zero => intro i; rfl
    | succ k ih =>
      intro i
      show (if (u2 (u2 a 2 7 10) 2 8 x2).1 18 i = x2 then true else oy (u2 (u2 a 2 7 10) 2 8 x2).1 x2 k (i + 1)) = (if a.1 18 i = x2 then true else oy a.1 x2 k (i + 1))
      rw [ih, ko 18 i (by decide)]
  rw [ms_15]
  show tk_open 29 v (u2 (u2 a 2 7 10) 2 8 x2) = _
  unfold tk_open
  rw [hf, if_neg n4, if_neg (by decide), k8, is_op_s h4 k9, ko 18 _ (by decide), ey, ko 12 2 (by decide)]
  by_cases c1 : x2 = x4
  · rw [if_pos c1, if_pos c1]
  · rw [if_neg c1, if_neg c1]
    by_cases c2 : a.1 18 k4 = -1
    · rw [show decide (¬ a.1 18 k4 = -1) = false from decide_eq_false (fun y => y c2), if_neg (show ¬ (false = true) by decide), if_neg (show ¬ ¬ a.1 18 k4 = -1 from fun y => y c2)]
    · rw [show decide (¬ a.1 18 k4 = -1) = true from decide_eq_true c2, if_pos rfl, if_pos (show ¬ a.1 18 k4 = -1 from c2)]
theorem x_open13 {x2 x3 x4 x5 : Int32} {t3 : Nat} {g1 : gc} (hT : TS K P V W N c) (hls : ml_ls l s) (hm : en_mem ml_tb mlX (xLay, I, L, R)) (hI : ml_TI l s I) (hG : rG s g I) (hr : (I 134 s).toInt < 4) (t3c : t3 < c) (t35 : t3 < 500) (tt : t < t3) (k3 : K t3 = 15) (h3 : x3.toInt = t3) (r1 : ∀ t' s' g', m = some (t', s', g') → t' = t3 + 1 ∧ s' = 30 ∧ g' = gc_st 0 10 g) (h5 : x5.toInt = ((240 + 4 * s + (I 134 s).toNatClampNeg : Nat) : Int)) (b2 : -1 ≤ x2.toInt ∧ x2.toInt ≤ 9) (b4 : -1 ≤ x4.toInt ∧ x4.toInt ≤ 9) (h : ∀ (J : sm_I) (L' : sm_L), TP K P V W N c R0 M0 s t J L' → Φ (none, (xLay, J, L', kM R))) : ∀ (f k : Nat) (J : sm_I) (x6 : Int32), x6.toInt = ((240 + 4 * s + k : Nat) : Int) → k + f = (I 134 s).toNatClampNeg → xfr I J → PSm K P W N c R0 m J L → (PWx P M0 5 t3 J ∨ ∃ a, opN K P V W M0 s t t3 x2 x4 a I L J ∧ ¬ x2 = x4 ∧ a.1 18 x4.toNatClampNeg = -1 ∧ ∀ k', k' < k → ¬ I 131 (240 + 4 * s + k') = x2) → sm_wp sm_P S (d + 4) 198 13 [.ref 107, .int x2, .int x3, .int x4, .int x5, .int x6] [] (xLay, J, L, kM R) (0, 0) Φ := by
  obtain ⟨hl1, hs1⟩ := ml_l1 hls
  have b34 := x_34 hs1 hm
  have bc := ml_cs hs1 hm
  have k0 : (((I 134 s).toNatClampNeg : Nat) : Int) = (I 134 s).toInt := kl_nat b34.1
  have n21 := hT.2.2.2.1 t3 t3c
  have n3 := tk_nat h3
  have r1' : ∀ t' s' g', m = some (t', s', g') → t < t' ∧ s' = 30 ∧ g' = gc_st 0 10 g := fun t' s' g' em => by
    obtain ⟨y1, y2, y3⟩ := r1 t' s' g' em
    exact ⟨by omega, y2, y3⟩
  -- a fault is known, of the grammar or of the meaning
  have endW : ∀ J : sm_I, xfr I J → PSm K P W N c R0 m J L → PWx P M0 5 t3 J → PX K P V W N c R0 M0 m none J L := fun J fJ pJ w => ⟨pJ, by
    cases em : m with
    | none => trivial
    | some q =>
      obtain ⟨t', s', g'⟩ := q
      obtain ⟨y1, -⟩ := r1 t' s' g' em
      rw [y1]
      exact PW_e w⟩
  have fin : ∀ J : sm_I, xfr I J → PSm K P W N c R0 m J L → (PWx P M0 5 t3 J ∨ ∃ a, opN K P V W M0 s t t3 x2 x4 a I L J ∧ ¬ x2 = x4 ∧ a.1 18 x4.toNatClampNeg = -1 ∧ ∀ k', k' < (I 134 s).toNatClampNeg → ¬ I 131 (240 + 4 * s + k') = x2) → ∃ o3, PX K P V W N c R0 M0 m o3 J L ∧ (m ≠ none → ∀ a3, o3 = some a3 → ¬ x2 = -1 ∧ ¬ x4 = -1 ∧ x2.toInt < (I 122 s).toInt ∧ ∃ a, rL K V W s t a I L ∧ a.1 18 x2.toNatClampNeg = -1 ∧ a3 = u2 (u2 (u2 a 2 7 10) 2 8 x2) 2 9 x4) := by
    intro J fJ pJ hz
    rcases hz with w | ⟨a, ⟨RL, N1, N2, N3, N4, N5, N6⟩, M1, M2, M3⟩
    · exact ⟨none, endW J fJ pJ w, fun _ a3 ea => by cases ea⟩
    · have d4 := ml_m1 N2
      obtain ⟨q4, hq4⟩ : ∃ q4 : Nat, x4.toInt = q4 := ⟨x4.toNatClampNeg, (kl_nat (by omega)).symm⟩
      rw [tk_nat hq4] at M2
      have ny : oy a.1 x2 (a.1 12 2).toNatClampNeg 0 = false := by
        cases eo : oy a.1 x2 (a.1 12 2).toNatClampNeg 0 with
        | false => rfl
        | true =>
          exfalso
          obtain ⟨j, -, j2, j3⟩ := (oy_iff _ _).mp eo
          have e12 : a.1 12 2 = I 122 s := RL.2.1.2.2.1
          have nt := kl_nat bc.2.2.1.1
          rw [e12] at j2
          rcases RL.2.2.2.1.1 j (by omega) with q | ⟨k', q⟩
          · rw [q.2] at j3; exact N1 j3.symm
          · obtain ⟨w1, -, -, -, -, w6, -⟩ := q
            rw [w6] at j3
            exact M3 k' (by omega) j3
      have em : ms 29 (K t3) (V t3) (u2 (u2 a 2 7 10) 2 8 x2) = (0, u2 (u2 (u2 a 2 7 10) 2 8 x2) 2 9 x4) := by
        rw [k3, op29 N5 N2 hq4 (by omega), if_neg M1, if_neg (fun y => y M2), ny]; rfl
      refine ⟨some (u2 (u2 (u2 a 2 7 10) 2 8 x2) 2 9 x4), ⟨pJ, ?_⟩, fun _ a3 ea => ⟨N1, N2, N3, a, RL, N4, (Option.some.inj ea).symm⟩⟩
      cases emm : m with
      | none => trivial
      | some q =>
        obtain ⟨t', s', g'⟩ := q
        obtain ⟨y1, y2, -⟩ := r1 t' s' g' emm
        have st := PE_st (by omega) n21 em N6
        rw [k3] at st
        rw [y1, y2]
        exact st
  intro f
  induction f with
  | zero =>
    intro k J x6 h6 hk fJ pJ hz
    have ek : k = (I 134 s).toNatClampNeg := by omega
    rw [ek] at hz
    obtain ⟨o3, XJ, ho⟩ := fin J fJ pJ hz
    refine u_X12_tellOpen_13 ⟨fun _ => x_openE hT hls hm hI hG hr fJ XJ r1' h5 (fun _ => b2) ho h, fun q => ?_⟩
    have := kl_nle q
    omega
  | succ f ih =>
    intro k J x6 h6 hk fJ pJ hz
    have s6 := ml_in1 (x := x6) (by omega)
    have n6 := tk_nat h6
    refine u_X12_tellOpen_13 ⟨fun q => ?_, fun _ => ⟨fun z => ⟨fun q => ?_, fun q => ⟨kl_in (by omega) (by omega), fun c1 => ?_, fun c1 => ?_⟩⟩, fun z => ?_⟩⟩
    · have := kl_le.mp q
      omega
    · rcases hz with w | ⟨a, ⟨RL, N1, -⟩, -⟩
      · exact x_openE hT hls hm hI hG hr fJ (endW J fJ pJ w) r1' h5 (fun _ => b2) (fun _ a3 ea => by cases ea) h
      · exact absurd q N1
    · rw [n6, fJ 131 _ (by omega)] at c1
      refine x_wrong (M0 := M0) (t := t3) hT (by decide) h3 (by omega) (by omega) pJ (fun _ => ?_) (fun H fH _ pH wH => ⟨H, L, R, rfl, ih (k + 1) H _ (by omega) (by omega) (xfr_tr fJ fH) pH (Or.inl wH)⟩)
      rcases hz with w | ⟨a, ⟨RL, N1, N2, N3, N4, N5, N6⟩, M1, M2, M3⟩
      · exact Or.inl (w z)
      · obtain ⟨pe1, pe2⟩ := N6 z
        have d4 := ml_m1 N2
        obtain ⟨q4, hq4⟩ : ∃ q4 : Nat, x4.toInt = q4 := ⟨x4.toNatClampNeg, (kl_nat (by omega)).symm⟩
        rw [tk_nat hq4] at M2
        have yy : oy a.1 x2 (a.1 12 2).toNatClampNeg 0 = true := by
          obtain ⟨i, hi, w1, w2, w3, w4, w5, w6, -⟩ := RL.2.2.2.1.2 k (by omega)
          have e12 : a.1 12 2 = I 122 s := RL.2.1.2.2.1
          have nt := kl_nat bc.2.2.1.1
          exact (oy_iff _ _).mpr ⟨i, Nat.zero_le _, by rw [e12]; omega, by rw [w6]; exact c1⟩
        refine Or.inr ⟨Or.inl pe1, ME_f (s := 29) (a := u2 (u2 a 2 7 10) 2 8 x2) (a' := u2 (u2 (u2 a 2 7 10) 2 8 x2) 2 9 x4) (by omega) n21 ?_ (by decide) pe2⟩
        rw [k3, op29 N5 N2 hq4 (by omega), if_neg M1, if_neg (fun y => y M2), if_pos yy]
    · rw [n6, fJ 131 _ (by omega)] at c1
      refine ih (k + 1) J _ (by omega) (by omega) fJ pJ ?_
      rcases hz with w | ⟨a, N0, M1, M2, M3⟩
      · exact Or.inl w
      · refine Or.inr ⟨a, N0, M1, M2, fun k' hk' => ?_⟩
        by_cases ck : k' = k
        · rw [ck]; exact c1
        · exact M3 k' (by omega)
    · have em := PS_n0 pJ z
      subst em
      exact x_openE (o3 := none) hT hls hm hI hG hr fJ (PX_F pJ) r1' h5 (fun _ => b2) (fun y => absurd rfl y) h
theorem x_open7 {x2 x3 x4 x5 : Int32} {t3 : Nat} {g1 : gc} {J : sm_I} (hT : TS K P V W N c) (hls : ml_ls l s) (hm : en_mem ml_tb mlX (xLay, I, L, R)) (hI : ml_TI l s I) (hG : rG s g I) (hr : (I 134 s).toInt < 4) (t3c : t3 < c) (t35 : t3 < 500) (tt : t < t3) (k3 : K t3 = 15) (h3 : x3.toInt = t3) (r1 : ∀ t' s' g', m = some (t', s', g') → t' = t3 + 1 ∧ s' = 30 ∧ g' = gc_st 0 10 g) (h5 : x5.toInt = ((240 + 4 * s + (I 134 s).toNatClampNeg : Nat) : Int)) (b2 : -1 ≤ x2.toInt ∧ x2.toInt ≤ 9) (b4 : -1 ≤ x4.toInt ∧ x4.toInt ≤ 9) (fJ : xfr I J) (pJ : PSm K P W N c R0 m J L) (hz : PWx P M0 5 t3 J ∨ ∃ a, opN K P V W M0 s t t3 x2 x4 a I L J) (h : ∀ (J : sm_I) (L' : sm_L), TP K P V W N c R0 M0 s t J L' → Φ (none, (xLay, J, L', kM R))) : sm_wp sm_P S (d + 4) 198 7 [.ref 107, .int x2, .int x3, .int x4, .int x5] [] (xLay, J, L, kM R) (0, 0) Φ := by
  obtain ⟨hl1, hs1⟩ := ml_l1 hls
  have b34 := x_34 hs1 hm
  have k0 : (((I 134 s).toNatClampNeg : Nat) : Int) = (I 134 s).toInt := kl_nat b34.1
  have n21 := hT.2.2.2.1 t3 t3c
  have q4s : ((4 : Int32) * (I 107 19)).toInt = 4 * (s : Int) := ml_mu (by decide) hI.2.1 (by omega) (by omega)
  have q10 : ((10 : Int32) * (I 107 19)).toInt = 10 * (s : Int) := ml_mu (by decide) hI.2.1 (by omega) (by omega)
  have go : ∀ H : sm_I, xfr I H → PSm K P W N c R0 m H L → (PWx P M0 5 t3 H ∨ ∃ a, opN K P V W M0 s t t3 x2 x4 a I L H ∧ ¬ x2 = x4 ∧ a.1 18 x4.toNatClampNeg = -1) → sm_wp sm_P S (d + 4) 198 12 [.ref 107, .int x2, .int x3, .int x4, .int x5] [] (xLay, H, L, kM R) (0, 0) Φ := by
    intro H fH pH zH
    refine u_X12_tellOpen_12 (fun n1 e1 => ?_)
    have e19 : H 107 19 = I 107 19 := fH 107 19 (by omega)
    have q1 : n1.toInt = ((240 + 4 * s + 0 : Nat) : Int) := by rw [e1, e19, ml_ad (by decide : (240 : Int32).toInt = 240) q4s (by omega) (by omega)]; omega
    refine x_open13 (g1 := g1) hT hls hm hI hG hr t3c t35 tt k3 h3 r1 h5 b2 b4 h (I 134 s).toNatClampNeg 0 H n1 q1 (by omega) fH pH ?_
    rcases zH with w | ⟨a, w1, w2, w3⟩
    · exact Or.inl w
    · exact Or.inr ⟨a, w1, w2, w3, fun k' hk' => absurd hk' (Nat.not_lt_zero k')⟩
  have wr : J 107 13 = 0 → (∀ a, opN K P V W M0 s t t3 x2 x4 a I L J → (ms 29 15 (V t3) (u2 (u2 a 2 7 10) 2 8 x2)).1 = 5) → sm_wp sm_P S (d + 3) 213 0 [.ref 107, .int (5 : Int32), .int x3] [] (xLay, J, L, (kM R)) (0, 0) (fun z => ∃ (I1 : sm_I) (L2 : sm_L) (R3 : sm_R), z = (none, (xLay, I1, L2, (kM R3))) ∧ sm_wp sm_P S (d + 4) 198 12 [.ref 107, .int x2, .int x3, .int x4, .int x5] [] (xLay, I1, L2, (kM R3)) (0, 0) Φ) := by
    intro z hbad
    refine x_wrong (M0 := M0) (t := t3) hT (by decide) h3 (by omega) (by omega) pJ (fun _ => ?_) (fun H fH _ pH wH => ⟨H, L, R, rfl, go H (xfr_tr fJ fH) pH (Or.inl wH)⟩)
    rcases hz with w | ⟨a, N0⟩
    · exact Or.inl (w z)
    · obtain ⟨pe1, pe2⟩ := N0.2.2.2.2.2.2 z
      refine Or.inr ⟨Or.inl pe1, ME_f (s := 29) (a := u2 (u2 a 2 7 10) 2 8 x2) (f := 5) (a' := (ms 29 15 (V t3) (u2 (u2 a 2 7 10) 2 8 x2)).2) (by omega) n21 ?_ (by decide) pe2⟩
      rw [k3]
      exact Prod.ext (hbad a N0) rfl
  have e19 : J 107 19 = I 107 19 := fJ 107 19 (by omega)
  refine u_X12_tellOpen_7 ⟨fun z => ⟨fun q => ?_, fun q => ⟨fun q2 => wr z (fun a N0 => ?_), fun q2 n6 e6 => ?_⟩⟩, fun z => ?_⟩
  · refine go J fJ pJ ?_
    rcases hz with w | ⟨a, N0⟩
    · exact Or.inl w
    · exact absurd q N0.2.2.1
  · have d4 := ml_m1 q
    obtain ⟨q4, hq4⟩ : ∃ q4 : Nat, x4.toInt = q4 := ⟨x4.toNatClampNeg, (kl_nat (by omega)).symm⟩
    rw [op29 N0.2.2.2.2.2.1 q hq4 (by omega), if_pos q2.symm]
  · have d4 := ml_m1 q
    obtain ⟨q4, hq4⟩ : ∃ q4 : Nat, x4.toInt = q4 := ⟨x4.toNatClampNeg, (kl_nat (by omega)).symm⟩
    have nq4 := tk_nat hq4
    rw [e19] at e6
    have q6 : n6.toInt = ((10 * s + q4 : Nat) : Int) := by rw [e6, ml_ad q10 rfl (by omega) (by omega)]; omega
    have n6n := tk_nat q6
    rw [n6n, fJ 135 _ (by omega)]
    refine ⟨kl_in (by omega) (by omega), fun c1 => go J fJ pJ ?_, fun c1 => wr z (fun a N0 => ?_)⟩
    · rcases hz with w | ⟨a, N0⟩
      · exact Or.inl w
      · exact Or.inr ⟨a, N0, fun y => q2 y.symm, by rw [nq4]; exact (rO_18 N0.1.2.2.2.1 (by omega)).mp c1⟩
    · have n18 : ¬ a.1 18 q4 = -1 := fun y => c1 ((rO_18 N0.1.2.2.2.1 (by omega)).mpr y)
      rw [op29 N0.2.2.2.2.2.1 q hq4 (by omega), if_neg (fun y => q2 y.symm), if_pos n18]
  · have em := PS_n0 pJ z
    subst em
    exact go J fJ pJ (Or.inl (fun y => absurd y z))
end
end
section
/-! tells of the reference, exact: open, from its start -/
section
variable {K : Nat → Int32} {P : Nat → Nat} {V W : Nat → Int64} {N : Nat → Int32} {c : Nat} {R0 : Option (Int32 × Nat)} {M0 : Option (Int32 × Nat) × sg}
variable {S : sm_C} {d : Nat} {Φ : sm_Z → Prop} {I : sm_I} {L : sm_L} {R : sm_R} {m : mo} {e : eo} {o : Option sg} {l s t : Nat} {g : gc}
/-- what is wrong further on is of no account -/
theorem x_wrongI {x1 x2 : Int32} {u : Nat} (hT : TS K P V W N c) (h2 : x2.toInt = u) (uc : u ≤ c) (u5 : u ≤ 500) (hS : PSm K P W N c R0 m I L) (hw : I 107 13 = 0 → 0 < (I 107 15).toInt ∧ ∃ j, j < u ∧ (I 107 16).toInt = P j) (h : Φ (none, (xLay, I, L, kM R))) : sm_wp sm_P S d 213 0 [.ref 107, .int x1, .int x2] [] (xLay, I, L, kM R) (0, 0) Φ := by
  have n2 := tk_nat h2
  have eP : (I 111 x2.toNatClampNeg).toInt = P u := by rw [n2]; exact (hS.1.1 u uc u5).2
  refine u_X12_wrong_0 ⟨kl_in (by omega) (by omega), fun _ => h, fun a => ?_⟩
  have z : I 107 13 = 0 := by
    have q := PS_f hS
    have a := kl_nlt a
    rw [kl_0] at a
    exact en_ofI (by rw [kl_0]; omega)
  obtain ⟨w1, j, j1, j2⟩ := hw z
  have lt := hT.2.2.2.2.1 j u j1 uc
  refine ⟨fun b => ?_, fun _ => ⟨fun _ => h, fun l => ?_⟩⟩
  · rw [b, kl_0] at w1; omega
  · exfalso
    apply l
    rw [kl_lt]; omega
/-- the first that is wrong is noted -/
theorem x_wrong0 {x1 x2 : Int32} {u : Nat} (h2 : x2.toInt = u) (uc : u ≤ c) (u5 : u ≤ 500) (hS : PSm K P W N c R0 m I L) (z : I 107 13 = 0) (hw : I 107 15 = 0) (h : ∀ J : sm_I, xfr I J → PSm K P W N c R0 m J L → J 107 15 = x1 → (J 107 16).toInt = P u → Φ (none, (xLay, J, L, kM R))) : sm_wp sm_P S d 213 0 [.ref 107, .int x1, .int x2] [] (xLay, I, L, kM R) (0, 0) Φ := by
  have n2 := tk_nat h2
  have eP : (I 111 x2.toNatClampNeg).toInt = P u := by rw [n2]; exact (hS.1.1 u uc u5).2
  refine u_X12_wrong_0 ⟨kl_in (by omega) (by omega), fun a => ?_, fun _ => ⟨fun _ J e => ?_, fun b => absurd hw b⟩⟩
  · rw [z] at a; exact absurd a (by decide)
  · have f : xfr I J := fun p j q => by rw [e, en_up_ne _ _ _ _ (by omega), en_up_ne _ _ _ _ (by omega)]
    have n11 : J 107 11 = I 107 11 := by rw [e, en_up_ne _ _ _ _ (by omega), en_up_ne _ _ _ _ (by omega)]
    have n13 : J 107 13 = I 107 13 := by rw [e, en_up_ne _ _ _ _ (by omega), en_up_ne _ _ _ _ (by omega)]
    have n14 : J 107 14 = I 107 14 := by rw [e, en_up_ne _ _ _ _ (by omega), en_up_ne _ _ _ _ (by omega)]
    refine h J f ?_ (by rw [e, en_up_ne _ _ _ _ (by omega), en_up_eq]) (by rw [e, en_up_eq]; exact eP)
    unfold PSm PFa at hS ⊢
    rw [n11, n13, n14]
    exact ⟨tx_fr hS.1 (fun p j _ _ => f p j (by omega)), hS.2⟩
/-- the rest of an open when the grammar has failed -/
theorem x_openF {J : sm_I} {x2 x3 x4 x5 : Int32} (hT : TS K P V W N c) (hls : ml_ls l s) (hm : en_mem ml_tb mlX (xLay, I, L, R)) (hI : ml_TI l s I) (hG : rG s g I) (hr : (I 134 s).toInt < 4) (h5 : x5.toInt = ((240 + 4 * s + (I 134 s).toNatClampNeg : Nat) : Int)) (fJ : xfr I J) (pJ : PSm K P W N c R0 none J L) (h : ∀ (J : sm_I) (L' : sm_L), TP K P V W N c R0 M0 s t J L' → Φ (none, (xLay, J, L', kM R))) : sm_wp sm_P S (d + 4) 198 7 [.ref 107, .int x2, .int x3, .int x4, .int x5] [] (xLay, J, L, kM R) (0, 0) Φ := by
  have nz := PS_no pJ
  have fin := x_openE (S := S) (d := d) (x2 := x2) (x4 := x4) (o3 := none) (m := none) (t := t) hT hls hm hI hG hr fJ (PX_F (V := V) (M0 := M0) pJ) (fun t' s' g' em => by cases em) h5 (fun y => absurd rfl y) (fun y => absurd rfl y) h
  exact u_X12_tellOpen_7 ⟨fun z => absurd z nz, fun _ => u_X12_tellOpen_12 (fun n1 _ => u_X12_tellOpen_13 ⟨fun _ => fin, fun _ => ⟨fun z => absurd z nz, fun _ => fin⟩⟩)⟩
theorem op27 {a : sg} {x2 : Int32} {v : Int64} {k2 : Nat} (hf : fd (u2 a 2 7 10) v 3 = x2) (n2 : ¬ x2 = -1) (h2 : x2.toInt = k2) (k9 : k2 < 10) : ms 27 15 v (u2 a 2 7 10) = (if ¬ a.1 18 k2 = -1 then 5 else 0, u2 (u2 a 2 7 10) 2 8 x2) := by
  rw [ms_15]
  show tk_open 27 v (u2 a 2 7 10) = _
  unfold tk_open
  rw [hf, if_neg n2, if_pos rfl, is_op_s h2 k9, u2_ne _ _ _ _ (by omega)]
  by_cases c2 : a.1 18 k2 = -1
  · rw [show decide (¬ a.1 18 k2 = -1) = false from decide_eq_false (fun y => y c2), if_neg (show ¬ (false = true) by decide), if_neg (show ¬ ¬ a.1 18 k2 = -1 from fun y => y c2)]
  · rw [show decide (¬ a.1 18 k2 = -1) = true from decide_eq_true c2, if_pos rfl, if_pos (show ¬ a.1 18 k2 = -1 from c2)]
theorem x_tellOpen (hT : TS K P V W N c) (hls : ml_ls l s) (hm : en_mem ml_tb mlX (xLay, I, L, R)) (hI : ml_TI l s I) (hX : PX K P V W N c R0 M0 (some (t, 0, g)) o I L) (hG : rG s g I) (hR : ∀ a, o = some a → rL K V W s t a I L) (ek : K t = 10) (hr : (I 134 s).toInt < 4) (h : ∀ (J : sm_I) (L' : sm_L), TP K P V W N c R0 M0 s t J L' → Φ (none, (xLay, J, L', kM R))) : sm_wp sm_P S (d + 4) 198 0 [.ref 107] [] (xLay, I, L, kM R) (0, 0) Φ := by
  obtain ⟨hl1, hs1⟩ := ml_l1 hls
  obtain ⟨sn, sv⟩ := ml_sn hls hI
  have bc := ml_cs hs1 hm
  have b34 := x_34 hs1 hm
  obtain ⟨⟨b0, b1⟩, hb⟩ := x_b117 hm
  have tc : t ≤ c := hX.1.2.2.2.2.2.1
  have k0 : (((I 134 s).toNatClampNeg : Nat) : Int) = (I 134 s).toInt := kl_nat b34.1
  have ok : gc_ok 0 10 g = true := by
    unfold gc_ok
    rw [if_pos ⟨rfl, by decide⟩]
    refine decide_eq_true ?_
    have := hG.2.2.2.2.2.1
    rw [show gw 10 = 10 from by decide, show (sm_room.getD 10 0).toInt = 4 from by decide]
    omega
  have q4s : ((4 : Int32) * (I 107 19)).toInt = 4 * (s : Int) := ml_mu (by decide) hI.2.1 (by omega) (by omega)
  have q24 : ((240 : Int32) + (4 : Int32) * (I 107 19)).toInt = 240 + 4 * (s : Int) := ml_ad (by decide) q4s (by omega) (by omega)
  have q10 : ((10 : Int32) * (I 107 19)).toInt = 10 * (s : Int) := ml_mu (by decide) hI.2.1 (by omega) (by omega)
  have x5v : ∀ (J : sm_I) (n : Int32), xfr I J → n = (((240 : Int32) + ((4 : Int32) * (J 107 19))) + (J 134 s)) → n.toInt = ((240 + 4 * s + (I 134 s).toNatClampNeg : Nat) : Int) := fun J n f en => by
    rw [en, f 107 19 (by omega), f 134 s (by omega), ml_ad q24 rfl (by omega) (by omega)]; omega
  refine u_X12_tellOpen_0 (x_go0 (k := 10) hT ek (by decide) (by decide) (by decide +kernel) (by decide) (by decide) ok hX (fun J1 m1 f1 X1 r1 => ⟨J1, L, R, rfl, ?_⟩))
  have m1s : ∀ t' s' g', m1 = some (t', s', g') → t' = t + 1 ∧ s' = 27 ∧ g' = gc_st 0 10 g := fun t' s' g' em => by
    rcases r1 with r1 | ⟨q1, q2, q3⟩
    · rw [r1] at em; cases em
    · rw [q3] at em
      obtain ⟨y1, y2, y3⟩ := mo_i em
      exact ⟨y1.symm, by rw [← y2]; decide +kernel, y3.symm⟩
  have c20 : J1 107 20 = I 107 20 := f1 107 20 (by omega)
  have cm1 : cntm J1 = cntm I := by unfold cntm; rw [c20]
  have fd1 : ∀ a, rL K V W s t a I L → ∀ k2 : Int32, ∀ u, u < c → K u = 15 → fd (u2 a 2 7 10) (V u) 3 = fdm I L (W u) 2 ∧ fd (u2 (u2 a 2 7 10) 2 8 k2) (V u) 3 = fdm I L (W u) 2 := fun a RL k2 u uc ku => by
    have RL1 := rL_a RL (Nat.le_refl t) b34.2 bc.2.2.2.1.2 hs1 (a' := u2 a 2 7 10) (fun p j hp => u2_ne _ _ _ _ (by omega)) (u2_ne _ _ _ _ (by omega)) rfl
    have RL2 := rL_a RL (Nat.le_refl t) b34.2 bc.2.2.2.1.2 hs1 (a' := u2 (u2 a 2 7 10) 2 8 k2) (fun p j hp => by rw [u2_ne _ _ _ _ (by omega), u2_ne _ _ _ _ (by omega)]) (by rw [u2_ne _ _ _ _ (by omega), u2_ne _ _ _ _ (by omega)]) rfl
    exact ⟨rN_fd hT RL1.1.2 tc (Or.inr (Or.inr (Or.inl ⟨rfl, rfl⟩))) (Or.inl (by unfold cnt cntm; rw [RL1.1.1])) uc ku, rN_fd hT RL2.1.2 tc (Or.inr (Or.inr (Or.inl ⟨rfl, rfl⟩))) (Or.inl (by unfold cnt cntm; rw [RL2.1.1])) uc ku⟩
  refine x_known (kd := 3) (s0 := 27) hT (by decide +kernel) X1 (fun t' s' g' em => (m1s t' s' g' em).2.1) (by rw [c20]; exact b0) (by rw [c20]; exact b1) (fun i hi => by rw [f1 117 i (by omega)]; exact hb i (by rw [← cm1]; exact hi)) (fun t' g' a1 em eo uc ku => ?_) (fun v a q => by rw [ms_15]; show tk_open 27 v a = _; unfold tk_open; rw [if_pos q]) (fun r8 J2 m2 f2 p2 r2 => ⟨r8, J2, L, R, rfl, ?_⟩)
  · obtain ⟨a, ea3, ea4⟩ := om (Or.inr rfl) eo
    subst ea4
    rw [fdm_cg f1]
    exact (fd1 a (hR a ea3) 0 t' uc ku).1
  have f12 : xfr I J2 := xfr_tr f1 f2
  -- what is known of the meaning behind the first NAME
  have hE2 : ∃ e, PEm K P V M0 e J2 ∧ (m2 ≠ none → t + 1 < c ∧ t + 1 < 500 ∧ K (t + 1) = 15 ∧ (J1 107 11).toInt = ((t + 1 : Nat) : Int) ∧ m2 = some (t + 2, 28, gc_st 0 10 g) ∧ r8 = fdm I L (W (t + 1)) 2 ∧ ((∃ u, u ≤ t + 2 ∧ (¬ r8 = -1 → u ≤ t + 1) ∧ e = (u, none)) ∨ (¬ r8 = -1 ∧ ∃ a, rL K V W s t a I L ∧ e = (t + 1, some (27, u2 a 2 7 10))))) := by
    rcases r2 with ⟨r2, -⟩ | ⟨t2, g2, em2, q1, q2, q3, q4, q5, q6, q7⟩
    · subst r2
      exact ⟨(0, none), PE_n (PS_no p2), fun y => absurd rfl y⟩
    · obtain ⟨z1, z2, z3⟩ := m1s t2 27 g2 em2
      subst z1
      have hS := X1.1
      rw [em2] at hS
      have h11 : (J1 107 11).toInt = ((t + 1 : Nat) : Int) := hS.2.2.2.2.1
      rw [fdm_cg f1] at q5
      have em' : m2 = some (t + 2, 28, gc_st 0 10 g) := by rw [q4, z3]; rw [show fw 27 15 = 28 from by decide +kernel]
      by_cases r1' : r8 = -1
      · exact ⟨(t + 2, none), q6 r1', fun _ => ⟨q1, q2, q3, h11, em', q5, Or.inl ⟨t + 2, Nat.le_refl _, fun y => absurd r1' y, rfl⟩⟩⟩
      · have pe := q7 r1'
        cases eo : o with
        | none =>
          rw [eo] at pe
          exact ⟨(t + 1, none), pe, fun _ => ⟨q1, q2, q3, h11, em', q5, Or.inl ⟨t + 1, by omega, fun _ => Nat.le_refl _, rfl⟩⟩⟩
        | some a =>
          rw [eo] at pe
          exact ⟨(t + 1, some (27, u2 a 2 7 10)), pe, fun _ => ⟨q1, q2, q3, h11, em', q5, Or.inr ⟨r1', a, hR a eo, rfl⟩⟩⟩
  obtain ⟨e, hE, E2⟩ := hE2
  refine x_must (i := 11) [] hT rfl p2 hE (fun t' s' g' em => ⟨?_, fun j hj => absurd hj List.not_mem_nil⟩) (fun J3 m3 f3 p3 pe3 r3 => ⟨J3, L, R, rfl, fun z => ?_, fun z => ?_⟩)
  · obtain ⟨-, -, -, -, y5, -⟩ := E2 (by rw [em]; exact Option.some_ne_none _)
    rw [em] at y5
    rw [(mo_i y5).2.1]; decide +kernel
  · -- both NAMES
    have z := PS_le0 p3 z
    rcases r3 with r3 | ⟨t3, s3, g3, em3, v1, v2, v3, v4⟩
    · subst r3; exact absurd z (PS_no p3)
    obtain ⟨u1, u5, u3, h8, y5, y6, y7⟩ := E2 (by rw [em3]; exact Option.some_ne_none _)
    rw [em3] at y5
    obtain ⟨w1, w2, w3⟩ := mo_i y5
    subst w1; subst w2; subst w3
    have v4 : m3 = some (t + 3, 29, gc_st 0 10 g) := by rw [v4, show fw 28 (Int32.ofNat 11) = 29 from by decide +kernel]
    have v3 : K (t + 2) = 11 := v3
    have f13 : xfr I J3 := xfr_tr f12 f3
    have d20 : J3 107 20 = I 107 20 := f13 107 20 (by omega)
    have cm3 : cntm J3 = cntm I := by unfold cntm; rw [d20]
    have n21a := hT.2.2.2.1 (t + 1) u1
    have n21b := hT.2.2.2.1 (t + 2) v1
    have b8 := (x_fb hm L (W (t + 1))).2.2
    rw [← y6] at b8
    have lt8 : ∀ a, rL K V W s t a I L → ¬ r8 = -1 → r8.toInt < (I 122 s).toInt := fun a RL n8 => by
      have q : r8 = -1 ∨ r8.toInt < (I 122 s).toInt := by
        rw [y6]
        exact fm_b (Q := fun r => r = -1 ∨ r.toInt < (I 122 s).toInt) (Or.inl rfl) (cntm I) 0 (fun j _ hj ej => Or.inr (RL.2.2.2.2.2.2.2 j (by omega) ej))
      exact q.resolve_left n8
    -- the checks, from the first on
    have after : ∀ (J : sm_I) (m4 : mo) (r16 : Int32), xfr I J → PSm K P W N c R0 m4 J L → J 107 13 = 0 → m4 = some (t + 4, 30, gc_st 0 10 g) → t + 3 < c → t + 3 < 500 → K (t + 3) = 15 → (J3 107 11).toInt = ((t + 3 : Nat) : Int) → (-1 ≤ r16.toInt ∧ r16.toInt ≤ 9) → ((∃ u, u ≤ t + 2 ∧ (¬ r8 = -1 → u ≤ t + 1) ∧ PEm K P V M0 (u, none) J) ∨ (∃ a, rL K V W s t a I L ∧ ¬ r8 = -1 ∧ a.1 18 r8.toNatClampNeg = -1 ∧ ((r16 = -1 ∧ PWx P M0 4 (t + 3) J) ∨ (¬ r16 = -1 ∧ opN K P V W M0 s t (t + 3) r8 r16 a I L J))) ∨ (∃ a, rL K V W s t a I L ∧ ¬ r8 = -1 ∧ ¬ a.1 18 r8.toNatClampNeg = -1 ∧ M0.1 = some (5, t + 1) ∧ (J 107 15 = 0 ∨ (0 < (J 107 15).toInt ∧ (J 107 16).toInt = P (t + 3))))) → ((vp_in (J 107 19) 2) ∧ ∀ n17 : Int32, n17 = (((240 : Int32) + ((4 : Int32) * (J 107 19))) + (J 134 (J 107 19).toNatClampNeg)) → (((J 107 13) = 0 → ((r8 = (-1 : Int32) → sm_wp sm_P S (d + 4) 198 7 [.ref 107, .int r8, .int (J3 107 11), .int r16, .int n17] [] (xLay, J, L, (kM R)) (0, 0) Φ) ∧ (¬ r8 = (-1 : Int32) → ∀ n18 : Int32, n18 = (((10 : Int32) * (J 107 19)) + r8) → (vp_in n18 20) ∧ (((J 135 n18.toNatClampNeg) = (-1 : Int32) → sm_wp sm_P S (d + 4) 198 7 [.ref 107, .int r8, .int (J3 107 11), .int r16, .int n17] [] (xLay, J, L, (kM R)) (0, 0) Φ) ∧ (¬ (J 135 n18.toNatClampNeg) = (-1 : Int32) → sm_wp sm_P S (d + 3) 213 0 [.ref 107, .int (5 : Int32), .int (J1 107 11)] [] (xLay, J, L, (kM R)) (0, 0) (fun z => ∃ (I19 : sm_I) (L20 : sm_L) (R21 : sm_R), z = (none, (xLay, I19, L20, (kM R21))) ∧ sm_wp sm_P S (d + 4) 198 7 [.ref 107, .int r8, .int (J3 107 11), .int r16, .int n17] [] (xLay, I19, L20, (kM R21)) (0, 0) Φ)))))) ∧ (¬ (J 107 13) = 0 → sm_wp sm_P S (d + 4) 198 7 [.ref 107, .int r8, .int (J3 107 11), .int r16, .int n17] [] (xLay, J, L, (kM R)) (0, 0) Φ))) := by
      intro J m4 r16 fJ pJ zJ em4 c3 c35 k3 h3 b16 Z
      have e19 : J 107 19 = I 107 19 := fJ 107 19 (by omega)
      rw [e19, sn]
      refine ⟨sv, fun n17 e17 => ?_⟩
      have h5 := x5v J n17 fJ (by rw [e19]; exact e17)
      have go : ∀ H : sm_I, xfr I H → PSm K P W N c R0 m4 H L → (PWx P M0 5 (t + 3) H ∨ ∃ a, opN K P V W M0 s t (t + 3) r8 r16 a I L H) → sm_wp sm_P S (d + 4) 198 7 [.ref 107, .int r8, .int (J3 107 11), .int r16, .int n17] [] (xLay, H, L, (kM R)) (0, 0) Φ := fun H fH pH zH => x_open7 (g1 := g) (t3 := t + 3) hT hls hm hI hG hr c3 c35 (by omega) k3 h3 (fun t' s' g' em => by rw [em4] at em; obtain ⟨x1, x2, x3⟩ := mo_i em; exact ⟨x1.symm, x2.symm, x3.symm⟩) h5 b8 b16 fH pH zH h
      refine ⟨fun _ => ⟨fun q => go J fJ pJ ?_, fun q n18 e18 => ?_⟩, fun y => absurd zJ y⟩
      · rcases Z with ⟨u, u1', u2', pe⟩ | ⟨a, RL, n8, -⟩ | ⟨a, RL, n8, -⟩
        · exact Or.inl (PE_W pe (by omega))
        · exact absurd q n8
        · exact absurd q n8
      · have d8 := ml_m1 q
        obtain ⟨x0, hx0⟩ : ∃ x0 : Nat, r8.toInt = x0 := ⟨r8.toNatClampNeg, (kl_nat (by omega)).symm⟩
        have x0n := tk_nat hx0
        have q18 : n18.toInt = ((10 * s + x0 : Nat) : Int) := by rw [e18, ml_ad q10 rfl (by omega) (by omega)]; omega
        have n18n := tk_nat q18
        rw [n18n, fJ 135 _ (by omega)]
        refine ⟨kl_in (by omega) (by omega), fun c1 => go J fJ pJ ?_, fun c1 => ?_⟩
        · rcases Z with ⟨u, u1', u2', pe⟩ | ⟨a, RL, n8, n18', q'⟩ | ⟨a, RL, n8, n18', -⟩
          · exact Or.inl (PE_W pe (by omega))
          · rcases q' with ⟨-, w⟩ | ⟨-, w⟩
            · exact Or.inl (PWx_mo w (by decide))
            · exact Or.inr ⟨a, w⟩
          · rw [x0n] at n18'
            exact absurd ((rO_18 RL.2.2.2.1 (by omega)).mp c1) n18'
        · refine x_wrong (M0 := M0) (t := t + 1) hT (by decide) h8 (by omega) (by omega) pJ (fun _ => ?_) (fun H fH _ pH wH => ⟨H, L, R, rfl, go H (xfr_tr fJ fH) pH (Or.inl (PE_W (K := K) (V := V) (PW_e wH) (by omega)))⟩)
          rcases Z with ⟨u, u1', u2', pe⟩ | ⟨a, RL, n8, n18', q'⟩ | ⟨a, RL, n8, n18', M5, q'⟩
          · exact Or.inl (PE_W pe (u2' q) zJ)
          · rw [x0n] at n18'
            exact absurd ((rO_18 RL.2.2.2.1 (by omega)).mpr n18') c1
          · refine Or.inr ⟨?_, M5⟩
            rcases q' with q' | ⟨q1', q2'⟩
            · exact Or.inl q'
            · exact Or.inr ⟨q1', t + 3, by omega, by omega, q2'⟩
    refine x_knownG (s0 := 29) (e := e) (M0 := M0) (V := V) hT (by decide +kernel) p3 pe3 (fun t' s' g' em => by rw [v4] at em; exact (mo_i em).2.1.symm) (by rw [d20]; exact b0) (by rw [d20]; exact b1) (fun i hi => by rw [f13 117 i (by omega)]; exact hb i (by rw [← cm3]; exact hi)) (fun J4 f4 p4 => ⟨_, J4, L, R, rfl, ?_⟩) (fun J4 m4 t4 g4 f4 p4 pe4 z4 em4 c4 c45 k4 h4 em4' => ?_)
    · -- the grammar fails at the second NAME
      have f14 : xfr I J4 := xfr_tr f13 f4
      have e19 : J4 107 19 = I 107 19 := f14 107 19 (by omega)
      have nz := PS_no p4
      rw [e19, sn]
      refine ⟨sv, fun n17 e17 => ⟨fun y => absurd y nz, fun _ => ?_⟩⟩
      exact x_openF hT hls hm hI hG hr (x5v J4 n17 f14 (by rw [e19]; exact e17)) f14 p4 h
    · rw [v4] at em4
      obtain ⟨x1, x2, x3⟩ := mo_i em4
      subst x1; subst x3
      have f14 : xfr I J4 := xfr_tr f13 f4
      have em4'' : m4 = some (t + 4, 30, gc_st 0 10 g) := by rw [em4', show fw 29 15 = 30 from by decide +kernel]
      have ef : fdm J3 L (W (t + 3)) 2 = fdm I L (W (t + 3)) 2 := fdm_cg f13
      rw [ef]
      have b16 := (x_fb hm L (W (t + 3))).2.2
      have n21c := hT.2.2.2.1 (t + 3) c4
      -- what is known of the meaning here
      have Z0 : (∃ u, u ≤ t + 2 ∧ (¬ r8 = -1 → u ≤ t + 1) ∧ PEm K P V M0 (u, none) J4) ∨ (∃ a, rL K V W s t a I L ∧ ¬ r8 = -1 ∧ a.1 18 r8.toNatClampNeg = -1 ∧ PEm K P V M0 (t + 3, some (29, u2 (u2 a 2 7 10) 2 8 r8)) J4) ∨ (∃ a, rL K V W s t a I L ∧ ¬ r8 = -1 ∧ ¬ a.1 18 r8.toNatClampNeg = -1 ∧ M0.1 = some (5, t + 1) ∧ J4 107 15 = 0) := by
        rcases y7 with ⟨u, w1, w2, we⟩ | ⟨n8, a, RL, we⟩
        · rw [we] at pe4
          exact Or.inl ⟨u, w1, w2, pe4⟩
        · rw [we] at pe4
          have d8 := ml_m1 n8
          obtain ⟨x0, hx0⟩ : ∃ x0 : Nat, r8.toInt = x0 := ⟨r8.toNatClampNeg, (kl_nat (by omega)).symm⟩
          have x0n := tk_nat hx0
          have hf : fd (u2 a 2 7 10) (V (t + 1)) 3 = r8 := by rw [(fd1 a RL 0 (t + 1) u1 u3).1, y6]
          have op := op27 hf n8 hx0 (by omega)
          by_cases c18 : a.1 18 x0 = -1
          · rw [if_neg (show ¬ ¬ a.1 18 x0 = -1 from fun y => y c18)] at op
            have s1 := PE_st (by omega) n21a (by rw [u3]; exact op) pe4
            rw [u3, show fw 27 15 = 28 from by decide +kernel] at s1
            have s2 := PE_st (a' := u2 (u2 a 2 7 10) 2 8 r8) (by omega) n21b (by rw [v3]; rfl) s1
            rw [v3, show fw 28 11 = 29 from by decide +kernel] at s2
            exact Or.inr (Or.inl ⟨a, RL, n8, by rw [x0n]; exact c18, s2⟩)
          · rw [if_pos (show ¬ a.1 18 x0 = -1 from c18)] at op
            obtain ⟨pe1, pe2⟩ := pe4 z4
            exact Or.inr (Or.inr ⟨a, RL, n8, by rw [x0n]; exact c18, ME_f (s := 27) (a := u2 a 2 7 10) (by omega) n21a (by rw [u3]; exact op) (by decide) pe2, pe1⟩)
      refine ⟨fun r16 => ?_, fun r16 => ⟨_, J4, L, R, rfl, after J4 m4 _ f14 p4 z4 em4'' c4 c45 k4 h4 b16 ?_⟩⟩
      · -- the second NAME is not known
        rcases Z0 with ⟨u, w1, w2, pe⟩ | ⟨a, RL, n8, n18', pe⟩ | ⟨a, RL, n8, n18', M5, pe⟩
        · refine x_wrongI hT h4 (by omega) (by omega) p4 (fun zz => ?_) ⟨J4, L, R, rfl, _, J4, L, R, rfl, after J4 m4 _ f14 p4 z4 em4'' c4 c45 k4 h4 b16 (Or.inl ⟨u, w1, w2, pe⟩)⟩
          obtain ⟨x1, j, x2, x3, x4⟩ := pe zz
          exact ⟨x1, j, by omega, x4⟩
        · refine x_wrong (M0 := M0) (t := t + 3) hT (by decide) h4 (by omega) (by omega) p4 (fun zz => ?_) (fun H fH _ pH wH => ⟨H, L, R, rfl, _, H, L, R, rfl, after H m4 _ (xfr_tr f14 fH) pH ?_ em4'' c4 c45 k4 h4 b16 (Or.inr (Or.inl ⟨a, RL, n8, n18', Or.inl ⟨r16, wH⟩⟩))⟩)
          · obtain ⟨pe1, pe2⟩ := pe zz
            refine Or.inr ⟨Or.inl pe1, ME_f (s := 29) (a := u2 (u2 a 2 7 10) 2 8 r8) (a' := u2 (u2 a 2 7 10) 2 8 r8) (by omega) n21c ?_ (by decide) pe2⟩
            rw [k4, ms_15]
            show tk_open 29 (V (t + 3)) _ = _
            unfold tk_open
            rw [(fd1 a RL r8 (t + 3) c4 k4).2, if_pos r16]
          · by_cases y : H 107 13 = 0
            · exact y
            · have em := PS_n0 pH y
              rw [em4''] at em; cases em
        · refine x_wrong0 h4 (by omega) (by omega) p4 z4 pe (fun H fH pH w5 w6 => ⟨H, L, R, rfl, _, H, L, R, rfl, after H m4 _ (xfr_tr f14 fH) pH ?_ em4'' c4 c45 k4 h4 b16 (Or.inr (Or.inr ⟨a, RL, n8, n18', M5, Or.inr ⟨by rw [w5]; decide, w6⟩⟩))⟩)
          by_cases y : H 107 13 = 0
          · exact y
          · have em := PS_n0 pH y
            rw [em4''] at em; cases em
      · rcases Z0 with q | ⟨a, RL, n8, n18', pe⟩ | ⟨a, RL, n8, n18', M5, pe⟩
        · exact Or.inl q
        · exact Or.inr (Or.inl ⟨a, RL, n8, n18', Or.inr ⟨r16, RL, n8, r16, lt8 a RL n8, n18', (fd1 a RL r8 (t + 3) c4 k4).2, pe⟩⟩)
        · exact Or.inr (Or.inr ⟨a, RL, n8, n18', M5, Or.inl pe⟩)
  · have nz : ¬ J3 107 13 = 0 := fun y => z (by rw [y]; decide)
    have em := PS_n0 p3 nz
    subst em
    have f13 : xfr I J3 := xfr_tr f12 f3
    have e19 : J3 107 19 = I 107 19 := f13 107 19 (by omega)
    rw [e19, sn]
    refine ⟨sv, fun n28 e28 => ⟨fun y => absurd y nz, fun _ => ?_⟩⟩
    exact x_openF hT hls hm hI hG hr (x5v J3 n28 f13 (by rw [e19]; exact e28)) f13 p3 h
end
end
