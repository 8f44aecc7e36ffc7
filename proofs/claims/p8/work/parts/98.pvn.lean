/-! tells of the reference, exact: the end of a SAYING -/
/-- a SAYING's name -/
theorem nmY {v : Int64} {a : sg} {kk : Int32} {n : Nat} (hk : a.1 2 7 = kk) (k68 : kk = 6 ∨ kk = 8) (hn : (a.1 12 3).toInt = n) (n9 : n < 10) : nm_kd a = 6 ∧ (nm_add v a).1 11 (cnt a.1) = a.1 12 3 ∧ ∀ p j, p ≠ 10 → p ≠ 11 → ¬ (p = 2 ∧ j = 5) → (nm_add v a).1 p j = if p = 12 ∧ j = 3 then a.1 12 3 + 1 else if p = 12 ∧ j = 6 ∧ kk = 8 then a.1 12 6 ||| ((1 : Int32) <<< (a.1 12 3 &&& 31)) else if p = 22 ∧ j = n then 1 else if p = 23 ∧ j = 4 * n then 1 else a.1 p j := by
  have c10 : (10 : Int32).toInt = 10 := by decide
  have c4 : (4 : Int32).toInt = 4 := by decide
  have ek : nm_kd a = 6 := by
    unfold nm_kd
    rcases k68 with e | e
    · rw [hk, e, if_neg (by decide)]
    · rw [hk, e, if_pos rfl]
  have b12 : ∀ j, (nm_b v a).1 12 j = a.1 12 j := fun j => nm_b_o (by decide)
  have b27 : (nm_b v a).1 2 7 = kk := by rw [nm_b_o (by decide)]; exact hk
  have nn := tk_nat hn
  have m4 : (a.1 12 3 * 4).toInt = ((4 * n : Nat) : Int) := (ml_mu hn c4 (by omega) (by omega)).trans (by omega)
  have nn4 := tk_nat m4
  have nb : nb_new 6 (nm_b v a) = ((sy_new (decide (kk = 8)) (nm_b v a)).1 12 3 - 1, sy_new (decide (kk = 8)) (nm_b v a)) := by
    unfold nb_new
    rw [if_neg (by decide), if_neg (by decide), if_neg (by decide), if_neg (by decide), b27]
  have sy : sy_new (decide (kk = 8)) (nm_b v a) = u2 (u2 (u2 (if decide (kk = 8) = true then u2 (nm_b v a) 12 6 (a.1 12 6 ||| ((1 : Int32) <<< (a.1 12 3 &&& 31))) else nm_b v a) 22 n 1) 23 (4 * n) 1) 12 3 (a.1 12 3 + 1) := by
    unfold sy_new
    rw [b12, b12, if_pos (by rw [kl_lt, c10]; omega), nn, nn4]
  refine ⟨ek, ?_, fun p j p1 p2 p3 => ?_⟩
  · rw [nm_add_11, if_pos rfl, ek, nb]
    show (sy_new (decide (kk = 8)) (nm_b v a)).1 12 3 - 1 = _
    rw [sy, u2_eq]; exact i32_a1 _
  · rw [nm_add_o p1 p2 p3, ek, nb]
    show (sy_new (decide (kk = 8)) (nm_b v a)).1 p j = _
    rw [sy]
    by_cases c1 : p = 12 ∧ j = 3
    · rw [if_pos c1, c1.1, c1.2, u2_eq]
    · rw [if_neg c1, u2_ne _ _ _ _ c1]
      by_cases c2 : p = 12 ∧ j = 6 ∧ kk = 8
      · rw [if_pos c2, c2.1, c2.2.1, u2_ne _ _ _ _ (by omega), u2_ne _ _ _ _ (by omega), if_pos (decide_eq_true c2.2.2), u2_eq]
      · rw [if_neg c2]
        by_cases c3 : p = 22 ∧ j = n
        · rw [if_pos c3, c3.1, c3.2, u2_ne _ _ _ _ (by omega), u2_eq]
        · rw [if_neg c3]
          by_cases c4 : p = 23 ∧ j = 4 * n
          · rw [if_pos c4, c4.1, c4.2, u2_eq]
          · rw [if_neg c4, u2_ne _ _ _ _ c4, u2_ne _ _ _ _ c3]
            by_cases c5 : kk = 8
            · rw [if_pos (decide_eq_true c5), u2_ne _ _ _ _ (fun q => c2 ⟨q.1, q.2, c5⟩), nm_b_o p1]
            · rw [if_neg (by rw [decide_eq_false c5]; decide), nm_b_o p1]
section
variable {K : Nat → Int32} {P : Nat → Nat} {V W : Nat → Int64} {N : Nat → Int32} {c : Nat} {R0 : Option (Int32 × Nat)} {M0 : Option (Int32 × Nat) × sg}
variable {S : sm_C} {d : Nat} {Φ : sm_Z → Prop} {I : sm_I} {L : sm_L} {R : sm_R} {m : mo} {o : Option sg} {l s t n : Nat} {g : gc}
theorem x_hn2 {u : Nat} {a : sg} {J : sm_I} (hT : TS K P V W N c) (f : J 107 20 = I 107 20) (hR : rL K V W s t a I L) (tc : t ≤ c) (k : Int32) (uc : u < c) (ku : K u = 15) (b : (I 107 20).toInt < 35) : ((∃ i, i < cntm J ∧ L 115 i = W u) ↔ twc (u2 a 2 7 k).2 (V u) (cnt (u2 a 2 7 k).1) 0 = true) ∧ ¬ 35 ≤ (u2 a 2 7 k).1 2 5 := by
  have ec : cnt (u2 a 2 7 k).1 = cntm J := by unfold cnt cntm; rw [u2_ne _ _ _ _ (by omega), hR.1.1, f]
  have ecI : cntm J = cntm I := by unfold cntm; rw [f]
  refine ⟨?_, fun q => ?_⟩
  · rw [ec, ecI]
    exact rN_tw hT hR.1.2 tc uc ku
  · rw [u2_ne _ _ _ _ (by omega), hR.1.1] at q
    have q := kl_le.mp q
    rw [show (35 : Int32).toInt = 35 from by decide] at q
    omega
/-- what the header of a SAYING has told -/
def hdA (V : Nat → Int64) (kk : Int32) (tn n : Nat) (x : Int32) (a A : sg) : Prop := A.2 = (nm_add (V tn) (u2 a 2 7 kk)).2 ∧ (∀ p j, p ≠ 2 → ¬ (p = 21 ∧ j = n) → A.1 p j = (nm_add (V tn) (u2 a 2 7 kk)).1 p j) ∧ A.1 2 5 = (nm_add (V tn) (u2 a 2 7 kk)).1 2 5 ∧ A.1 2 7 = kk ∧ A.1 21 n = x
theorem x_sayT {Jh J24 : sm_I} {m3 : mo} {o3 : Option sg} {kk x1 x8 v6 x7 : Int32} (hT : TS K P V W N c) (hls : ml_ls l s) (hm : en_mem ml_tb mlX (xLay, I, L, R)) (hI : ml_TI l s I) (hG : rG s g I) (tc : t ≤ c) (tx0 : tx K P W N c I L) (hn : (I 125 s).toInt = n) (n9 : n < 10) (k68 : (kk = 6 ∧ v6 = 0) ∨ (kk = 8 ∧ v6 = 1)) (h1 : x1.toInt = ((10 * s + n : Nat) : Int)) (hfr : ∀ p j, ¬ ((p = 126 ∨ p = 127) ∧ j = 10 * s + n) → ¬ (p = 107 ∧ (j = 11 ∨ j = 13 ∨ j = 14 ∨ j = 15 ∨ j = 16)) → Jh p j = I p j) (e126 : Jh 126 (10 * s + n) = v6) (e127 : Jh 127 (10 * s + n) = x7) (X3 : PX K P V W N c R0 M0 m3 o3 Jh L) (r3 : ∀ t' s' g', m3 = some (t', s', g') → t + 1 < t' ∧ s' = 17 ∧ g' = gc_st 0 kk g ∧ t + 1 < c ∧ t + 1 < 500 ∧ K (t + 1) = 15 ∧ x8.toInt = ((t + 1 : Nat) : Int) ∧ ∀ A, o3 = some A → ∃ a, rL K V W s t a I L ∧ hdA V kk (t + 1) n x7 a A) (e24 : J24 = sm_up Jh 128 (10 * s + n) 0) (h : ∀ (J : sm_I) (L' : sm_L), TP K P V W N c R0 M0 s t J L' → Φ (none, (xLay, J, L', kM R))) : sm_wp sm_P S (d + 6) 200 10 [.ref 107, .int x1, .int x8, .int (1 : Int32)] [] (xLay, J24, L, kM R) (0, 0) Φ := by
  obtain ⟨hl1, hs1⟩ := ml_l1 hls
  obtain ⟨sn, sv⟩ := ml_sn hls hI
  have bc := ml_cs hs1 hm
  have b34 := x_34 hs1 hm
  obtain ⟨⟨b0, b1⟩, hb⟩ := x_b117 hm
  have bs : (I 107 20).toInt ≤ ml_sum I s := hI.2.2.1
  unfold ml_sum at bs
  have b49 := ml_nm49 hls hI hm
  have kk68 : kk = 6 ∨ kk = 8 := by rcases k68 with q | q; exact Or.inl q.1; exact Or.inr q.1
  have kk15 : kk.toInt < 15 := by rcases kk68 with q | q <;> rw [q] <;> decide
  have kk12 : kk ≠ 12 := by rcases kk68 with q | q <;> rw [q] <;> decide
  have gwk : gw kk = 6 := by rcases kk68 with q | q <;> rw [q] <;> decide
  have kn := tk_nat hn
  have o24 : ∀ p j, ¬ ((p = 126 ∨ p = 127 ∨ p = 128) ∧ j = 10 * s + n) → ¬ (p = 107 ∧ (j = 11 ∨ j = 13 ∨ j = 14 ∨ j = 15 ∨ j = 16)) → J24 p j = I p j := fun p j h1 h2 => by rw [e24, en_up_ne _ _ _ _ (by omega)]; exact hfr p j (by omega) h2
  have X24 : PX K P V W N c R0 M0 m3 o3 J24 L := by rw [e24]; exact PX_up (by decide) (by omega) X3
  have z128 : (J24 128 (10 * s + n)).toInt = 0 := by rw [e24, en_up_eq]; decide
  have d20 : J24 107 20 = I 107 20 := o24 107 20 (by omega) (by omega)
  have f116 : ∀ j, J24 116 j = I 116 j ∧ J24 117 j = I 117 j := fun j => ⟨o24 116 j (by omega) (by omega), o24 117 j (by omega) (by omega)⟩
  have cm : cntm J24 = cntm I := by unfold cntm; rw [d20]
  have efd : ∀ nm so, fdm J24 L nm so = fdm I L nm so := fun nm so => by unfold fdm; rw [cm, fm_cg f116]
  cases em3 : m3 with
  | none =>
    subst em3
    have nz := PS_no X24.1
    refine u_X12_tellSaying_10 ⟨fun q => absurd q (by decide), fun _ => ⟨fun q => absurd q nz, fun _ => ?_⟩⟩
    refine x_must (i := 17) [] hT rfl X24.1 (e := (0, none)) (M0 := M0) (V := V) (PE_n nz) (fun t' s' g' em => by cases em) (fun J4 m4 f4 X4 _ r4 => ⟨J4, L, R, rfl, fun z4 => ?_, fun z4 => ?_⟩)
    · exfalso
      rcases r4 with r4 | ⟨t4, s4, g4, em4, -⟩
      · subst r4; exact PS_no X4 (PS_le0 X4 z4)
      · cases em4
    · have em := PS_n0 X4 (fun y => z4 (by rw [y]; decide))
      subst em
      exact h J4 L ⟨none, none, PX_F X4, Or.inl rfl⟩
  | some mq =>
  obtain ⟨t3, s3, g3⟩ := mq
  obtain ⟨T1, T2, T3, u1, u5, u3, h8, y8⟩ := r3 t3 s3 g3 em3
  -- what is known of the header
  have hdr : ∀ A, o3 = some A → ∃ a, rL K V W s t a I L ∧ hdA V kk (t + 1) n x7 a A ∧ (nm_kd (u2 a 2 7 kk) = 6 ∧ (nm_add (V (t + 1)) (u2 a 2 7 kk)).1 11 (cnt (u2 a 2 7 kk).1) = I 125 s) ∧ ∀ p j, p ≠ 10 → p ≠ 11 → p ≠ 2 → (nm_add (V (t + 1)) (u2 a 2 7 kk)).1 p j = if p = 12 ∧ j = 3 then I 125 s + 1 else if p = 12 ∧ j = 6 ∧ kk = 8 then a.1 12 6 ||| ((1 : Int32) <<< (I 125 s &&& 31)) else if p = 22 ∧ j = n then 1 else if p = 23 ∧ j = 4 * n then 1 else a.1 p j := fun A ea => by
    obtain ⟨a, RL, hA⟩ := y8 A ea
    have ef : a.1 12 3 = I 125 s := RL.2.1.2.2.2.1
    have u12 : ∀ j, (u2 a 2 7 kk).1 12 j = a.1 12 j := fun j => u2_ne _ _ _ _ (by omega)
    obtain ⟨Y1, Y2, Y3⟩ := nmY (v := V (t + 1)) (a := u2 a 2 7 kk) (kk := kk) (n := n) (u2_eq _ _ _ _) kk68 (by rw [u12, ef]; exact hn) n9
    rw [u12, ef] at Y2
    refine ⟨a, RL, hA, ⟨Y1, Y2⟩, fun p j p1 p2 p3 => ?_⟩
    rw [Y3 p j p1 p2 (by omega), u12, u12, ef, u2_ne _ _ _ _ (by omega)]
  refine x_say10 (I0 := J24) (A := o3.getD (fun _ _ => 0, fun _ => 0)) (s := s) (n := n) (t0 := t + 1) (tl := kk) (ts := (gc_st 0 kk g).tells) hT h1 hs1 n9 (by rw [d20]; exact b0) (by rw [d20]; exact b1) (fun j hj => by rw [(f116 j).2]; exact hb j (by rw [← cm]; exact hj)) (fun nm => by rw [efd]; exact (x_fb hm L nm).2.2) kk12 (∃ A, o3 = some A) (fun hq => ?_) (fun J m' o' XJ frJ rJ => ⟨fun z => ?_, fun z => ?_⟩) (fun J pJ => h J L ⟨none, none, PX_F pJ, Or.inl rfl⟩) 4 J24 1 m3 o3 X24 (fun _ _ _ _ _ _ => rfl) (fun _ => ?_) (fun y => absurd y (by decide))
  · obtain ⟨A, ea⟩ := hq
    obtain ⟨a, RL, hA, ⟨Y1, Y2⟩, Y3⟩ := hdr A ea
    rw [ea]
    show (∀ {u : Nat} {b : sg}, u < c → K u = 15 → b.2 = A.2 → (∀ j, b.1 10 j = A.1 10 j ∧ b.1 11 j = A.1 11 j) → b.1 2 5 = A.1 2 5 → fd b (V u) 3 = fdm J24 L (W u) 2) ∧ (A.1 12 3).toInt = (n : Int) + 1 ∧ A.1 2 7 ≠ 12
    refine ⟨fun {u b} uc ku w1 w2 w3 => ?_, ?_, by rw [hA.2.2.2.1]; exact kk12⟩
    · rw [efd]
      exact x_pend (k := kk) (v := V (t + 1)) hT xfr_rf RL tc b0 (by omega) (by rw [Y1]; decide) (Or.inr (Or.inr (Or.inl ⟨rfl, rfl⟩))) (by rw [w1, hA.1]) (fun i => by rw [(w2 i).1, hA.2.1 10 i (by decide) (by omega)]) (fun i => by rw [(w2 i).2, hA.2.1 11 i (by decide) (by omega)]) (by rw [w3, hA.2.2.1]) uc ku
    · rw [hA.2.1 12 3 (by decide) (by omega), Y3 12 3 (by decide) (by decide) (by decide), if_pos ⟨rfl, rfl⟩]
      have := ml_in1 (x := I 125 s) (by omega)
      omega
  · -- the end
    have z := PS_le0 XJ.1 z
    rcases rJ with rJ | ⟨t', g', em', w1, w2, w3, w4, w5, w6⟩
    · rw [rJ] at XJ; exact absurd z (PS_no XJ.1)
    have ft : ∀ p j, ¬ ((p = 126 ∨ p = 127 ∨ p = 128) ∧ j = 10 * s + n) → ¬ (p = 129 ∧ 4 * (10 * s + n) ≤ j ∧ j < 4 * (10 * s + n) + 4) → ¬ (130 ≤ p ∧ p ≤ 133 ∧ 12 * (10 * s + n) ≤ j ∧ j < 12 * (10 * s + n) + 12) → ¬ (p = 107 ∧ (j = 11 ∨ j = 13 ∨ j = 14 ∨ j = 15 ∨ j = 16)) → J p j = I p j := fun p j p1 p2 p3 p4 => by rw [frJ p j (by omega) p2 p3 p4]; exact o24 p j p1 p4
    have k126 : J 126 (10 * s + n) = v6 := by rw [frJ 126 _ (by omega) (by omega) (by omega) (by omega), e24, en_up_ne _ _ _ _ (by omega)]; exact e126
    have k127 : J 127 (10 * s + n) = x7 := by rw [frJ 127 _ (by omega) (by omega) (by omega) (by omega), e24, en_up_ne _ _ _ _ (by omega)]; exact e127
    have g19 : J 107 19 = I 107 19 := ft 107 19 (by omega) (by omega) (by omega) (by omega)
    have g20 : J 107 20 = I 107 20 := ft 107 20 (by omega) (by omega) (by omega) (by omega)
    have g125 : J 125 s = I 125 s := ft 125 s (by omega) (by omega) (by omega) (by omega)
    have ecm : cntm J = cntm I := by unfold cntm; rw [g20]
    rw [g19, sn]
    refine ⟨sv, fun n5 e5 => ?_⟩
    rw [g125] at e5
    refine x_knows (t := t + 1) h8 (by omega) (by rw [g20]; exact b0) (by rw [g20]; exact b49) XJ (fun J6 L6 e6J e6L X6 => ⟨J6, L6, R, rfl, ?_⟩)
    rw [ecm] at e6J e6L
    have o6 : ∀ p j, ¬ ((p = 116 ∨ p = 117) ∧ j = cntm I) → ¬ (p = 107 ∧ j = 20) → J6 p j = J p j := fun p j h1 h2 => by rw [e6J, en_up_ne _ _ _ _ (by omega), en_up_ne _ _ _ _ (by omega), en_up_ne _ _ _ _ (by omega)]
    have s6 : J6 107 19 = I 107 19 := by rw [o6 107 19 (by omega) (by omega)]; exact g19
    rw [s6, sn]
    refine ⟨sv, fun n10 e10 => ⟨sv, fun J7 e7 => h J7 L6 ⟨m', o', ?_, Or.inr ⟨t', g', em', by omega, ?_, fun a' ea => ?_⟩⟩⟩⟩
    · rw [e7]; exact PX_up (by decide) (by omega) X6
    all_goals
      have o7J : ∀ p j, ¬ ((p = 116 ∨ p = 117) ∧ j = cntm I) → ¬ (p = 125 ∧ j = s) → p ≠ 107 → J7 p j = J p j := fun p j h1 h2 h3 => by rw [e7, en_up_ne _ _ _ _ h2, o6 p j h1 (by omega)]
      have o7 : ∀ p j, ¬ ((p = 116 ∨ p = 117) ∧ j = cntm I) → ¬ (p = 125 ∧ j = s) → p ≠ 107 → ¬ ((p = 126 ∨ p = 127 ∨ p = 128) ∧ j = 10 * s + n) → ¬ (p = 129 ∧ 4 * (10 * s + n) ≤ j ∧ j < 4 * (10 * s + n) + 4) → ¬ (130 ≤ p ∧ p ≤ 133 ∧ 12 * (10 * s + n) ≤ j ∧ j < 12 * (10 * s + n) + 12) → J7 p j = I p j := fun p j h1 h2 h3 h4 h5 h6 => by rw [o7J p j h1 h2 h3, ft p j h4 h5 h6 (by omega)]
      have r7 : J7 125 s = I 125 s + 1 := by rw [e7, en_up_eq, e10, o6 125 s (by omega) (by omega), g125]
      have r7i : (J7 125 s).toInt = (I 125 s).toInt + 1 := by rw [r7]; exact ml_in1 (by omega)
    · unfold rG
      obtain ⟨G1, G2, G3, G4, G5, G6, G7⟩ := hG
      rw [w2]
      refine ⟨?_, ?_, ?_, ?_, ?_, ?_, ?_⟩
      · rw [o7 118 s (by omega) (by omega) (by decide) (by omega) (by omega) (by omega), gc0_t kk15, if_neg (by rw [gwk]; decide)]; exact G1
      · rw [o7 119 s (by omega) (by omega) (by decide) (by omega) (by omega) (by omega), gc0_t kk15, if_neg (by rw [gwk]; decide)]; exact G2
      · rw [o7 120 s (by omega) (by omega) (by decide) (by omega) (by omega) (by omega), gc0_t kk15, if_neg (by rw [gwk]; decide)]; exact G3
      · rw [o7 122 s (by omega) (by omega) (by decide) (by omega) (by omega) (by omega), gc0_t kk15, if_neg (by rw [gwk]; decide)]; exact G4
      · rw [r7i, gc0_t kk15, if_pos (by rw [gwk])]; omega
      · rw [o7 134 s (by omega) (by omega) (by decide) (by omega) (by omega) (by omega), gc0_t kk15, if_neg (by rw [gwk]; decide)]; exact G6
      · rw [o7 136 s (by omega) (by omega) (by decide) (by omega) (by omega) (by omega), gc0_t kk15, if_neg (by rw [gwk]; decide)]; exact G7
    · obtain ⟨⟨A, eA⟩, RF⟩ := w6 a' ea
      rw [eA] at RF
      have RF : rF s n g'.alls A a' J := RF
      obtain ⟨a, RL, hA, ⟨Y1, Y2⟩, Y3⟩ := hdr A eA
      obtain ⟨⟨R5, RN⟩, RC, RT, RO, RW, RS, RQ, RB⟩ := RL
      obtain ⟨⟨F1, F2, F3⟩, F4, F5⟩ := RF
      have u12 : ∀ j, (u2 a 2 7 kk).1 12 j = a.1 12 j := fun j => u2_ne _ _ _ _ (by omega)
      -- cells that neither the name nor the choices touch
      have B : ∀ p j, p ≠ 2 → p ≠ 10 → p ≠ 11 → ¬ (p = 12 ∧ (j = 3 ∨ j = 6)) → ¬ (p = 21 ∧ j = n) → ¬ (p = 22 ∧ j = n) → ¬ (p = 23 ∧ 4 * n ≤ j ∧ j < 4 * n + 4) → ¬ (25 ≤ p ∧ p ≤ 28 ∧ 12 * n ≤ j ∧ j < 12 * n + 12) → a'.1 p j = a.1 p j := fun p j q1 q2 q3 q4 q5 q6 q7 q8 => by
        rw [F2 p j q1 q6 q7 q8, hA.2.1 p j q1 q5, Y3 p j q2 q3 q1, if_neg (by omega), if_neg (by omega), if_neg (by omega), if_neg (by omega)]
      have eW : L 113 (t + 1) = W (t + 1) := (tx0.2 (t + 1) u1 (by omega)).2
      refine ⟨?_, ?_, ?_, ?_, ?_, ?_, ?_, ?_⟩
      · have q := rN_new (a := u2 a 2 7 kk) (I := I) (J := J7) (L' := L6) (t := t) (t' := t') (u := t + 1) (W := W) (so := 3) (x := I 125 s) (L := L) (by rw [u2_ne _ _ _ _ (by omega)]; exact R5) b0 (by omega) (rN_cg RN t (Nat.le_refl _) (fun i _ => ⟨rfl, u2_ne _ _ _ _ (by omega), u2_ne _ _ _ _ (by omega)⟩) (fun i _ => ⟨rfl, rfl, rfl⟩)) (by omega) (by omega) u3 (by rw [Y1]; exact Or.inr (Or.inr (Or.inr (Or.inl ⟨rfl, rfl⟩)))) Y2 (by rw [e7, en_up_ne _ _ _ _ (by omega), e6J, en_up_eq, g20]) (by rw [e7, en_up_ne _ _ _ _ (by omega), e6J, en_up_ne _ _ _ _ (by omega), en_up_ne _ _ _ _ (by omega), en_up_eq]) (by rw [e7, en_up_ne _ _ _ _ (by omega), e6J, en_up_ne _ _ _ _ (by omega), en_up_eq, e5]) (fun i hi => ⟨o7 116 i (by omega) (by omega) (by decide) (by omega) (by omega) (by omega), o7 117 i (by omega) (by omega) (by decide) (by omega) (by omega) (by omega)⟩) (by rw [e6L, en_up_eq, eW]) (fun i hi => by rw [e6L, en_up_ne _ _ _ _ (by omega)])
        refine ⟨by rw [F3, hA.2.2.1]; exact q.1, rN_cg q.2 t' (Nat.le_refl _) (fun i _ => ⟨by rw [F1, hA.1], by rw [F2 10 i (by decide) (by omega) (by omega) (by omega), hA.2.1 10 i (by decide) (by omega)], by rw [F2 11 i (by decide) (by omega) (by omega) (by omega), hA.2.1 11 i (by decide) (by omega)]⟩) (fun i _ => ⟨rfl, rfl, rfl⟩)⟩
      · unfold rC
        refine ⟨?_, ?_, ?_, ?_, ?_⟩
        · rw [B 12 0 (by omega) (by omega) (by omega) (by omega) (by omega) (by omega) (by omega) (by omega), o7 118 s (by omega) (by omega) (by decide) (by omega) (by omega) (by omega)]; exact RC.1
        · rw [B 12 1 (by omega) (by omega) (by omega) (by omega) (by omega) (by omega) (by omega) (by omega), o7 119 s (by omega) (by omega) (by decide) (by omega) (by omega) (by omega)]; exact RC.2.1
        · rw [B 12 2 (by omega) (by omega) (by omega) (by omega) (by omega) (by omega) (by omega) (by omega), o7 122 s (by omega) (by omega) (by decide) (by omega) (by omega) (by omega)]; exact RC.2.2.1
        · rw [F2 12 3 (by decide) (by omega) (by omega) (by omega), hA.2.1 12 3 (by decide) (by omega), Y3 12 3 (by decide) (by decide) (by decide), if_pos ⟨rfl, rfl⟩, r7]
        · rw [B 12 4 (by omega) (by omega) (by omega) (by omega) (by omega) (by omega) (by omega) (by omega), o7 136 s (by omega) (by omega) (by decide) (by omega) (by omega) (by omega)]; exact RC.2.2.2.2
      · exact rT_cg RT (fun c' j hc => B c' j (by omega) (by omega) (by omega) (by omega) (by omega) (by omega) (by omega) (by omega)) (fun p j hp => o7 p j (by omega) (by omega) (by omega) (by omega) (by omega) (by omega))
      · exact rO_cg RO b34.2 (fun c' j h1 h2 => B c' j (by omega) (by omega) (by omega) (by omega) (by omega) (by omega) (by omega) (by omega)) (by rw [o7 122 s (by omega) (by omega) (by decide) (by omega) (by omega) (by omega)]; exact Int.le_refl _) (o7 134 s (by omega) (by omega) (by decide) (by omega) (by omega) (by omega)) (fun j => o7 135 j (by omega) (by omega) (by decide) (by omega) (by omega) (by omega)) (fun p j h1 h2 _ _ => o7 p j (by omega) (by omega) (by omega) (by omega) (by omega) (by omega))
      · exact rW_cg RW (fun j => B 13 j (by omega) (by omega) (by omega) (by omega) (by omega) (by omega) (by omega) (by omega)) (fun j => o7 121 j (by omega) (by omega) (by decide) (by omega) (by omega) (by omega))
      · refine ⟨fun i hi => ⟨fun q => ?_, fun q => ?_⟩, ?_⟩
        · rw [r7i] at q
          by_cases ci : i = n
          · subst ci
            have e8 : J7 128 (10 * s + i) = J 128 (10 * s + i) := o7J 128 _ (by omega) (by omega) (by decide)
            refine ⟨?_, ?_, ?_, ?_, fun q' hq => ?_⟩
            · rw [F2 21 i (by decide) (by omega) (by omega) (by omega), hA.2.2.2.2, o7J 127 _ (by omega) (by omega) (by decide), k127]
            · rw [e8]; exact en_ofI (by rw [F4, w3])
            · rw [e8, w3]; omega
            · rw [e8, w3]; omega
            · rw [e8, w3] at hq
              exact rA_cg (F5 q' (by omega)) hi (by omega) (fun _ _ _ _ _ _ => rfl) rfl (o7J 129 _ (by omega) (by omega) (by decide)) (fun p j p1 p2 _ _ => o7J p j (by omega) (by omega) (by omega))
          · exact rY_cg ((RS.1 i hi).1 (by omega)) hi (B 21 i (by omega) (by omega) (by omega) (by omega) (by omega) (by omega) (by omega) (by omega)) (B 22 i (by omega) (by omega) (by omega) (by omega) (by omega) (by omega) (by omega) (by omega)) (fun j j1 j2 => B 23 j (by omega) (by omega) (by omega) (by omega) (by omega) (by omega) (by omega) (by omega)) (fun c' j c1 c2 j1 j2 => B c' j (by omega) (by omega) (by omega) (by omega) (by omega) (by omega) (by omega) (by omega)) (o7 127 _ (by omega) (by omega) (by decide) (by omega) (by omega) (by omega)) (o7 128 _ (by omega) (by omega) (by decide) (by omega) (by omega) (by omega)) (fun j j1 j2 => o7 129 _ (by omega) (by omega) (by decide) (by omega) (by omega) (by omega)) (fun p j p1 p2 j1 j2 => o7 p _ (by omega) (by omega) (by omega) (by omega) (by omega) (by omega))
        · rw [r7i] at q
          have q0 := (RS.1 i hi).2 (by omega)
          refine ⟨by rw [B 21 i (by omega) (by omega) (by omega) (by omega) (by omega) (by omega) (by omega) (by omega)]; exact q0.1, fun q' hq => by rw [B 23 _ (by omega) (by omega) (by omega) (by omega) (by omega) (by omega) (by omega) (by omega)]; exact q0.2 q' hq⟩
        · have e1 : (J7 125 s).toNatClampNeg = n + 1 := tk_nat (by rw [r7i]; omega)
          rw [e1, F2 12 6 (by decide) (by omega) (by omega) (by omega), hA.2.1 12 6 (by decide) (by omega), Y3 12 6 (by decide) (by decide) (by decide), if_neg (by omega)]
          have S0 := RS.2
          rw [kn] at S0
          have cgS : sb (fun i => J7 126 (10 * s + i)) n = a.1 12 6 := by
            rw [S0]
            exact sb_cg n (fun i hi => o7 126 _ (by omega) (by omega) (by decide) (by omega) (by omega) (by omega))
          have k7 : J7 126 (10 * s + n) = v6 := by rw [o7J 126 _ (by omega) (by omega) (by decide)]; exact k126
          have eI : I 125 s = Int32.ofNat n := en_ofI (by rw [hn, Int32.toInt_ofNat_of_lt (by omega)])
          show _ = (if J7 126 (10 * s + n) = 0 then sb (fun i => J7 126 (10 * s + i)) n else sb (fun i => J7 126 (10 * s + i)) n ||| ((1 : Int32) <<< (Int32.ofNat n &&& 31)))
          rw [cgS, k7]
          rcases k68 with ⟨q1, q2⟩ | ⟨q1, q2⟩
          · rw [if_neg (fun y => by rw [q1] at y; exact absurd y.2.2 (by decide)), if_neg (by omega), if_neg (by omega), if_pos q2]
          · rw [if_pos ⟨rfl, rfl, q1⟩, if_neg (by rw [q2]; decide), eI]
      · exact rQ_cg RQ (fun c' j h1 h2 => B c' j (by omega) (by omega) (by omega) (by omega) (by omega) (by omega) (by omega) (by omega)) (fun p j hp => o7 p j (by omega) (by omega) (by omega) (by omega) (by omega) (by omega))
      · exact rB_new (so := 3) (x := I 125 s) RB b0 (by omega) (by rw [e7, en_up_ne _ _ _ _ (by omega), e6J, en_up_eq, g20]) (by rw [e7, en_up_ne _ _ _ _ (by omega), e6J, en_up_ne _ _ _ _ (by omega), en_up_ne _ _ _ _ (by omega), en_up_eq]) (by rw [e7, en_up_ne _ _ _ _ (by omega), e6J, en_up_ne _ _ _ _ (by omega), en_up_eq, e5]) (fun i hi => ⟨o7 116 i (by omega) (by omega) (by decide) (by omega) (by omega) (by omega), o7 117 i (by omega) (by omega) (by decide) (by omega) (by omega) (by omega)⟩) (by rw [o7 122 s (by omega) (by omega) (by decide) (by omega) (by omega) (by omega)]; exact Int.le_refl _) (fun y => absurd y (by decide))
  · have em := PS_n0 XJ.1 (fun y => z (by rw [y]; decide))
    exact h J L ⟨m', o', XJ, Or.inl em⟩
  · refine Or.inr ⟨t3, g3, by rw [em3, T2], by omega, by rw [T3]; exact gc0_l kk15, by rw [T3], by rw [z128, T3, (gc0_a kk15).1]; rfl, by rw [T3, (gc0_a kk15).1]; omega, by rw [T3]; exact (gc0_a kk15).2, by rw [T3, (gc0_a kk15).1]; omega, fun A ea => ⟨⟨A, ea⟩, ?_⟩⟩
    obtain ⟨a, RL, hA, ⟨Y1, Y2⟩, Y3⟩ := hdr A ea
    rw [ea, T3, (gc0_a kk15).1]
    show rH s n (1 - 1) 1 0 A A J24
    refine ⟨⟨rfl, fun _ _ _ _ _ _ => rfl, rfl, rfl⟩, ?_, ?_, fun q' q1 q2 => ?_, fun q' hq => absurd hq (Nat.not_lt_zero q'), fun p hp => absurd hp (Nat.not_lt_zero p)⟩
    · rw [hA.2.1 22 n (by decide) (by omega), Y3 22 n (by decide) (by decide) (by decide), if_neg (by omega), if_neg (by omega), if_pos ⟨rfl, rfl⟩]; decide
    · rw [hA.2.1 23 _ (by decide) (by omega), Y3 23 _ (by decide) (by decide) (by decide), if_neg (by omega), if_neg (by omega), if_neg (by omega), if_pos ⟨rfl, by omega⟩]; decide
    · rw [hA.2.1 23 _ (by decide) (by omega), Y3 23 _ (by decide) (by decide) (by decide), if_neg (by omega), if_neg (by omega), if_neg (by omega), if_neg (by omega)]
      exact ((RL.2.2.2.2.2.1.1 n n9).2 (by omega)).2 q' q2
end
