/-! oneMore, lays, gives -/
theorem ml_lv {w : sm_W} (hm : en_mem ml_tb mlX w) : mlV w.2.1 (w.2.1 107 18).toNatClampNeg := hm.2.2.2.2.2.2.1 _ (ml_live hm).2.2.1
theorem mx_oneMore1 {S : sm_C} {d : Nat} {Φ : sm_Z → Prop} {w0 : sm_W} {x1 x2 : Int32} (b1 : 0 ≤ x1.toInt ∧ x1.toInt ≤ 3) (b2 : 0 ≤ x2.toInt ∧ x2.toInt ≤ 5) (hΦ : ∀ (I : sm_I) (L : sm_L) (R : sm_R), en_mem ml_tb mlX (xLay, I, L, R) → en_fr ml_SW w0 (xLay, I, L, R) → I 107 63 = 0 → Φ (none, (xLay, I, L, kM R))) : ∀ (m : Nat) (I : sm_I) (L : sm_L) (R : sm_R) (x3 : Int32), en_mem ml_tb mlX (xLay, I, L, R) → en_fr ml_SW w0 (xLay, I, L, R) → 0 ≤ x3.toInt → x3.toInt ≤ 10 → (I 107 67).toInt ≤ x3.toInt → 10 - x3.toInt < m → sm_wp sm_P S (d + 1) 170 1 [.ref 107, .int x1, .int x2, .int x3] [] (xLay, I, L, kM R) (0, 0) Φ := by
  intro m
  induction m with
  | zero => intro I L R x3 hm hf h0 h1 he hM; omega
  | succ m ih =>
    intro I L R x3 hm hf h0 h1 he hM
    obtain ⟨l0, l1, ln, lc⟩ := ml_live hm
    have l0 : 0 ≤ (I 107 18).toInt := l0
    have l1 : (I 107 18).toInt ≤ 1 := l1
    have ln : ((I 107 18).toNatClampNeg : Int) = (I 107 18).toInt := ln
    have bt : 0 ≤ (I 122 (I 107 18).toNatClampNeg).toInt ∧ (I 122 (I 107 18).toNatClampNeg).toInt ≤ 10 := ml_row hm (p := 122) (n := 2) (q := (0, 10)) (fun _ => rfl) _ (by omega)
    have be : 0 ≤ (I 107 67).toInt ∧ (I 107 67).toInt ≤ 10 := hm.2.1 107 67 (0, 10) (by decide +kernel)
    have c10 : (10 : Int32).toInt = 10 := by decide
    have c6 : (6 : Int32).toInt = 6 := by decide
    refine u_X12_oneMore_1 ⟨kl_in l0 (by omega), fun _ => ?_, fun a n11 e11 => ?_⟩
    · refine ml_ci (c := mlc_10) mlh_10 (Nat.zero_le _) ⟨⟨rfl, rfl⟩, trivial⟩ hm ml_pf0 rfl (fun r I1 L1 R1 r0 r1 m1 f1 => ?_)
      refine ml_cv (c := mlc_9) mlh_9 (Nat.zero_le _) ⟨⟨rfl, rfl⟩, ⟨rfl, en_crange.1, en_crange.2⟩, trivial⟩ m1 ml_pf0 rfl (fun I4 L4 R4 m4 f4 I7 e7 I8 e8 => ?_)
      refine hΦ I8 L4 R4 ?_ ?_ ?_
      · rw [e8, e7]
        exact ml_wf (ml_wf m4 (by decide +kernel) (q := (0, 1001)) (by decide +kernel) (by decide)) (by decide +kernel) (q := (0, 1)) (by decide +kernel) (by decide)
      · rw [e8, e7]
        exact ml_fr (ml_fr (ml_frt (ml_frt hf f1 (by decide +kernel)) f4 (by decide +kernel)) (by decide +kernel)) (by decide)
      · rw [e8, en_up_ne _ _ _ _ (by omega), e7, en_up_eq]
    · have a := kl_nle a
      have n3 := kl_nat h0
      have s := ml_in1 (x := x3) (by omega)
      have e1 : ((10 : Int32) * I 107 18).toInt = 10 * (I 107 18).toInt := ml_mu c10 rfl (by omega) (by omega)
      have e2 : n11.toInt = 10 * (I 107 18).toInt + x3.toInt := by rw [e11]; exact ml_ad e1 rfl (by omega) (by omega)
      have nn := kl_nat (i := n11) (by omega)
      have v : vp_in n11 20 := kl_in (by omega) (by omega)
      have go : sm_wp sm_P S (d + 1) 170 1 [.ref 107, .int x1, .int x2, .int (x3 + 1)] [] (xLay, I, L, kM R) (0, 0) Φ := ih I L R _ hm hf (by omega) (by omega) (by omega) (by omega)
      refine ⟨v, fun p1 => ⟨v, fun _ => go, fun p2 => ⟨kl_in be.1 (by omega), fun I12 e12 => ?_⟩⟩, fun _ => go⟩
      have V := (ml_lv hm).1 x3.toNatClampNeg (by rw [n3]; exact a) (by
        show (I 123 (10 * (I 107 18).toNatClampNeg + x3.toNatClampNeg)).toInt ≠ -1
        rw [show 10 * (I 107 18).toNatClampNeg + x3.toNatClampNeg = n11.toNatClampNeg by omega, p1]; omega)
      have V : 0 ≤ (I 124 n11.toNatClampNeg).toInt := by
        rw [show n11.toNatClampNeg = 10 * (I 107 18).toNatClampNeg + x3.toNatClampNeg by omega]; exact V
      have bp : -1 ≤ (I 124 n11.toNatClampNeg).toInt ∧ (I 124 n11.toNatClampNeg).toInt ≤ 5 := ml_row hm (p := 124) (n := 20) (q := (-1, 5)) (fun _ => rfl) _ (by omega)
      have o12 : ∀ p j, p ≠ 151 → I12 p j = I p j := fun p j h => by rw [e12, en_up_ne _ _ _ _ (fun c => h c.1)]
      have m12 : en_mem ml_tb mlX (xLay, I12, L, R) := by
        rw [e12]
        exact ml_we2 hm rfl (n := 10) (q := (0, 9)) rfl (by show 0 ≤ _ ∧ _ ≤ (9 : Int); omega)
      refine ⟨v, fun n13 e13 => ?_⟩
      rw [o12 _ _ (by decide)] at e13
      have q1 : ((6 : Int32) * I 124 n11.toNatClampNeg).toInt = 6 * (I 124 n11.toNatClampNeg).toInt := ml_mu c6 rfl (by omega) (by omega)
      have q2 : n13.toInt = 6 * (I 124 n11.toNatClampNeg).toInt + x2.toInt := by rw [e13]; exact ml_ad q1 rfl (by omega) (by omega)
      refine ⟨kl_in (by omega) (by omega), by rw [o12 _ _ (by decide)]; exact kl_in be.1 (by omega), fun I14 e14 I15 e15 => ?_⟩
      have m14 : en_mem ml_tb mlX (xLay, I14, L, R) := by
        rw [e14]
        exact ml_we2 m12 rfl (n := 10) (q := (-2147483648, 2147483647)) rfl en_crange
      have g14 : I14 107 67 = I 107 67 := by rw [e14, en_up_ne _ _ _ _ (fun c => absurd c.1 (by decide)), o12 _ _ (by decide)]
      have s67 : (I 107 67 + 1).toInt = (I 107 67).toInt + 1 := ml_in1 (by omega)
      have g15 : I15 107 67 = I 107 67 + 1 := by rw [e15, g14, en_up_eq]
      refine ih I15 L R _ ?_ ?_ (by omega) (by omega) (by rw [g15]; omega) (by omega)
      · rw [e15, g14]
        exact ml_wf m14 (by decide +kernel) (q := (0, 10)) (by decide +kernel) (by show 0 ≤ _ ∧ _ ≤ (10 : Int); omega)
      · rw [e15]
        refine ml_fr ?_ (by decide)
        rw [e14]
        refine ml_fr ?_ rfl
        rw [e12]
        exact ml_fr hf rfl
theorem mx_oneMore {S : sm_C} {d : Nat} {Φ : sm_Z → Prop} {w0 : sm_W} {x1 x2 : Int32} (b1 : 0 ≤ x1.toInt ∧ x1.toInt ≤ 3) (b2 : 0 ≤ x2.toInt ∧ x2.toInt ≤ 5) {I : sm_I} {L : sm_L} {R : sm_R} (hm : en_mem ml_tb mlX (xLay, I, L, R)) (hf : en_fr ml_SW w0 (xLay, I, L, R)) (hΦ : ∀ (I : sm_I) (L : sm_L) (R : sm_R), en_mem ml_tb mlX (xLay, I, L, R) → en_fr ml_SW w0 (xLay, I, L, R) → I 107 63 = 0 → Φ (none, (xLay, I, L, kM R))) : sm_wp sm_P S (d + 1) 170 0 [.ref 107, .int x1, .int x2] [] (xLay, I, L, kM R) (0, 0) Φ := by
  refine u_X12_oneMore_0 (fun I1 e1 I2 e2 => ?_)
  refine mx_oneMore1 b1 b2 hΦ 11 I2 L R 0 ?_ ?_ (by decide) (by decide) ?_ (by decide)
  · rw [e2, e1]
    exact ml_wf (ml_wf (ml_wf hm (by decide +kernel) (q := (0, 1)) (by decide +kernel) (by decide)) (by decide +kernel) (q := (-2147483648, 2147483647)) (by decide +kernel) (by decide)) (by decide +kernel) (q := (0, 10)) (by decide +kernel) (by decide)
  · rw [e2, e1]
    exact ml_fr (ml_fr (ml_fr hf (by decide +kernel)) (by decide +kernel)) (by decide)
  · rw [e2, en_up_eq]; decide
theorem mlh_11 {Sc : sm_C} : en_hold ml_tb mlX sm_P Sc mlc_11 := by
  intro d hd vs w hv hm _
  obtain ⟨vs1, rfl, hv1⟩ := kl_vr (q := 107) rfl hv
  obtain ⟨x1, vs2, rfl, b1, hv2⟩ := kl_vi hv1
  obtain ⟨x2, vs3, rfl, b2, hv3⟩ := kl_vi hv2
  obtain rfl := kl_v0 hv3
  have hd : 3 ≤ d := hd
  obtain ⟨d, rfl⟩ : ∃ d', d = d' + 1 := ⟨d - 1, by omega⟩
  refine ml_top hm (fun I L R hw hm => ?_)
  exact mx_oneMore b1 b2 hm en_fr_rf (fun I2 L2 R2 m f _ => ⟨none, I2, L2, R2, rfl, rfl, m, f⟩)
theorem mx_lays3 {S : sm_C} {d : Nat} {Φ : sm_Z → Prop} {w0 : sm_W} {x1 : Int32} (hd : 4 ≤ d) (b1 : 0 ≤ x1.toInt ∧ x1.toInt ≤ 999) (hΦ : ∀ (r : Int32) (I : sm_I) (L : sm_L) (R : sm_R), 0 ≤ r.toInt → r.toInt ≤ 1 → en_mem ml_tb mlX (xLay, I, L, R) → en_fr ml_SW w0 (xLay, I, L, R) → Φ (some (.int r), (xLay, I, L, kM R))) : ∀ (m : Nat) (I : sm_I) (L : sm_L) (R : sm_R) (x3 : Int32), en_mem ml_tb mlX (xLay, I, L, R) → en_fr ml_SW w0 (xLay, I, L, R) → 0 ≤ x3.toInt → (I 107 59).toInt - x3.toInt ≤ m → sm_wp sm_P S (d + 1) 156 3 [.ref 107, .int x1, .int x3] [] (xLay, I, L, kM R) (0, 0) Φ := by
  intro m
  induction m with
  | zero =>
    intro I L R x3 hm hf h0 hM
    refine u_X12_lays_3 ⟨fun _ => hΦ _ I L R (by decide) (by decide) hm hf, fun a => ?_⟩
    have := kl_nle a
    omega
  | succ m ih =>
    intro I L R x3 hm hf h0 hM
    have bi : 0 ≤ (I 107 59).toInt ∧ (I 107 59).toInt ≤ 70 := hm.2.1 107 59 (0, 70) (by decide +kernel)
    have c55 : (55 : Int32).toInt = 55 := by decide
    refine u_X12_lays_3 ⟨fun _ => hΦ _ I L R (by decide) (by decide) hm hf, fun a => ?_⟩
    have a := kl_nle a
    have n3 := kl_nat h0
    have s := ml_in1 (x := x3) (by omega)
    have e1 : ((55 : Int32) * x1).toInt = 55 * x1.toInt := ml_mu c55 rfl (by omega) (by omega)
    have e2 : ((55 : Int32) * x1 + x3).toInt = 55 * x1.toInt + x3.toInt := ml_ad e1 rfl (by omega) (by omega)
    have ne := kl_nat (i := (55 : Int32) * x1 + x3) (by omega)
    have bo : 0 ≤ (I 148 x3.toNatClampNeg).toInt ∧ (I 148 x3.toNatClampNeg).toInt ≤ 69 := ml_row hm (p := 148) (n := 70) (q := (0, 69)) (fun _ => rfl) _ (by omega)
    have bw : 0 ≤ (I 153 ((55 : Int32) * x1 + x3).toNatClampNeg).toInt ∧ (I 153 ((55 : Int32) * x1 + x3).toNatClampNeg).toInt ≤ 3 := ml_row hm (p := 153) (n := 55100) (q := (0, 3)) (fun _ => rfl) _ (by omega)
    refine ⟨kl_in h0 (by omega), kl_in (by omega) (by omega), fun n1 en1 => ?_⟩
    refine ml_chooses hd hm bo.1 bo.2 (hm.2.2.2.2.2.1 _ (by omega)) (by rw [en1]; exact bw.1) (by rw [en1]; exact bw.2) (fun r I2 L2 R2 r0 r1 m2 f2 => ?_)
    have hf2 : en_fr ml_SW w0 (xLay, I2, L2, R2) := ml_frt hf f2 (by decide +kernel)
    have g2 : I2 107 59 = I 107 59 := ml_g f2 rfl
    exact ⟨fun _ => hΦ _ I2 L2 R2 (by decide) (by decide) m2 hf2, fun _ => ih I2 L2 R2 _ m2 hf2 (by omega) (by rw [g2]; omega)⟩
theorem mlh_18 {Sc : sm_C} : en_hold ml_tb mlX sm_P Sc mlc_18 := by
  intro d hd vs w hv hm _
  obtain ⟨vs1, rfl, hv1⟩ := kl_vr (q := 107) rfl hv
  obtain ⟨x1, vs2, rfl, b1, hv2⟩ := kl_vi hv1
  obtain ⟨x2, vs3, rfl, b2, hv3⟩ := kl_vi hv2
  obtain rfl := kl_v0 hv3
  have hd : 7 ≤ d := hd
  obtain ⟨d, rfl⟩ : ∃ d', d = d' + 1 := ⟨d - 1, by omega⟩
  refine ml_top hm (fun I L R hw hm => ?_)
  have fin : ∀ (r : Int32) (I2 : sm_I) (L2 : sm_L) (R2 : sm_R), 0 ≤ r.toInt → r.toInt ≤ 1 → en_mem ml_tb mlX (xLay, I2, L2, R2) → en_fr ml_SW (xLay, I, L, R) (xLay, I2, L2, R2) → ∃ (o : Option Value) (I3 : sm_I) (L3 : sm_L) (R3 : sm_R), ((some (.int r) : Option Value), ((xLay, I2, L2, kM R2) : sm_W)) = (o, (xLay, I3, L3, kM R3)) ∧ en_pr mlc_18.2.2.2.1 o ∧ en_mem ml_tb mlX (xLay, I3, L3, R3) ∧ en_fr mlc_18.2.2.2.2.1 (xLay, I, L, R) (xLay, I3, L3, R3) := fun r I2 L2 R2 a b m f => ⟨_, I2, L2, R2, rfl, Or.inl ⟨rfl, a, b⟩, m, f⟩
  have h01 : x2 = 0 ∨ x2 = 1 := by
    rcases ml_i3 b2.1 (by omega) with e | e | e | e
    · exact Or.inl e
    · exact Or.inr e
    · subst e; exact absurd b2.2 (by decide)
    · subst e; exact absurd b2.2 (by decide)
  refine u_X12_lays_0 ⟨h01, fun I1 e1 I2 e2 => ?_⟩
  have m2 : en_mem ml_tb mlX (xLay, I2, L, R) := by
    rw [e2, e1]
    exact ml_wf (ml_wf (ml_wf hm (by decide +kernel) (q := (0, 1)) (by decide +kernel) b2) (by decide +kernel) (q := (-2147483648, 2147483647)) (by decide +kernel) (by decide)) (by decide +kernel) (q := (0, 10)) (by decide +kernel) (by decide)
  have f2 : en_fr ml_SW (xLay, I, L, R) (xLay, I2, L, R) := by
    rw [e2, e1]
    exact ml_fr (ml_fr (ml_fr en_fr_rf (by decide +kernel)) (by decide +kernel)) (by decide)
  refine ml_ci (c := mlc_10) mlh_10 (Nat.zero_le _) ⟨⟨rfl, rfl⟩, trivial⟩ m2 ml_pf0 rfl (fun r I3 L3 R3 r0 r1 m3 f3 => ?_)
  refine ml_cv (c := mlc_9) mlh_9 (Nat.zero_le _) ⟨⟨rfl, rfl⟩, ⟨rfl, en_crange.1, en_crange.2⟩, trivial⟩ m3 ml_pf0 rfl (fun I4 L4 R4 m4 f4 => ?_)
  obtain ⟨l0, l1, ln, lc⟩ := ml_live m4
  have l0 : 0 ≤ (I4 107 18).toInt := l0
  have l1 : (I4 107 18).toInt ≤ 1 := l1
  have ln : ((I4 107 18).toNatClampNeg : Int) = (I4 107 18).toInt := ln
  have bt : 0 ≤ (I4 122 (I4 107 18).toNatClampNeg).toInt ∧ (I4 122 (I4 107 18).toNatClampNeg).toInt ≤ 10 := ml_row m4 (p := 122) (n := 2) (q := (0, 10)) (fun _ => rfl) _ (by omega)
  refine ⟨kl_in l0 (by omega), fun n9 e9 => ?_⟩
  have s9 : n9.toInt = (I4 122 (I4 107 18).toNatClampNeg).toInt + 1 := by rw [e9]; exact ml_in1 (by omega)
  refine ml_ci (c := mlc_5) mlh_5 (by show 4 ≤ d; omega) ⟨⟨rfl, rfl⟩, ⟨rfl, (by omega : (1 : Int) ≤ n9.toInt), (by omega : n9.toInt ≤ (12 : Int))⟩, trivial⟩ m4 ml_pf0 rfl (fun r5 I5 L5 R5 q0 q1 m5 f5 => ?_)
  have hf5 : en_fr ml_SW (xLay, I, L, R) (xLay, I5, L5, R5) := ml_frt (ml_frt (ml_frt f2 f3 (by decide +kernel)) f4 (by decide +kernel)) f5 (by decide)
  refine ⟨fun _ => fin _ _ _ _ (by decide) (by decide) m5 hf5, fun _ => ?_⟩
  refine ml_cv (c := mlc_8) mlh_8 (Nat.zero_le _) ⟨⟨rfl, rfl⟩, ⟨rfl, by decide, by decide⟩, ⟨rfl, by decide, by decide⟩, trivial⟩ m5 ml_pf0 rfl (fun I6 L6 R6 m6 f6 I7 e7 => ?_)
  have m7 : en_mem ml_tb mlX (xLay, I7, L6, R6) := by
    rw [e7]
    exact ml_wf m6 (by decide +kernel) (q := (0, 70)) (by decide +kernel) (by decide)
  have bi : 0 ≤ (I7 107 59).toInt ∧ (I7 107 59).toInt ≤ 70 := m7.2.1 107 59 (0, 70) (by decide +kernel)
  exact mx_lays3 (by omega) b1 fin 70 I7 L6 R6 0 m7 (by rw [e7]; exact ml_fr (ml_frt hf5 f6 (by decide +kernel)) (by decide +kernel)) (by decide) (by rw [kl_0]; omega)
theorem ml_half {x y : Int32} (h0 : 0 ≤ x.toInt) (h1 : x.toInt < y.toInt) (h2 : y.toInt ≤ 1441) : ((x + y) / (2 : Int32)).toInt = (x.toInt + y.toInt) / 2 := by
  have c2 : (2 : Int32).toInt = 2 := by decide
  have s : (x + y).toInt = x.toInt + y.toInt := ml_ad rfl rfl (by omega) (by omega)
  rw [Int32.toInt_div, s, c2, Int.tdiv_eq_ediv_of_nonneg (by omega)]
  exact en_bmod (by omega) (by omega) (Or.inl rfl)
theorem mx_gives1 {S : sm_C} {d : Nat} {Φ : sm_Z → Prop} {w0 : sm_W} (hd : mlc_21.2.2.2.2.2 ≤ d) (hΦ : ∀ (r : Int32) (I : sm_I) (L : sm_L) (R : sm_R), en_mem ml_tb mlX (xLay, I, L, R) → en_fr ml_SW w0 (xLay, I, L, R) → Φ (some (.int r), (xLay, I, L, kM R))) : ∀ (m : Nat) (I : sm_I) (L : sm_L) (R : sm_R) (x2 x3 : Int32), en_mem ml_tb mlX (xLay, I, L, R) → en_fr ml_SW w0 (xLay, I, L, R) → 0 ≤ x2.toInt → x2.toInt ≤ x3.toInt → x3.toInt ≤ 1441 → x3.toInt - x2.toInt < m → sm_wp sm_P S (d + 1) 131 1 [.ref 107, .int x2, .int x3] [] (xLay, I, L, kM R) (0, 0) Φ := by
  intro m
  induction m with
  | zero => intro I L R x2 x3 hm hf h0 h1 h2 hM; omega
  | succ m ih =>
    intro I L R x2 x3 hm hf h0 h1 h2 hM
    refine u_X12_gives_1 ⟨fun _ => hΦ _ I L R hm hf, fun a => ⟨by decide, fun I1 e1 => ?_⟩⟩
    have a := kl_nle a
    have hh := ml_half h0 a h2
    have m1 : en_mem ml_tb mlX (xLay, I1, L, R) := by
      rw [e1]
      exact ml_wf hm (by decide +kernel) (q := (0, 1441)) (by decide +kernel) (by show 0 ≤ _ ∧ _ ≤ (1441 : Int); omega)
    refine ml_ci (c := mlc_10) mlh_10 (Nat.zero_le _) ⟨⟨rfl, rfl⟩, trivial⟩ m1 ml_pf0 rfl (fun r I2 L2 R2 r0 r1 m2 f2 => ?_)
    refine ml_ci (c := mlc_21) mlh_21 hd ⟨⟨rfl, rfl⟩, ⟨rfl, en_crange.1, en_crange.2⟩, trivial⟩ m2 ml_pf0 rfl (fun r3 I3 L3 R3 q0 q1 m3 f3 => ?_)
    have hf3 : en_fr ml_SW w0 (xLay, I3, L3, R3) := ml_frt (ml_frt (by rw [e1]; exact ml_fr hf (by decide +kernel)) f2 (by decide +kernel)) f3 (by decide)
    refine ⟨fun _ => ⟨fun _ n8 e8 => ?_, fun _ => ?_⟩, fun _ => hΦ _ _ _ _ m3 hf3⟩
    · have s8 : n8.toInt = (x2.toInt + x3.toInt) / 2 + 1 := by rw [e8, ml_in1 (by omega), hh]
      exact ih I3 L3 R3 n8 x3 m3 hf3 (by omega) (by omega) h2 (by omega)
    · exact ih I3 L3 R3 x2 _ m3 hf3 h0 (by omega) (by omega) (by omega)
theorem mlh_42 {Sc : sm_C} : en_hold ml_tb mlX sm_P Sc mlc_42 := by
  intro d hd vs w hv hm _
  obtain ⟨vs1, rfl, hv1⟩ := kl_vr (q := 107) rfl hv
  obtain ⟨x1, vs2, rfl, b1, hv2⟩ := kl_vi hv1
  obtain rfl := kl_v0 hv2
  have hd : 10 ≤ d := hd
  obtain ⟨d, rfl⟩ : ∃ d', d = d' + 1 := ⟨d - 1, by omega⟩
  refine ml_top hm (fun I L R hw hm => ?_)
  refine u_X12_gives_0 (fun I1 e1 => ?_)
  refine mx_gives1 (by show mlc_21.2.2.2.2.2 ≤ d; exact Nat.le_trans (by decide : _ ≤ 9) (by omega)) (fun r I2 L2 R2 m f => ⟨_, I2, L2, R2, rfl, Or.inl ⟨rfl, en_crange.1, en_crange.2⟩, m, f⟩) 1442 I1 L R 0 1441 ?_ ?_ (by decide) (by decide) (by decide) (by decide)
  · rw [e1]
    exact ml_wf (ml_wf hm (by decide +kernel) (q := (-2147483648, 2147483647)) (by decide +kernel) en_crange) (by decide +kernel) (q := (0, 10)) (by decide +kernel) (by decide)
  · rw [e1]
    exact ml_fr (ml_fr en_fr_rf (by decide +kernel)) (by decide)
