/-! the reference's contracts with what was gone through (wip/pe/mkYm.py) -/
section
variable {c48 : Nat → Int64}
theorem ml_lvY {w : sm_W} (hm : en_mem ml_tb2 (mlY c48) w) : mlV w.2.1 (w.2.1 107 18).toNatClampNeg := hm.2.2.2.2.2.2.1 _ (ml_liveY hm).2.2.1
theorem mx_oneMore1Y {S : sm_C} {d : Nat} {Φ : sm_Z → Prop} {w0 : sm_W} {x1 x2 : Int32} (b1 : 0 ≤ x1.toInt ∧ x1.toInt ≤ 3) (b2 : 0 ≤ x2.toInt ∧ x2.toInt ≤ 5) (hΦ : ∀ (I : sm_I) (L : sm_L) (R : sm_R), en_mem ml_tb2 (mlY c48) (xLay, I, L, R) → en_fr ml_SW w0 (xLay, I, L, R) → I 107 63 = 0 → Φ (none, (xLay, I, L, kM R))) : ∀ (m : Nat) (I : sm_I) (L : sm_L) (R : sm_R) (x3 : Int32), en_mem ml_tb2 (mlY c48) (xLay, I, L, R) → en_fr ml_SW w0 (xLay, I, L, R) → 0 ≤ x3.toInt → x3.toInt ≤ 10 → (I 107 67).toInt ≤ x3.toInt → 10 - x3.toInt < m → sm_wp sm_P S (d + 1) 170 1 [.ref 107, .int x1, .int x2, .int x3] [] (xLay, I, L, kM R) (0, 0) Φ := by
  intro m
  induction m with
  | zero => intro I L R x3 hm hf h0 h1 he hM; omega
  | succ m ih =>
    intro I L R x3 hm hf h0 h1 he hM
    obtain ⟨l0, l1, ln, lc⟩ := ml_liveY hm
    have l0 : 0 ≤ (I 107 18).toInt := l0
    have l1 : (I 107 18).toInt ≤ 1 := l1
    have ln : ((I 107 18).toNatClampNeg : Int) = (I 107 18).toInt := ln
    have bt : 0 ≤ (I 122 (I 107 18).toNatClampNeg).toInt ∧ (I 122 (I 107 18).toNatClampNeg).toInt ≤ 10 := ml_rowY hm (p := 122) (n := 2) (q := (0, 10)) (fun _ => rfl) _ (by omega)
    have be : 0 ≤ (I 107 67).toInt ∧ (I 107 67).toInt ≤ 10 := hm.2.1 107 67 (0, 10) (by decide +kernel)
    have c10 : (10 : Int32).toInt = 10 := by decide
    have c6 : (6 : Int32).toInt = 6 := by decide
    refine u_X12_oneMore_1 ⟨kl_in l0 (by omega), fun _ => ?_, fun a n11 e11 => ?_⟩
    · refine ml_ciY (c := mlc_10) mly_10 (Nat.zero_le _) ⟨⟨rfl, rfl⟩, trivial⟩ hm ml_pf0 rfl (fun r I1 L1 R1 r0 r1 m1 f1 => ?_)
      refine ml_cvY (c := mlc_9) mly_9 (Nat.zero_le _) ⟨⟨rfl, rfl⟩, ⟨rfl, en_crange.1, en_crange.2⟩, trivial⟩ m1 ml_pf0 rfl (fun I4 L4 R4 m4 f4 I7 e7 I8 e8 => ?_)
      refine hΦ I8 L4 R4 ?_ ?_ ?_
      · rw [e8, e7]
        exact ml_wfY (ml_wfY m4 (by decide +kernel) (q := (0, 1001)) (by decide +kernel) (by decide)) (by decide +kernel) (q := (0, 1)) (by decide +kernel) (by decide)
      · rw [e8, e7]
        exact ml_fr (ml_fr (ml_frt (ml_frt hf f1 (by decide +kernel)) f4 (by decide +kernel)) (by decide +kernel)) (by decide)
      · rw [e8, en_up_ne _ _ _ _ (by omega), e7, en_up_eq]
    · have a := kl_nle a
      have n3 := kl_nat h0
      have s := ml_in1 (x := x3) (by omega)
      have e1 : ((10 : Int32) * I 107 18).toInt = 10 * (I 107 18).toInt := ml_mu c10 rfl (by omega) (by omega)
      have e2 : n11.toInt = 10 * (I 107 18).toInt + x3.toInt := by rw [e11]; exact ml_ad e1 rfl (by omega) (by omega)
      have nn := kl_nat (i := n11) (by omega)
      have v : vp_in n11 20 := kl_in (by omega) (by omega)
      have go : sm_wp sm_P S (d + 1) 170 1 [.ref 107, .int x1, .int x2, .int (x3 + 1)] [] (xLay, I, L, kM R) (0, 0) Φ := ih I L R _ hm hf (by omega) (by omega) (by omega) (by omega)
      refine ⟨v, fun p1 => ⟨v, fun _ => go, fun p2 => ⟨kl_in be.1 (by omega), fun I12 e12 => ?_⟩⟩, fun _ => go⟩
      have V := (ml_lvY hm).1 x3.toNatClampNeg (by rw [n3]; exact a) (by
        show (I 123 (10 * (I 107 18).toNatClampNeg + x3.toNatClampNeg)).toInt ≠ -1
        rw [show 10 * (I 107 18).toNatClampNeg + x3.toNatClampNeg = n11.toNatClampNeg by omega, p1]; omega)
      have V : 0 ≤ (I 124 n11.toNatClampNeg).toInt := by
        rw [show n11.toNatClampNeg = 10 * (I 107 18).toNatClampNeg + x3.toNatClampNeg by omega]; exact V
      have bp : -1 ≤ (I 124 n11.toNatClampNeg).toInt ∧ (I 124 n11.toNatClampNeg).toInt ≤ 5 := ml_rowY hm (p := 124) (n := 20) (q := (-1, 5)) (fun _ => rfl) _ (by omega)
      have o12 : ∀ p j, p ≠ 151 → I12 p j = I p j := fun p j h => by rw [e12, en_up_ne _ _ _ _ (fun c => h c.1)]
      have m12 : en_mem ml_tb2 (mlY c48) (xLay, I12, L, R) := by
        rw [e12]
        exact ml_we2Y hm rfl (n := 10) (q := (0, 9)) rfl (by show 0 ≤ _ ∧ _ ≤ (9 : Int); omega)
      refine ⟨v, fun n13 e13 => ?_⟩
      rw [o12 _ _ (by decide)] at e13
      have q1 : ((6 : Int32) * I 124 n11.toNatClampNeg).toInt = 6 * (I 124 n11.toNatClampNeg).toInt := ml_mu c6 rfl (by omega) (by omega)
      have q2 : n13.toInt = 6 * (I 124 n11.toNatClampNeg).toInt + x2.toInt := by rw [e13]; exact ml_ad q1 rfl (by omega) (by omega)
      refine ⟨kl_in (by omega) (by omega), by rw [o12 _ _ (by decide)]; exact kl_in be.1 (by omega), fun I14 e14 I15 e15 => ?_⟩
      have m14 : en_mem ml_tb2 (mlY c48) (xLay, I14, L, R) := by
        rw [e14]
        exact ml_we2Y m12 rfl (n := 10) (q := (-2147483648, 2147483647)) rfl en_crange
      have g14 : I14 107 67 = I 107 67 := by rw [e14, en_up_ne _ _ _ _ (fun c => absurd c.1 (by decide)), o12 _ _ (by decide)]
      have s67 : (I 107 67 + 1).toInt = (I 107 67).toInt + 1 := ml_in1 (by omega)
      have g15 : I15 107 67 = I 107 67 + 1 := by rw [e15, g14, en_up_eq]
      refine ih I15 L R _ ?_ ?_ (by omega) (by omega) (by rw [g15]; omega) (by omega)
      · rw [e15, g14]
        exact ml_wfY m14 (by decide +kernel) (q := (0, 10)) (by decide +kernel) (by show 0 ≤ _ ∧ _ ≤ (10 : Int); omega)
      · rw [e15]
        refine ml_fr ?_ (by decide)
        rw [e14]
        refine ml_fr ?_ rfl
        rw [e12]
        exact ml_fr hf rfl
theorem mx_oneMoreY {S : sm_C} {d : Nat} {Φ : sm_Z → Prop} {w0 : sm_W} {x1 x2 : Int32} (b1 : 0 ≤ x1.toInt ∧ x1.toInt ≤ 3) (b2 : 0 ≤ x2.toInt ∧ x2.toInt ≤ 5) {I : sm_I} {L : sm_L} {R : sm_R} (hm : en_mem ml_tb2 (mlY c48) (xLay, I, L, R)) (hf : en_fr ml_SW w0 (xLay, I, L, R)) (hΦ : ∀ (I : sm_I) (L : sm_L) (R : sm_R), en_mem ml_tb2 (mlY c48) (xLay, I, L, R) → en_fr ml_SW w0 (xLay, I, L, R) → I 107 63 = 0 → Φ (none, (xLay, I, L, kM R))) : sm_wp sm_P S (d + 1) 170 0 [.ref 107, .int x1, .int x2] [] (xLay, I, L, kM R) (0, 0) Φ := by
  refine u_X12_oneMore_0 (fun I1 e1 I2 e2 => ?_)
  refine mx_oneMore1Y b1 b2 hΦ 11 I2 L R 0 ?_ ?_ (by decide) (by decide) ?_ (by decide)
  · rw [e2, e1]
    exact ml_wfY (ml_wfY (ml_wfY hm (by decide +kernel) (q := (0, 1)) (by decide +kernel) (by decide)) (by decide +kernel) (q := (-2147483648, 2147483647)) (by decide +kernel) (by decide)) (by decide +kernel) (q := (0, 10)) (by decide +kernel) (by decide)
  · rw [e2, e1]
    exact ml_fr (ml_fr (ml_fr hf (by decide +kernel)) (by decide +kernel)) (by decide)
  · rw [e2, en_up_eq]; decide
theorem mly_11 {Sc : sm_C} : en_hold ml_tb2 (mlY c48) sm_P Sc mlc_11 := by
  intro d hd vs w hv hm _
  obtain ⟨vs1, rfl, hv1⟩ := kl_vr (q := 107) rfl hv
  obtain ⟨x1, vs2, rfl, b1, hv2⟩ := kl_vi hv1
  obtain ⟨x2, vs3, rfl, b2, hv3⟩ := kl_vi hv2
  obtain rfl := kl_v0 hv3
  have hd : 3 ≤ d := hd
  obtain ⟨d, rfl⟩ : ∃ d', d = d' + 1 := ⟨d - 1, by omega⟩
  refine ml_topY hm (fun I L R hw hm => ?_)
  exact mx_oneMoreY b1 b2 hm en_fr_rf (fun I2 L2 R2 m f _ => ⟨none, I2, L2, R2, rfl, rfl, m, f⟩)
theorem mx_lays3Y {S : sm_C} {d : Nat} {Φ : sm_Z → Prop} {w0 : sm_W} {x1 : Int32} (hd : 4 ≤ d) (b1 : 0 ≤ x1.toInt ∧ x1.toInt ≤ 999) (hΦ : ∀ (r : Int32) (I : sm_I) (L : sm_L) (R : sm_R), 0 ≤ r.toInt → r.toInt ≤ 1 → en_mem ml_tb2 (mlY c48) (xLay, I, L, R) → en_fr ml_SW w0 (xLay, I, L, R) → Φ (some (.int r), (xLay, I, L, kM R))) : ∀ (m : Nat) (I : sm_I) (L : sm_L) (R : sm_R) (x3 : Int32), en_mem ml_tb2 (mlY c48) (xLay, I, L, R) → en_fr ml_SW w0 (xLay, I, L, R) → 0 ≤ x3.toInt → (I 107 59).toInt - x3.toInt ≤ m → sm_wp sm_P S (d + 1) 156 3 [.ref 107, .int x1, .int x3] [] (xLay, I, L, kM R) (0, 0) Φ := by
  intro m
  induction m with
  | zero =>
    intro I L R x3 hm hf h0 hM
    refine u_X12_lays_3 ⟨fun _ => hΦ _ I L R (by decide) (by decide) hm hf, fun a => ?_⟩
    have := kl_nle a
    omega
  | succ m ih =>
    intro I L R x3 hm hf h0 hM
    have bi : 0 ≤ (I 107 59).toInt ∧ (I 107 59).toInt ≤ 70 := hm.2.1 107 59 (0, 70) (by decide +kernel)
    have c55 : (55 : Int32).toInt = 55 := by decide
    refine u_X12_lays_3 ⟨fun _ => hΦ _ I L R (by decide) (by decide) hm hf, fun a => ?_⟩
    have a := kl_nle a
    have n3 := kl_nat h0
    have s := ml_in1 (x := x3) (by omega)
    have e1 : ((55 : Int32) * x1).toInt = 55 * x1.toInt := ml_mu c55 rfl (by omega) (by omega)
    have e2 : ((55 : Int32) * x1 + x3).toInt = 55 * x1.toInt + x3.toInt := ml_ad e1 rfl (by omega) (by omega)
    have ne := kl_nat (i := (55 : Int32) * x1 + x3) (by omega)
    have bo : 0 ≤ (I 148 x3.toNatClampNeg).toInt ∧ (I 148 x3.toNatClampNeg).toInt ≤ 69 := ml_rowY hm (p := 148) (n := 70) (q := (0, 69)) (fun _ => rfl) _ (by omega)
    have bw : 0 ≤ (I 153 ((55 : Int32) * x1 + x3).toNatClampNeg).toInt ∧ (I 153 ((55 : Int32) * x1 + x3).toNatClampNeg).toInt ≤ 3 := ml_rowY hm (p := 153) (n := 55100) (q := (0, 3)) (fun _ => rfl) _ (by omega)
    refine ⟨kl_in h0 (by omega), kl_in (by omega) (by omega), fun n1 en1 => ?_⟩
    refine ml_choosesY hd hm bo.1 bo.2 (hm.2.2.2.2.2.1 _ (by omega)) (by rw [en1]; exact bw.1) (by rw [en1]; exact bw.2) (fun r I2 L2 R2 r0 r1 m2 f2 => ?_)
    have hf2 : en_fr ml_SW w0 (xLay, I2, L2, R2) := ml_frt hf f2 (by decide +kernel)
    have g2 : I2 107 59 = I 107 59 := ml_g f2 rfl
    exact ⟨fun _ => hΦ _ I2 L2 R2 (by decide) (by decide) m2 hf2, fun _ => ih I2 L2 R2 _ m2 hf2 (by omega) (by rw [g2]; omega)⟩
theorem mly_18 {Sc : sm_C} : en_hold ml_tb2 (mlY c48) sm_P Sc mlc_18 := by
  intro d hd vs w hv hm _
  obtain ⟨vs1, rfl, hv1⟩ := kl_vr (q := 107) rfl hv
  obtain ⟨x1, vs2, rfl, b1, hv2⟩ := kl_vi hv1
  obtain ⟨x2, vs3, rfl, b2, hv3⟩ := kl_vi hv2
  obtain rfl := kl_v0 hv3
  have hd : 7 ≤ d := hd
  obtain ⟨d, rfl⟩ : ∃ d', d = d' + 1 := ⟨d - 1, by omega⟩
  refine ml_topY hm (fun I L R hw hm => ?_)
  have fin : ∀ (r : Int32) (I2 : sm_I) (L2 : sm_L) (R2 : sm_R), 0 ≤ r.toInt → r.toInt ≤ 1 → en_mem ml_tb2 (mlY c48) (xLay, I2, L2, R2) → en_fr ml_SW (xLay, I, L, R) (xLay, I2, L2, R2) → ∃ (o : Option Value) (I3 : sm_I) (L3 : sm_L) (R3 : sm_R), ((some (.int r) : Option Value), ((xLay, I2, L2, kM R2) : sm_W)) = (o, (xLay, I3, L3, kM R3)) ∧ en_pr mlc_18.2.2.2.1 o ∧ en_mem ml_tb2 (mlY c48) (xLay, I3, L3, R3) ∧ en_fr mlc_18.2.2.2.2.1 (xLay, I, L, R) (xLay, I3, L3, R3) := fun r I2 L2 R2 a b m f => ⟨_, I2, L2, R2, rfl, Or.inl ⟨rfl, a, b⟩, m, f⟩
  have h01 : x2 = 0 ∨ x2 = 1 := by
    rcases ml_i3 b2.1 (by omega) with e | e | e | e
    · exact Or.inl e
    · exact Or.inr e
    · subst e; exact absurd b2.2 (by decide)
    · subst e; exact absurd b2.2 (by decide)
  refine u_X12_lays_0 ⟨h01, fun I1 e1 I2 e2 => ?_⟩
  have m2 : en_mem ml_tb2 (mlY c48) (xLay, I2, L, R) := by
    rw [e2, e1]
    exact ml_wfY (ml_wfY (ml_wfY hm (by decide +kernel) (q := (0, 1)) (by decide +kernel) b2) (by decide +kernel) (q := (-2147483648, 2147483647)) (by decide +kernel) (by decide)) (by decide +kernel) (q := (0, 10)) (by decide +kernel) (by decide)
  have f2 : en_fr ml_SW (xLay, I, L, R) (xLay, I2, L, R) := by
    rw [e2, e1]
    exact ml_fr (ml_fr (ml_fr en_fr_rf (by decide +kernel)) (by decide +kernel)) (by decide)
  refine ml_ciY (c := mlc_10) mly_10 (Nat.zero_le _) ⟨⟨rfl, rfl⟩, trivial⟩ m2 ml_pf0 rfl (fun r I3 L3 R3 r0 r1 m3 f3 => ?_)
  refine ml_cvY (c := mlc_9) mly_9 (Nat.zero_le _) ⟨⟨rfl, rfl⟩, ⟨rfl, en_crange.1, en_crange.2⟩, trivial⟩ m3 ml_pf0 rfl (fun I4 L4 R4 m4 f4 => ?_)
  obtain ⟨l0, l1, ln, lc⟩ := ml_liveY m4
  have l0 : 0 ≤ (I4 107 18).toInt := l0
  have l1 : (I4 107 18).toInt ≤ 1 := l1
  have ln : ((I4 107 18).toNatClampNeg : Int) = (I4 107 18).toInt := ln
  have bt : 0 ≤ (I4 122 (I4 107 18).toNatClampNeg).toInt ∧ (I4 122 (I4 107 18).toNatClampNeg).toInt ≤ 10 := ml_rowY m4 (p := 122) (n := 2) (q := (0, 10)) (fun _ => rfl) _ (by omega)
  refine ⟨kl_in l0 (by omega), fun n9 e9 => ?_⟩
  have s9 : n9.toInt = (I4 122 (I4 107 18).toNatClampNeg).toInt + 1 := by rw [e9]; exact ml_in1 (by omega)
  refine ml_ciY (c := mlc_5) mly_5 (by show 4 ≤ d; omega) ⟨⟨rfl, rfl⟩, ⟨rfl, (by omega : (1 : Int) ≤ n9.toInt), (by omega : n9.toInt ≤ (12 : Int))⟩, trivial⟩ m4 ml_pf0 rfl (fun r5 I5 L5 R5 q0 q1 m5 f5 => ?_)
  have hf5 : en_fr ml_SW (xLay, I, L, R) (xLay, I5, L5, R5) := ml_frt (ml_frt (ml_frt f2 f3 (by decide +kernel)) f4 (by decide +kernel)) f5 (by decide)
  refine ⟨fun _ => fin _ _ _ _ (by decide) (by decide) m5 hf5, fun _ => ?_⟩
  refine ml_cvY (c := mlc_8) mly_8 (Nat.zero_le _) ⟨⟨rfl, rfl⟩, ⟨rfl, by decide, by decide⟩, ⟨rfl, by decide, by decide⟩, trivial⟩ m5 ml_pf0 rfl (fun I6 L6 R6 m6 f6 I7 e7 => ?_)
  have m7 : en_mem ml_tb2 (mlY c48) (xLay, I7, L6, R6) := by
    rw [e7]
    exact ml_wfY m6 (by decide +kernel) (q := (0, 70)) (by decide +kernel) (by decide)
  have bi : 0 ≤ (I7 107 59).toInt ∧ (I7 107 59).toInt ≤ 70 := m7.2.1 107 59 (0, 70) (by decide +kernel)
  exact mx_lays3Y (by omega) b1 fin 70 I7 L6 R6 0 m7 (by rw [e7]; exact ml_fr (ml_frt hf5 f6 (by decide +kernel)) (by decide +kernel)) (by decide) (by rw [kl_0]; omega)
theorem mx_gives1Y {S : sm_C} {d : Nat} {Φ : sm_Z → Prop} {w0 : sm_W} (hd : mlc_21.2.2.2.2.2 ≤ d) (hΦ : ∀ (r : Int32) (I : sm_I) (L : sm_L) (R : sm_R), en_mem ml_tb2 (mlY c48) (xLay, I, L, R) → en_fr ml_SW w0 (xLay, I, L, R) → Φ (some (.int r), (xLay, I, L, kM R))) : ∀ (m : Nat) (I : sm_I) (L : sm_L) (R : sm_R) (x2 x3 : Int32), en_mem ml_tb2 (mlY c48) (xLay, I, L, R) → en_fr ml_SW w0 (xLay, I, L, R) → 0 ≤ x2.toInt → x2.toInt ≤ x3.toInt → x3.toInt ≤ 1441 → x3.toInt - x2.toInt < m → sm_wp sm_P S (d + 1) 131 1 [.ref 107, .int x2, .int x3] [] (xLay, I, L, kM R) (0, 0) Φ := by
  intro m
  induction m with
  | zero => intro I L R x2 x3 hm hf h0 h1 h2 hM; omega
  | succ m ih =>
    intro I L R x2 x3 hm hf h0 h1 h2 hM
    refine u_X12_gives_1 ⟨fun _ => hΦ _ I L R hm hf, fun a => ⟨by decide, fun I1 e1 => ?_⟩⟩
    have a := kl_nle a
    have hh := ml_half h0 a h2
    have m1 : en_mem ml_tb2 (mlY c48) (xLay, I1, L, R) := by
      rw [e1]
      exact ml_wfY hm (by decide +kernel) (q := (0, 1441)) (by decide +kernel) (by show 0 ≤ _ ∧ _ ≤ (1441 : Int); omega)
    refine ml_ciY (c := mlc_10) mly_10 (Nat.zero_le _) ⟨⟨rfl, rfl⟩, trivial⟩ m1 ml_pf0 rfl (fun r I2 L2 R2 r0 r1 m2 f2 => ?_)
    refine ml_ciY (c := mlc_21) mly_21 hd ⟨⟨rfl, rfl⟩, ⟨rfl, en_crange.1, en_crange.2⟩, trivial⟩ m2 ml_pf0 rfl (fun r3 I3 L3 R3 q0 q1 m3 f3 => ?_)
    have hf3 : en_fr ml_SW w0 (xLay, I3, L3, R3) := ml_frt (ml_frt (by rw [e1]; exact ml_fr hf (by decide +kernel)) f2 (by decide +kernel)) f3 (by decide)
    refine ⟨fun _ => ⟨fun _ n8 e8 => ?_, fun _ => ?_⟩, fun _ => hΦ _ _ _ _ m3 hf3⟩
    · have s8 : n8.toInt = (x2.toInt + x3.toInt) / 2 + 1 := by rw [e8, ml_in1 (by omega), hh]
      exact ih I3 L3 R3 n8 x3 m3 hf3 (by omega) (by omega) h2 (by omega)
    · exact ih I3 L3 R3 x2 _ m3 hf3 h0 (by omega) (by omega) (by omega)
theorem mly_42 {Sc : sm_C} : en_hold ml_tb2 (mlY c48) sm_P Sc mlc_42 := by
  intro d hd vs w hv hm _
  obtain ⟨vs1, rfl, hv1⟩ := kl_vr (q := 107) rfl hv
  obtain ⟨x1, vs2, rfl, b1, hv2⟩ := kl_vi hv1
  obtain rfl := kl_v0 hv2
  have hd : 10 ≤ d := hd
  obtain ⟨d, rfl⟩ : ∃ d', d = d' + 1 := ⟨d - 1, by omega⟩
  refine ml_topY hm (fun I L R hw hm => ?_)
  refine u_X12_gives_0 (fun I1 e1 => ?_)
  refine mx_gives1Y (by show mlc_21.2.2.2.2.2 ≤ d; exact Nat.le_trans (by decide : _ ≤ 9) (by omega)) (fun r I2 L2 R2 m f => ⟨_, I2, L2, R2, rfl, Or.inl ⟨rfl, en_crange.1, en_crange.2⟩, m, f⟩) 1442 I1 L R 0 1441 ?_ ?_ (by decide) (by decide) (by decide) (by decide)
  · rw [e1]
    exact ml_wfY (ml_wfY hm (by decide +kernel) (q := (-2147483648, 2147483647)) (by decide +kernel) en_crange) (by decide +kernel) (q := (0, 10)) (by decide +kernel) (by decide)
  · rw [e1]
    exact ml_fr (ml_fr en_fr_rf (by decide +kernel)) (by decide)
theorem ml_qaddY {I J K : sm_I} {L : sm_L} {R : sm_R} {w0 : sm_W} {p q : Nat} {v : Int32} (hp : (p = 158 ∧ q = 82) ∨ (p = 159 ∧ q = 84)) (hm : en_mem ml_tb2 (mlY c48) (xLay, I, L, R)) (hf : en_fr ml_SW w0 (xLay, I, L, R)) (hn : (I 107 q).toInt ≤ 1023) (hv : 0 ≤ v.toInt ∧ v.toInt ≤ 1023) (e1 : J = sm_up I p (I 107 q).toNatClampNeg v) (e2 : K = sm_up J 107 q (J 107 q + 1)) : en_mem ml_tb2 (mlY c48) (xLay, K, L, R) ∧ en_fr ml_SW w0 (xLay, K, L, R) ∧ (K 107 q).toInt = (I 107 q).toInt + 1 ∧ (∀ j, j ≠ q → K 107 j = I 107 j) := by
  have hp7 : p ≠ 107 := by omega
  have g : J 107 q = I 107 q := by rw [e1, en_up_ne _ _ _ _ (fun c => hp7 c.1.symm)]
  have bq : 0 ≤ (I 107 q).toInt ∧ (I 107 q).toInt ≤ 1024 := by
    rcases hp with ⟨-, e⟩ | ⟨-, e⟩ <;> subst e
    · exact hm.2.1 107 82 (0, 1024) (by decide +kernel)
    · exact hm.2.1 107 84 (0, 1024) (by decide +kernel)
  have s := ml_in1 (x := I 107 q) (by omega)
  have mJ : en_mem ml_tb2 (mlY c48) (xLay, J, L, R) := by
    rw [e1]
    rcases hp with ⟨e, -⟩ | ⟨e, -⟩ <;> subst e
    · exact ml_we2Y hm rfl (n := 1024) (q := (0, 1023)) rfl hv
    · exact ml_we2Y hm rfl (n := 1024) (q := (0, 1023)) rfl hv
  refine ⟨?_, ?_, ?_, fun j hj => ?_⟩
  · rw [e2, g]
    rcases hp with ⟨-, e⟩ | ⟨-, e⟩ <;> subst e
    · exact ml_wfY mJ (by decide +kernel) (q := (0, 1024)) (by decide +kernel) (by show 0 ≤ _ ∧ _ ≤ (1024 : Int); omega)
    · exact ml_wfY mJ (by decide +kernel) (q := (0, 1024)) (by decide +kernel) (by show 0 ≤ _ ∧ _ ≤ (1024 : Int); omega)
  · rw [e2, e1]
    rcases hp with ⟨e, e'⟩ | ⟨e, e'⟩ <;> subst e <;> subst e'
    · exact ml_fr (ml_fr hf rfl) (by decide)
    · exact ml_fr (ml_fr hf rfl) (by decide)
  · rw [e2, g, en_up_eq]; exact s
  · rw [e2, en_up_ne _ _ _ _ (fun c => hj c.2), e1, en_up_ne _ _ _ _ (fun c => hp7 c.1.symm)]
theorem mx_sets22Y {S : sm_C} {d : Nat} {Φ : sm_Z → Prop} {w0 : sm_W} {L : sm_L} {R : sm_R} {x2 x3 x4 : Int32} (b2 : 0 ≤ x2.toInt ∧ x2.toInt ≤ 1023) (b4 : 0 ≤ x4.toInt ∧ x4.toInt ≤ 1023) (hfx : ml_f x4.toNatClampNeg = x3.toInt) (I : sm_I) (hm : en_mem ml_tb2 (mlY c48) (xLay, I, L, R)) (hf : en_fr ml_SW w0 (xLay, I, L, R)) (hq : ml_Q I (ml_C x3.toInt x4.toNatClampNeg)) (hk : ∀ J : sm_I, en_mem ml_tb2 (mlY c48) (xLay, J, L, R) → en_fr ml_SW w0 (xLay, J, L, R) → ml_Q J (ml_C x3.toInt (x4.toNatClampNeg + 1)) → sm_wp sm_P S (d + 1) 190 14 [.ref 107, .int x2, .int x3, .int (x4 + 1)] [] (xLay, J, L, kM R) (0, 0) Φ) : ∀ (m : Nat) (x5 x6 x7 : Int32), 0 ≤ x7.toInt → 10 - x7.toInt ≤ m → sm_wp sm_P S (d + 1) 190 22 [.ref 107, .int x2, .int x3, .int x4, .int x5, .int x6, .int x7] [] (xLay, I, L, kM R) (0, 0) Φ := by
  have c10 : (10 : Int32).toInt = 10 := by decide
  have n4 := kl_nat b4.1
  have cs := ml_C_st (n := x3.toInt) (s := x4.toNatClampNeg) (by omega) hfx
  have cl := ml_C_le x3.toInt (x4.toNatClampNeg + 1)
  have b82 : 0 ≤ (I 107 82).toInt ∧ (I 107 82).toInt ≤ 1024 := hm.2.1 107 82 (0, 1024) (by decide +kernel)
  have b84 : 0 ≤ (I 107 84).toInt ∧ (I 107 84).toInt ≤ 1024 := hm.2.1 107 84 (0, 1024) (by decide +kernel)
  obtain ⟨hq1, hq2⟩ := hq
  have fin : ∀ x5 x6 : Int32, ((x5 = 0 → ((x6 = 0 → sm_wp sm_P S (d + 1) 190 14 [.ref 107, .int x2, .int x3, .int (x4 + (1 : Int32))] [] (xLay, I, L, (kM R)) (0, 0) Φ) ∧ (¬ x6 = 0 → (vp_in (I 107 84) 1024) ∧ ∀ I1 : sm_I, I1 = (sm_up I 159 (I 107 84).toNatClampNeg x4) → ∀ I2 : sm_I, I2 = (sm_up I1 107 84 ((I1 107 84) + (1 : Int32))) → sm_wp sm_P S (d + 1) 190 14 [.ref 107, .int x2, .int x3, .int (x4 + (1 : Int32))] [] (xLay, I2, L, (kM R)) (0, 0) Φ))) ∧ (¬ x5 = 0 → (vp_in (I 107 82) 1024) ∧ ∀ I4 : sm_I, I4 = (sm_up I 158 (I 107 82).toNatClampNeg x4) → ∀ I5 : sm_I, I5 = (sm_up I4 107 82 ((I4 107 82) + (1 : Int32))) → ((x6 = 0 → sm_wp sm_P S (d + 1) 190 14 [.ref 107, .int x2, .int x3, .int (x4 + (1 : Int32))] [] (xLay, I5, L, (kM R)) (0, 0) Φ) ∧ (¬ x6 = 0 → (vp_in (I5 107 84) 1024) ∧ ∀ I6 : sm_I, I6 = (sm_up I5 159 (I5 107 84).toNatClampNeg x4) → ∀ I7 : sm_I, I7 = (sm_up I6 107 84 ((I6 107 84) + (1 : Int32))) → sm_wp sm_P S (d + 1) 190 14 [.ref 107, .int x2, .int x3, .int (x4 + (1 : Int32))] [] (xLay, I7, L, (kM R)) (0, 0) Φ)))) := by
    intro x5 x6
    refine ⟨fun _ => ⟨fun _ => hk I hm hf ⟨by omega, by omega⟩, fun _ => ⟨kl_in b84.1 (by omega), fun I1 e1 I2 e2 => ?_⟩⟩, fun _ => ⟨kl_in b82.1 (by omega), fun I4 e4 I5 e5 => ?_⟩⟩
    · obtain ⟨q1, q2, q3, q4⟩ := ml_qaddY (Or.inr ⟨rfl, rfl⟩) hm hf (by omega) b4 e1 e2
      exact hk I2 q1 q2 ⟨by rw [q4 82 (by decide)]; omega, by omega⟩
    · obtain ⟨q1, q2, q3, q4⟩ := ml_qaddY (Or.inl ⟨rfl, rfl⟩) hm hf (by omega) b4 e4 e5
      have q84 : I5 107 84 = I 107 84 := q4 84 (by decide)
      refine ⟨fun _ => hk I5 q1 q2 ⟨by omega, by rw [q84]; omega⟩, fun _ => ⟨by rw [q84]; exact kl_in b84.1 (by omega), fun I6 e6 I7 e7 => ?_⟩⟩
      obtain ⟨p1, p2, p3, p4⟩ := ml_qaddY (Or.inr ⟨rfl, rfl⟩) q1 q2 (by rw [q84]; omega) b4 e6 e7
      exact hk I7 p1 p2 ⟨by rw [p4 82 (by decide)]; omega, by rw [q84] at p3; omega⟩
  intro m
  induction m with
  | zero =>
    intro x5 x6 x7 h0 hM
    refine u_X12_sets_22 ⟨fun _ => fin x5 x6, fun a => ?_⟩
    have := kl_nle a
    omega
  | succ m ih =>
    intro x5 x6 x7 h0 hM
    refine u_X12_sets_22 ⟨fun _ => fin x5 x6, fun a => ?_⟩
    have a := kl_nle a
    rw [c10] at a
    have s := ml_in1 (x := x7) (by omega)
    have go : ∀ x5 x6 : Int32, sm_wp sm_P S (d + 1) 190 34 [.ref 107, .int x2, .int x3, .int x4, .int x5, .int x6, .int x7] [] (xLay, I, L, kM R) (0, 0) Φ := fun x5 x6 => u_X12_sets_34 (ih x5 x6 _ (by omega) (by omega))
    have g33 : ∀ x5 s0 : Int32, sm_wp sm_P S (d + 1) 190 33 [.ref 107, .int x2, .int x3, .int x4, .int x5, .int x7] [.int s0] (xLay, I, L, kM R) (0, 0) Φ := fun x5 s0 => u_X12_sets_33 (go x5 s0)
    have g29 : ∀ s0 : Int32, sm_wp sm_P S (d + 1) 190 29 [.ref 107, .int x2, .int x3, .int x4, .int x6, .int x7] [.int s0] (xLay, I, L, kM R) (0, 0) Φ := fun s0 => u_X12_sets_29 ⟨fun _ => g33 _ _, fun _ n1 e1 => by
      have b := ml_or (ml_and (y := x4 ^^^ (-1 : Int32)) b2.1 b2.2) (ml_shl h0 (by omega))
      rw [← e1] at b
      exact ⟨kl_in b.1 (by omega), fun _ => g33 _ _, fun _ => g33 _ _⟩⟩
    refine ⟨fun _ => go _ _, fun _ => ⟨fun _ => g29 _, fun _ n10 e10 => ?_⟩⟩
    have b := ml_and (x := x4) (y := ((1 : Int32) <<< (x7 &&& 31)) ^^^ (-1 : Int32)) b4.1 b4.2
    rw [← e10] at b
    exact ⟨kl_in b.1 (by omega), fun _ => g29 _, fun _ => g29 _⟩
theorem mx_sets14Y {S : sm_C} {d : Nat} {Φ : sm_Z → Prop} {w0 : sm_W} {L : sm_L} {R : sm_R} {x2 x3 : Int32} (b2 : 0 ≤ x2.toInt ∧ x2.toInt ≤ 1023) (hk : ∀ J : sm_I, en_mem ml_tb2 (mlY c48) (xLay, J, L, R) → en_fr ml_SW w0 (xLay, J, L, R) → ml_Q J (ml_C (x3.toInt + 1) 0) → sm_wp sm_P S (d + 1) 190 12 [.ref 107, .int x2, .int (x3 + 1)] [] (xLay, J, L, kM R) (0, 0) Φ) : ∀ (m : Nat) (I : sm_I) (x4 : Int32), en_mem ml_tb2 (mlY c48) (xLay, I, L, R) → en_fr ml_SW w0 (xLay, I, L, R) → 0 ≤ x4.toInt → ml_Q I (ml_C x3.toInt x4.toNatClampNeg) → 1024 - x4.toInt ≤ m → sm_wp sm_P S (d + 1) 190 14 [.ref 107, .int x2, .int x3, .int x4] [] (xLay, I, L, kM R) (0, 0) Φ := by
  have c : (1024 : Int32).toInt = 1024 := by decide
  have done : ∀ (I : sm_I) (x4 : Int32), en_mem ml_tb2 (mlY c48) (xLay, I, L, R) → en_fr ml_SW w0 (xLay, I, L, R) → ml_Q I (ml_C x3.toInt x4.toNatClampNeg) → sm_wp sm_P S (d + 1) 190 12 [.ref 107, .int x2, .int (x3 + 1)] [] (xLay, I, L, kM R) (0, 0) Φ := fun I x4 hm hf hq => hk I hm hf (by
    have := ml_C_nx x3.toInt x4.toNatClampNeg
    exact ⟨by have := hq.1; omega, by have := hq.2; omega⟩)
  intro m
  induction m with
  | zero =>
    intro I x4 hm hf h0 hq hM
    refine u_X12_sets_14 ⟨fun _ => done I x4 hm hf hq, fun a => ?_⟩
    have := kl_nle a
    omega
  | succ m ih =>
    intro I x4 hm hf h0 hq hM
    refine u_X12_sets_14 ⟨fun _ => done I x4 hm hf hq, fun a => ?_⟩
    have a := kl_nle a
    rw [c] at a
    have s := ml_in1 (x := x4) (by omega)
    have n4 := kl_nat h0
    have n41 := kl_nat (i := x4 + 1) (by omega)
    have e41 : (x4 + 1).toNatClampNeg = x4.toNatClampNeg + 1 := by omega
    have go : ∀ J : sm_I, en_mem ml_tb2 (mlY c48) (xLay, J, L, R) → en_fr ml_SW w0 (xLay, J, L, R) → ml_Q J (ml_C x3.toInt (x4.toNatClampNeg + 1)) → sm_wp sm_P S (d + 1) 190 14 [.ref 107, .int x2, .int x3, .int (x4 + 1)] [] (xLay, J, L, kM R) (0, 0) Φ := fun J mJ fJ qJ => ih J _ mJ fJ (by omega) (by rw [e41]; exact qJ) (by omega)
    have hq' : ml_Q I (ml_C x3.toInt (x4.toNatClampNeg + 1)) := by
      have := ml_C_mo x3.toInt x4.toNatClampNeg
      exact ⟨by have := hq.1; omega, by have := hq.2; omega⟩
    refine ⟨fun _ => mx_bits ⟨_, I, L, R, rfl, fun e => ⟨kl_in h0 (by omega), fun _ n5 e5 => ?_, fun _ n5 e5 => ?_⟩, fun _ => go I hm hf hq'⟩, fun _ => go I hm hf hq'⟩
    all_goals
      have b := ml_and (x := x2) (y := x4 ^^^ (-1 : Int32)) b2.1 b2.2
      rw [← e5] at b
      refine ⟨kl_in b.1 (by omega), mx_sets22Y b2 ⟨h0, by omega⟩ (by rw [ml_f_eq h0, e]) I hm hf hq go 10 _ _ 0 (by decide) (by decide)⟩
theorem mx_sets12Y {S : sm_C} {d : Nat} {Φ : sm_Z → Prop} {w0 : sm_W} {L : sm_L} {R : sm_R} {x2 : Int32} (b2 : 0 ≤ x2.toInt ∧ x2.toInt ≤ 1023) (hΦ : ∀ (I : sm_I), en_mem ml_tb2 (mlY c48) (xLay, I, L, R) → en_fr ml_SW w0 (xLay, I, L, R) → Φ (none, (xLay, I, L, kM R))) : ∀ (m : Nat) (I : sm_I) (x3 : Int32), en_mem ml_tb2 (mlY c48) (xLay, I, L, R) → en_fr ml_SW w0 (xLay, I, L, R) → 0 ≤ x3.toInt → ml_Q I (ml_C x3.toInt 0) → 11 - x3.toInt < m → sm_wp sm_P S (d + 1) 190 12 [.ref 107, .int x2, .int x3] [] (xLay, I, L, kM R) (0, 0) Φ := by
  have bb := ml_bt_le x2 10 0 0 (by decide) (by decide)
  rw [kl_0] at bb
  intro m
  induction m with
  | zero =>
    intro I x3 hm hf h0 hq hM
    refine u_X12_sets_12 (mx_bits ⟨_, I, L, R, rfl, fun _ => hΦ I hm hf, fun a => ?_⟩)
    have := kl_nlt a
    omega
  | succ m ih =>
    intro I x3 hm hf h0 hq hM
    refine u_X12_sets_12 (mx_bits ⟨_, I, L, R, rfl, fun _ => hΦ I hm hf, fun a => ?_⟩)
    have a := kl_nlt a
    have s := ml_in1 (x := x3) (by omega)
    refine mx_sets14Y b2 (fun J mJ fJ qJ => ih J _ mJ fJ (by omega) (by rw [s]; exact qJ) (by omega)) 1024 I 0 hm hf (by decide) ?_ (by decide)
    have z : (0 : Int32).toNatClampNeg = 0 := by decide
    rw [z]; exact hq
theorem mx_sets3Y {S : sm_C} {d : Nat} {Φ : sm_Z → Prop} {w0 : sm_W} {x1 x2 : Int32} (hd : mlc_21.2.2.2.2.2 ≤ d) (b2 : 0 ≤ x2.toInt ∧ x2.toInt ≤ 1023) (hΦ : ∀ (I : sm_I) (L : sm_L) (R : sm_R), en_mem ml_tb2 (mlY c48) (xLay, I, L, R) → en_fr ml_SW w0 (xLay, I, L, R) → Φ (none, (xLay, I, L, kM R))) : ∀ (m : Nat) (I : sm_I) (L : sm_L) (R : sm_R) (x3 : Int32), en_mem ml_tb2 (mlY c48) (xLay, I, L, R) → en_fr ml_SW w0 (xLay, I, L, R) → 0 ≤ x3.toInt → I 107 82 = 0 → I 107 84 = 0 → 1024 - x3.toInt ≤ m → sm_wp sm_P S (d + 1) 190 3 [.ref 107, .int x1, .int x2, .int x3] [] (xLay, I, L, kM R) (0, 0) Φ := by
  have c : (1024 : Int32).toInt = 1024 := by decide
  have done : ∀ (I : sm_I) (L : sm_L) (R : sm_R), en_mem ml_tb2 (mlY c48) (xLay, I, L, R) → en_fr ml_SW w0 (xLay, I, L, R) → I 107 82 = 0 → I 107 84 = 0 → sm_wp sm_P S (d + 1) 190 12 [.ref 107, .int x2, .int (0 : Int32)] [] (xLay, I, L, kM R) (0, 0) Φ := fun I L R hm hf q1 q2 => mx_sets12Y b2 (fun J mJ fJ => hΦ J L R mJ fJ) 12 I 0 hm hf (by decide) ⟨by rw [q1, kl_0]; omega, by rw [q2, kl_0]; omega⟩ (by decide)
  intro m
  induction m with
  | zero =>
    intro I L R x3 hm hf h0 q1 q2 hM
    refine u_X12_sets_3 ⟨fun _ => ⟨fun _ => done I L R hm hf q1 q2, fun _ => hΦ I L R hm hf⟩, fun a => ?_⟩
    have := kl_nle a
    omega
  | succ m ih =>
    intro I L R x3 hm hf h0 q1 q2 hM
    refine u_X12_sets_3 ⟨fun _ => ⟨fun _ => done I L R hm hf q1 q2, fun _ => hΦ I L R hm hf⟩, fun a => ⟨fun _ => ⟨fun _ => ?_, fun _ => ?_⟩, fun _ => ⟨fun _ => done I L R hm hf q1 q2, fun _ => hΦ I L R hm hf⟩⟩⟩
    all_goals
      have a := kl_nle a
      rw [c] at a
      have s := ml_in1 (x := x3) (by omega)
    · refine ml_ciY (c := mlc_21) mly_21 hd ⟨⟨rfl, rfl⟩, ⟨rfl, en_crange.1, en_crange.2⟩, trivial⟩ hm ml_pf0 rfl (fun r I3 L3 R3 r0 r1 m3 f3 => ⟨kl_in h0 (by omega), fun I6 e6 => ?_⟩)
      have m6 : en_mem ml_tb2 (mlY c48) (xLay, I6, L3, R3) := by
        rw [e6]
        exact ml_we2Y m3 rfl (n := 1024) (q := (0, 1)) rfl (ml_boo r)
      have b64 : 0 ≤ (I6 107 64).toInt ∧ (I6 107 64).toInt ≤ 1 := m6.2.1 107 64 (0, 1) (by decide +kernel)
      refine ⟨?_, fun I7 e7 => ?_⟩
      · rcases ml_i3 b64.1 (by omega) with e | e | e | e
        · exact Or.inl e
        · exact Or.inr e
        · rw [e] at b64; exact absurd b64.2 (by decide)
        · rw [e] at b64; exact absurd b64.2 (by decide)
      · have hf3 : en_fr ml_SW w0 (xLay, I3, L3, R3) := ml_frt hf f3 (by decide +kernel)
        refine ih I7 L3 R3 _ ?_ ?_ (by omega) ?_ ?_ (by omega)
        · rw [e7]
          exact ml_wfY m6 (by decide +kernel) (q := (0, 1)) (by decide +kernel) b64
        · rw [e7, e6]
          exact ml_fr (ml_fr hf3 rfl) (by decide)
        · rw [e7, en_up_ne _ _ _ _ (by omega), e6, en_up_ne _ _ _ _ (by omega), ml_g f3 (by decide), q1]
        · rw [e7, en_up_ne _ _ _ _ (by omega), e6, en_up_ne _ _ _ _ (by omega), ml_g f3 (by decide), q2]
    · exact ih I L R _ hm hf (by omega) q1 q2 (by omega)
theorem mly_23 {Sc : sm_C} : en_hold ml_tb2 (mlY c48) sm_P Sc mlc_23 := by
  intro d hd vs w hv hm _
  obtain ⟨vs1, rfl, hv1⟩ := kl_vr (q := 107) rfl hv
  obtain rfl := kl_v0 hv1
  have hd : 9 ≤ d := hd
  obtain ⟨d, rfl⟩ : ∃ d', d = d' + 1 := ⟨d - 1, by omega⟩
  refine ml_topY hm (fun I L R hw hm => ?_)
  have fin : ∀ (I2 : sm_I) (L2 : sm_L) (R2 : sm_R), en_mem ml_tb2 (mlY c48) (xLay, I2, L2, R2) → en_fr ml_SW (xLay, I, L, R) (xLay, I2, L2, R2) → ∃ (o : Option Value) (I3 : sm_I) (L3 : sm_L) (R3 : sm_R), ((none : Option Value), ((xLay, I2, L2, kM R2) : sm_W)) = (o, (xLay, I3, L3, kM R3)) ∧ en_pr mlc_23.2.2.2.1 o ∧ en_mem ml_tb2 (mlY c48) (xLay, I3, L3, R3) ∧ en_fr mlc_23.2.2.2.2.1 (xLay, I, L, R) (xLay, I3, L3, R3) := fun I2 L2 R2 m f => ⟨none, I2, L2, R2, rfl, rfl, m, f⟩
  refine u_X12_sets_0 ⟨fun _ I1 e1 I2 e2 I3 e3 I4 e4 I5 e5 => ?_, fun _ => fin _ _ _ hm en_fr_rf⟩
  have m5 : en_mem ml_tb2 (mlY c48) (xLay, I5, L, R) := by
    rw [e5, e4, e3, e2, e1]
    exact ml_wfY (ml_wfY (ml_wfY (ml_wfY (ml_wfY (ml_wfY hm (by decide +kernel) (q := (0, 1)) (by decide +kernel) (by decide)) (by decide +kernel) (q := (0, 1)) (by decide +kernel) (by decide)) (by decide +kernel) (q := (0, 1024)) (by decide +kernel) (by decide)) (by decide +kernel) (q := (0, 1024)) (by decide +kernel) (by decide)) (by decide +kernel) (q := (-2147483648, 2147483647)) (by decide +kernel) (by decide)) (by decide +kernel) (q := (0, 10)) (by decide +kernel) (by decide)
  have f5 : en_fr ml_SW (xLay, I, L, R) (xLay, I5, L, R) := by
    rw [e5, e4, e3, e2, e1]
    exact ml_fr (ml_fr (ml_fr (ml_fr (ml_fr (ml_fr en_fr_rf (by decide +kernel)) (by decide +kernel)) (by decide +kernel)) (by decide +kernel)) (by decide +kernel)) (by decide)
  have z82 : I5 107 82 = 0 := by rw [e5, en_up_ne _ _ _ _ (by omega), e4, en_up_ne _ _ _ _ (by omega), e3, en_up_ne _ _ _ _ (by omega), e2, en_up_eq]
  have z84 : I5 107 84 = 0 := by rw [e5, en_up_ne _ _ _ _ (by omega), e4, en_up_ne _ _ _ _ (by omega), e3, en_up_eq]
  refine ml_ciY (c := mlc_22) mly_22 (Nat.zero_le _) ⟨⟨rfl, rfl⟩, trivial⟩ m5 ml_pf0 rfl (fun r8 I6 L6 R6 r0 r1 m6 f6 => ?_)
  refine ml_ciY (c := mlc_10) mly_10 (Nat.zero_le _) ⟨⟨rfl, rfl⟩, trivial⟩ m6 ml_pf0 rfl (fun r9 I7 L7 R7 q0 q1 m7 f7 => ?_)
  intro n12 e12
  have b := ml_and (x := r9) (y := r8 ^^^ (-1 : Int32)) q0 q1
  rw [← e12] at b
  refine mx_sets3Y (by exact Nat.le_trans (by decide : _ ≤ 8) (by omega)) b fin 1024 I7 L7 R7 0 m7 (ml_frt (ml_frt f5 f6 (by decide +kernel)) f7 (by decide +kernel)) (by decide) ?_ ?_ (by decide)
  · rw [ml_g f7 rfl, ml_g f6 rfl, z82]
  · rw [ml_g f7 rfl, ml_g f6 rfl, z84]
end
