/-! drawn -/
theorem ml_m1 {x : Int32} (h : ¬ x = (-1 : Int32)) : x.toInt ≠ -1 := fun c => h (en_ofI (by rw [c]; decide))
theorem mx_gapNow {S : sm_C} {d : Nat} {Φ : sm_Z → Prop} {I : sm_I} {L : sm_L} {R : sm_R} {x : Int32} (h0 : 0 ≤ x.toInt) (h1 : x.toInt ≤ 12) (h : ∀ r : Int32, Φ (some (.int r), (xLay, I, L, kM R))) : sm_wp sm_P S d 129 0 [.ref 107, .int x, .int (0 : Int32), .int (0 : Int32)] [] (xLay, I, L, kM R) (0, 0) Φ := by
  have c13 : (13 : Int32).toInt = 13 := by decide
  have c169 : (169 : Int32).toInt = 169 := by decide
  refine u_X12_gapNow_0 ⟨fun _ n1 e1 => ⟨?_, h _⟩, fun a => absurd rfl a⟩
  have s1 : ((13 : Int32) * x).toInt = 13 * x.toInt := ml_mu c13 rfl (by omega) (by omega)
  have s2 : ((169 : Int32) + (13 : Int32) * x).toInt = 169 + 13 * x.toInt := ml_ad c169 s1 (by omega) (by omega)
  have s3 : n1.toInt = 169 + 13 * x.toInt + 0 := by rw [e1]; exact ml_ad s2 kl_0 (by omega) (by omega)
  exact kl_in (by omega) (by omega)
theorem mx_asks {S : sm_C} {d : Nat} {Φ : sm_Z → Prop} {I : sm_I} {L : sm_L} {R : sm_R} {x : Int32} (hd : mlc_17.2.2.2.2.2 ≤ d) (hm : en_mem ml_tb mlX (xLay, I, L, R)) (h : ∀ (r : Int32) (I' : sm_I) (L' : sm_L) (R' : sm_R), en_mem ml_tb mlX (xLay, I', L', R') → en_fr ml_SW (xLay, I, L, R) (xLay, I', L', R') → (r = 0 → 0 ≤ x.toInt ∧ x.toInt ≤ 999) → Φ (some (.int r), (xLay, I', L', kM R'))) : sm_wp sm_P S (d + 1) 97 0 [.ref 107, .int x] [] (xLay, I, L, kM R) (0, 0) Φ := by
  refine u_X12_asks_0 ⟨fun a => ?_, fun _ => h _ I L R hm en_fr_rf (fun c => absurd c (by decide))⟩
  have a := kl_le.mp a
  refine ml_cv (c := mlc_17) mlh_17 hd ⟨⟨rfl, rfl⟩, trivial⟩ hm ml_pf0 rfl (fun I1 L1 R1 m1 f1 => ?_)
  have f1 : en_fr ml_SW (xLay, I, L, R) (xLay, I1, L1, R1) := ml_frw f1 (by decide +kernel)
  have b : 0 ≤ (I1 107 73).toInt ∧ (I1 107 73).toInt ≤ 1000 := m1.2.1 107 73 (0, 1000) (by decide +kernel)
  refine ⟨fun _ => ⟨fun _ => h _ I1 L1 R1 m1 f1 (fun c => absurd c (by decide)), fun q => h _ I1 L1 R1 m1 f1 (fun _ => ?_)⟩, fun _ => h _ I1 L1 R1 m1 f1 (fun c => absurd c (by decide))⟩
  have q := kl_nle q
  rw [kl_0] at a
  omega
/-- a TIME of the one asked for, or none -/
def ml_dk (I : sm_I) (x : Int32) : Prop := x.toInt = -1 ∨ (0 ≤ x.toInt ∧ x.toInt ≤ 9 ∧ ∀ n : Int32, n.toInt = 10 * (I 107 18).toInt + x.toInt → 0 ≤ (I 124 n.toNatClampNeg).toInt)
theorem mx_drawn8 {S : sm_C} {d : Nat} {Φ : sm_Z → Prop} {I : sm_I} {L : sm_L} {R : sm_R} {x2 x3 : Int32} (hm : en_mem ml_tb mlX (xLay, I, L, R)) (b2 : 0 ≤ x2.toInt) (h : ∀ r : Int32, Φ (some (.int r), (xLay, I, L, kM R))) : ∀ (m : Nat) (x5 x6 x7 : Int32), ml_dk I x5 → ml_dk I x6 → 0 ≤ x7.toInt → x7.toInt ≤ 10 → 10 - x7.toInt < m → sm_wp sm_P S (d + 1) 121 8 [.ref 107, .int x2, .int x3, .int x5, .int x6, .int x7] [] (xLay, I, L, kM R) (0, 0) Φ := by
  obtain ⟨l0, l1, ln, lc⟩ := ml_live hm
  have l0 : 0 ≤ (I 107 18).toInt := l0
  have l1 : (I 107 18).toInt ≤ 1 := l1
  have ln : ((I 107 18).toNatClampNeg : Int) = (I 107 18).toInt := ln
  have bt : 0 ≤ (I 122 (I 107 18).toNatClampNeg).toInt ∧ (I 122 (I 107 18).toNatClampNeg).toInt ≤ 10 := ml_row hm (p := 122) (n := 2) (q := (0, 10)) (fun _ => rfl) _ (by omega)
  have c10 : (10 : Int32).toInt = 10 := by decide
  have c6 : (6 : Int32).toInt = 6 := by decide
  have e1 : ((10 : Int32) * I 107 18).toInt = 10 * (I 107 18).toInt := ml_mu c10 rfl (by omega) (by omega)
  have idx : ∀ x n : Int32, 0 ≤ x.toInt → x.toInt ≤ 9 → n = (10 : Int32) * I 107 18 + x → n.toInt = 10 * (I 107 18).toInt + x.toInt ∧ vp_in n 20 := by
    intro x n p0 p1 en
    have e2 : n.toInt = 10 * (I 107 18).toInt + x.toInt := by rw [en]; exact ml_ad e1 rfl (by omega) (by omega)
    exact ⟨e2, kl_in (by omega) (by omega)⟩
  intro m
  induction m with
  | zero => intro x5 x6 x7 d5 d6 h0 h1 hM; omega
  | succ m ih =>
    intro x5 x6 x7 d5 d6 h0 h1 hM
    refine u_X12_drawn_8 ⟨kl_in l0 (by omega), fun _ => ⟨fun _ => h _, fun n5 n1 en1 => ?_⟩, fun a n12 en12 => ?_⟩
    · have g5 := d5.resolve_left (ml_m1 n5)
      obtain ⟨t1, v1⟩ := idx x5 n1 g5.1 g5.2.1 en1
      have p1 := g5.2.2 n1 t1
      have nn1 := kl_nat (i := n1) (by omega)
      have q1 : -1 ≤ (I 124 n1.toNatClampNeg).toInt ∧ (I 124 n1.toNatClampNeg).toInt ≤ 5 := ml_row hm (p := 124) (n := 20) (q := (-1, 5)) (fun _ => rfl) _ (by omega)
      refine ⟨v1, fun _ => h _, fun n6 n2 en2 => ?_⟩
      have g6 := d6.resolve_left (ml_m1 n6)
      obtain ⟨t2, v2⟩ := idx x6 n2 g6.1 g6.2.1 en2
      have p2 := g6.2.2 n2 t2
      have nn2 := kl_nat (i := n2) (by omega)
      have q2 : -1 ≤ (I 124 n2.toNatClampNeg).toInt ∧ (I 124 n2.toNatClampNeg).toInt ≤ 5 := ml_row hm (p := 124) (n := 20) (q := (-1, 5)) (fun _ => rfl) _ (by omega)
      refine ⟨v2, fun n3 en3 => ?_⟩
      have s1 : ((6 : Int32) * I 124 n1.toNatClampNeg).toInt = 6 * (I 124 n1.toNatClampNeg).toInt := ml_mu c6 rfl (by omega) (by omega)
      have s2 : n3.toInt = 6 * (I 124 n1.toNatClampNeg).toInt + (I 124 n2.toNatClampNeg).toInt := by rw [en3]; exact ml_ad s1 rfl (by omega) (by omega)
      have s6 := ml_in1 (x := x6) (by omega)
      exact ⟨kl_in (by omega) (by omega), fun _ => h _, fun _ => mx_gapNow (by omega) (by omega) (fun r => ⟨r, I, L, R, rfl, fun _ => h _, fun _ => h _⟩)⟩
    · have a := kl_nle a
      have s7 := ml_in1 (x := x7) (by omega)
      obtain ⟨t12, v12⟩ := idx x7 n12 h0 (by omega) en12
      have n7 := kl_nat h0
      have nn := kl_nat (i := n12) (by omega)
      have nx : ∀ y z : Int32, ml_dk I y → ml_dk I z → sm_wp sm_P S (d + 1) 121 21 [.ref 107, .int x2, .int x3, .int y, .int z, .int x7] [] (xLay, I, L, kM R) (0, 0) Φ := fun y z hy hz => u_X12_drawn_21 (ih y z _ hy hz (by omega) (by omega) (by omega))
      refine ⟨v12, fun p => ?_, fun _ => nx _ _ d5 d6⟩
      have V := (ml_lv hm).1 x7.toNatClampNeg (by rw [n7]; exact a) (by
        show (I 123 (10 * (I 107 18).toNatClampNeg + x7.toNatClampNeg)).toInt ≠ -1
        rw [show 10 * (I 107 18).toNatClampNeg + x7.toNatClampNeg = n12.toNatClampNeg by omega, p]; omega)
      have V : 0 ≤ (I 124 n12.toNatClampNeg).toInt := by
        rw [show n12.toNatClampNeg = 10 * (I 107 18).toNatClampNeg + x7.toNatClampNeg by omega]; exact V
      have d7 : ml_dk I x7 := Or.inr ⟨h0, by omega, fun n hn => by
        have k := kl_nat (i := n) (by omega)
        rw [show n.toNatClampNeg = n12.toNatClampNeg by omega]; exact V⟩
      have g17 : ∀ y r : Int32, ml_dk I y → sm_wp sm_P S (d + 1) 121 17 [.ref 107, .int x2, .int x3, .int y, .int x6, .int x7, .int r] [] (xLay, I, L, kM R) (0, 0) Φ := fun y r hy => by
        refine u_X12_drawn_17 ⟨fun _ => nx _ _ hy d6, fun _ => ⟨fun _ => nx _ _ hy d7, fun c => ?_⟩⟩
        have g6 := d6.resolve_left (ml_m1 c)
        have s6 := ml_in1 (x := x6) (by omega)
        exact mx_gapNow (by omega) (by omega) (fun r => ⟨r, I, L, R, rfl, fun _ => nx _ _ hy d6, fun _ => nx _ _ hy d7⟩)
      refine mx_gapNow (by omega) (by omega) (fun r => ⟨r, I, L, R, rfl, fun _ n23 en23 => ⟨(idx x7 n23 h0 (by omega) en23).2, h _⟩, fun _ => ⟨fun _ => g17 _ _ d5, fun _ => ⟨fun _ => g17 _ _ d7, fun c => ?_⟩⟩⟩)
      have g5 := d5.resolve_left (ml_m1 c)
      have s5 := ml_in1 (x := x5) (by omega)
      exact mx_gapNow (by omega) (by omega) (fun r => ⟨r, I, L, R, rfl, fun _ => g17 _ _ d5, fun _ => g17 _ _ d7⟩)
theorem mlh_31 {Sc : sm_C} : en_hold ml_tb mlX sm_P Sc mlc_31 := by
  intro d hd vs w hv hm _
  obtain ⟨vs1, rfl, hv1⟩ := kl_vr (q := 107) rfl hv
  obtain ⟨x1, vs2, rfl, b1, hv2⟩ := kl_vi hv1
  obtain ⟨x2, vs3, rfl, b2, hv3⟩ := kl_vi hv2
  obtain ⟨x3, vs4, rfl, b3, hv4⟩ := kl_vi hv3
  obtain rfl := kl_v0 hv4
  have hd : 10 ≤ d := hd
  obtain ⟨d, rfl⟩ : ∃ d', d = d' + 1 + 1 := ⟨d - 2, by omega⟩
  refine ml_top hm (fun I L R hw hm => ?_)
  have fin : ∀ (r : Int32) (I2 : sm_I) (L2 : sm_L) (R2 : sm_R), en_mem ml_tb mlX (xLay, I2, L2, R2) → en_fr ml_SW (xLay, I, L, R) (xLay, I2, L2, R2) → ∃ (o : Option Value) (I3 : sm_I) (L3 : sm_L) (R3 : sm_R), ((some (.int r) : Option Value), ((xLay, I2, L2, kM R2) : sm_W)) = (o, (xLay, I3, L3, kM R3)) ∧ en_pr mlc_31.2.2.2.1 o ∧ en_mem ml_tb mlX (xLay, I3, L3, R3) ∧ en_fr mlc_31.2.2.2.2.1 (xLay, I, L, R) (xLay, I3, L3, R3) := fun r I2 L2 R2 m f => ⟨_, I2, L2, R2, rfl, Or.inl ⟨rfl, en_crange.1, en_crange.2⟩, m, f⟩
  refine u_X12_drawn_0 (mx_isPerson hm (fun r hr => ⟨r, I, L, R, rfl, fun _ => fin _ _ _ _ hm en_fr_rf, fun hr1 => ?_⟩))
  have a2 := hr.resolve_left hr1
  refine u_X12_isMinute_0 (mx_in (fun r hr _ => ⟨r, I, L, R, rfl, hr, r, I, L, R, rfl, fun _ => fin _ _ _ _ hm en_fr_rf, fun _ => ?_⟩))
  refine mx_asks (by exact Nat.le_trans (by decide : _ ≤ 8) (by omega)) hm (fun r9 I7 L7 R7 m7 f7 h9 => ⟨r9, I7, L7, R7, rfl, fun c => ?_, fun _ => fin _ _ _ _ m7 f7⟩)
  have a1 := h9 c
  refine ml_ci (c := mlc_18) mlh_18 (by show 7 ≤ d + 1; omega) ⟨⟨rfl, rfl⟩, ⟨rfl, a1.1, a1.2⟩, ⟨rfl, by decide, by decide⟩, trivial⟩ m7 ml_pf0 rfl (fun r12 I10 L10 R10 q0 q1 m10 f10 => ?_)
  have hf10 : en_fr ml_SW (xLay, I, L, R) (xLay, I10, L10, R10) := ml_frt f7 f10 (by decide +kernel)
  refine ⟨fun _ => fin _ _ _ _ m10 hf10, fun _ => ?_⟩
  exact mx_drawn8 m10 a2.1 (fun r => fin r _ _ _ m10 hf10) 11 _ _ 0 (Or.inl (by decide)) (Or.inl (by decide)) (by decide) (by decide) (by decide)
