/-! bears -/
theorem mx_in {S : sm_C} {d : Nat} {Φ : sm_Z → Prop} {I : sm_I} {L : sm_L} {R : sm_R} {x a b : Int32} (h : ∀ r : Int32, (r = 0 ∨ r = 1) → (r = 0 ∨ (a.toInt ≤ x.toInt ∧ x.toInt ≤ b.toInt)) → Φ (some (.int r), (xLay, I, L, kM R))) : sm_wp sm_P S d 141 0 [.int x, .int a, .int b] [] (xLay, I, L, kM R) (0, 0) Φ := v_X12_in_0 ⟨fun _ => h 0 (Or.inl rfl) (Or.inl rfl), fun h1 => ⟨fun _ => h 0 (Or.inl rfl) (Or.inl rfl), fun h2 => h 1 (Or.inr rfl) (Or.inr ⟨kl_nlt h1, kl_nlt h2⟩)⟩⟩
theorem ml_live {w : sm_W} (hm : en_mem ml_tb mlX w) : 0 ≤ (w.2.1 107 18).toInt ∧ (w.2.1 107 18).toInt ≤ 1 ∧ ((w.2.1 107 18).toNatClampNeg : Int) = (w.2.1 107 18).toInt ∧ ((w.2.1 107 18).toNatClampNeg = 0 ∨ (w.2.1 107 18).toNatClampNeg = 1) := by
  have l : 0 ≤ (w.2.1 107 18).toInt ∧ (w.2.1 107 18).toInt ≤ 1 := hm.2.1 107 18 (0, 1) (by decide +kernel)
  have ln := kl_nat l.1
  refine ⟨l.1, l.2, ln, ?_⟩
  omega
theorem ml_row {w : sm_W} (hm : en_mem ml_tb mlX w) {p n : Nat} {q : Int × Int} (e : ∀ j, en_int ml_tb p j = bif Nat.blt j n then some q else none) (j : Nat) (hj : j < n) : q.1 ≤ (w.2.1 p j).toInt ∧ (w.2.1 p j).toInt ≤ q.2 := hm.2.1 p j q (by rw [e j, show Nat.blt j n = true from Nat.ble_eq_true_of_le hj]; rfl)
theorem mx_isSaying {S : sm_C} {d : Nat} {Φ : sm_Z → Prop} {I : sm_I} {L : sm_L} {R : sm_R} {x : Int32} (hm : en_mem ml_tb mlX (xLay, I, L, R)) (h : ∀ r : Int32, (r = 0 ∨ (0 ≤ x.toInt ∧ x.toInt < (I 125 (I 107 18).toNatClampNeg).toInt)) → Φ (some (.int r), (xLay, I, L, kM R))) : sm_wp sm_P S (d + 1) 149 0 [.ref 107, .int x] [] (xLay, I, L, kM R) (0, 0) Φ := by
  obtain ⟨l0, l1, ln, lc⟩ := ml_live hm
  have l0 : 0 ≤ (I 107 18).toInt := l0
  have l1 : (I 107 18).toInt ≤ 1 := l1
  have ln : ((I 107 18).toNatClampNeg : Int) = (I 107 18).toInt := ln
  have b : 0 ≤ (I 125 (I 107 18).toNatClampNeg).toInt ∧ (I 125 (I 107 18).toNatClampNeg).toInt ≤ 10 := ml_row hm (p := 125) (n := 2) (q := (0, 10)) (fun _ => rfl) _ (by omega)
  refine v_X12_isSaying_0 ⟨kl_in l0 (by omega), fun n1 e1 => mx_in (fun r hr h2 => ⟨r, I, L, rfl, hr, h r ?_⟩)⟩
  rcases h2 with h2 | h2
  · exact Or.inl h2
  · refine Or.inr ?_
    have s : n1.toInt = (I 125 (I 107 18).toNatClampNeg).toInt - 1 := by
      rw [e1, Int32.toInt_sub, kl_1]; exact en_bmod (by omega) (by omega) (Or.inl rfl)
    rw [s, kl_0] at h2
    omega
theorem mx_bearsSpan {S : sm_C} {d : Nat} {Φ : sm_Z → Prop} {I : sm_I} {L : sm_L} {R : sm_R} {x : Int32} (hm : en_mem ml_tb mlX (xLay, I, L, R)) (h0 : 0 ≤ x.toInt) (h1 : x.toInt < 260) (hx : 0 ≤ (I 130 x.toNatClampNeg).toInt) (h : ∀ r : Int32, Φ (some (.int r), (xLay, I, L, kM R))) : sm_wp sm_P S (d + 1) 101 0 [.ref 107, .int x] [] (xLay, I, L, kM R) (0, 0) Φ := by
  have n := kl_nat h0
  have v : vp_in x 260 := kl_in h0 (by omega)
  have bx : -1 ≤ (I 130 x.toNatClampNeg).toInt ∧ (I 130 x.toNatClampNeg).toInt ≤ 9 := ml_row hm (p := 130) (n := 260) (q := (-1, 9)) (fun _ => rfl) _ (by omega)
  have bby : -1 ≤ (I 131 x.toNatClampNeg).toInt ∧ (I 131 x.toNatClampNeg).toInt ≤ 9 := ml_row hm (p := 131) (n := 260) (q := (-1, 9)) (fun _ => rfl) _ (by omega)
  have fin : ∀ a b c : Int32, sm_wp sm_P S d 141 0 [.int a, .int b, .int c] [] (xLay, I, L, kM R) (0, 0) (fun z => ∃ (r5 : Int32) (I3 : sm_I) (L4 : sm_L), z = (some (.int r5), (xLay, I3, L4, kM R)) ∧ ((r5 = 0 → Φ (some (.int (0 : Int32)), (xLay, I3, L4, kM R))) ∧ (¬ r5 = 0 → Φ (some (.int (1 : Int32)), (xLay, I3, L4, kM R))))) := fun a b c => mx_in (fun r _ _ => ⟨r, I, L, rfl, fun _ => h _, fun _ => h _⟩)
  refine v_X12_bearsSpan_0 ⟨v, kl_in hx (by omega), fun n1 _ => ⟨v, fun _ => ⟨fun _ => h _, fun _ => ⟨fun _ => h _, fun _ => ⟨v, v, fin _ _ _⟩⟩⟩, fun hy => ⟨v, kl_in ?_ (by omega), fun n2 _ => ⟨fun _ => h _, fun _ => ⟨fun _ => h _, fun _ => ⟨v, v, fin _ _ _⟩⟩⟩⟩⟩⟩
  have : (I 131 x.toNatClampNeg).toInt ≠ -1 := fun c => hy (en_ofI (by rw [c]; decide))
  omega
theorem mx_bears5 {S : sm_C} {d : Nat} {Φ : sm_Z → Prop} {I : sm_I} {L : sm_L} {R : sm_R} {x2 x3 x4 : Int32} (l s : Nat) (hm : en_mem ml_tb mlX (xLay, I, L, R)) (hl : (l : Int) = (I 107 18).toInt) (hs : (s : Int) < (I 125 l).toInt) (e2 : x2.toInt = 10 * l + s) (hs9 : s ≤ 9) (hl1 : l ≤ 1) (h40 : 0 ≤ x4.toInt) (h41 : x4.toInt < (I 128 x2.toNatClampNeg).toInt) (hbad : Φ (some (.int (-4)), (xLay, I, L, kM R))) (hgo : ∀ y : Int32, (y = x3 ∨ y = x4) → sm_wp sm_P S (d + 1 + 1) 100 3 [.ref 107, .int x2, .int y, .int (x4 + 1)] [] (xLay, I, L, kM R) (0, 0) Φ) : ∀ (k : Nat) (x5 x6 : Int32), 0 ≤ x6.toInt → (I 129 ((4 : Int32) * x2 + x4).toNatClampNeg).toInt - x6.toInt ≤ k → sm_wp sm_P S (d + 1 + 1) 100 5 [.ref 107, .int x2, .int x3, .int x4, .int x5, .int x6] [] (xLay, I, L, kM R) (0, 0) Φ := by
  have n2 := kl_nat (i := x2) (by omega)
  have n4 := kl_nat h40
  have ba : 0 ≤ (I 128 x2.toNatClampNeg).toInt ∧ (I 128 x2.toNatClampNeg).toInt ≤ 4 := ml_row hm (p := 128) (n := 20) (q := (0, 4)) (fun _ => rfl) _ (by omega)
  have c4 : (4 : Int32).toInt = 4 := by decide
  have c3 : (3 : Int32).toInt = 3 := by decide
  have m1 : ((4 : Int32) * x2).toInt = 4 * x2.toInt := by rw [kl_mul (by rw [c4]; omega) (by rw [c4]; omega), c4]
  have m2 : ((4 : Int32) * x2 + x4).toInt = 4 * x2.toInt + x4.toInt := by rw [kl_add (by rw [m1]; omega) (by rw [m1]; omega), m1]
  have nm := kl_nat (i := (4 : Int32) * x2 + x4) (by omega)
  have bs : 0 ≤ (I 129 ((4 : Int32) * x2 + x4).toNatClampNeg).toInt ∧ (I 129 ((4 : Int32) * x2 + x4).toNatClampNeg).toInt ≤ 3 := ml_row hm (p := 129) (n := 80) (q := (0, 3)) (fun _ => rfl) _ (by omega)
  have v : vp_in ((4 : Int32) * x2 + x4) 80 := kl_in (by omega) (by omega)
  intro k
  induction k with
  | zero =>
    intro x5 x6 h0 hk
    refine v_X12_bears_5 ⟨v, fun _ => ⟨fun _ => hgo _ (Or.inl rfl), fun _ => ⟨fun _ => hgo _ (Or.inr rfl), fun _ => hgo _ (Or.inl rfl)⟩⟩, fun a => ?_⟩
    have := kl_nle a
    omega
  | succ k ih =>
    intro x5 x6 h0 hk
    refine v_X12_bears_5 ⟨v, fun _ => ⟨fun _ => hgo _ (Or.inl rfl), fun _ => ⟨fun _ => hgo _ (Or.inr rfl), fun _ => hgo _ (Or.inl rfl)⟩⟩, fun a n3 e3 => ?_⟩
    have a := kl_nle a
    have t := kl_inc h0 a
    have n6 := kl_nat h0
    have m3 : ((3 : Int32) * ((4 : Int32) * x2 + x4)).toInt = 3 * (4 * x2.toInt + x4.toInt) := by rw [kl_mul (by rw [c3, m2]; omega) (by rw [c3, m2]; omega), c3, m2]
    have m4 : n3.toInt = 3 * (4 * x2.toInt + x4.toInt) + x6.toInt := by rw [e3, kl_add (by rw [m3]; omega) (by rw [m3]; omega), m3]
    have n3n := kl_nat (i := n3) (by omega)
    have X := (hm.2.2.2.2.2.2.1 l hl).2 s x4.toNatClampNeg x6.toNatClampNeg hs
      (by
        show (x4.toNatClampNeg : Int) < (I 128 (10 * l + s)).toInt
        have : x2.toNatClampNeg = 10 * l + s := by omega
        rw [← this, n4]; exact h41)
      (by
        show (x6.toNatClampNeg : Int) < (I 129 (4 * (10 * l + s) + x4.toNatClampNeg)).toInt
        have : ((4 : Int32) * x2 + x4).toNatClampNeg = 4 * (10 * l + s) + x4.toNatClampNeg := by omega
        rw [← this, n6]; exact a)
    have X : 0 ≤ (I 130 n3.toNatClampNeg).toInt := by
      have : n3.toNatClampNeg = 3 * (4 * (10 * l + s) + x4.toNatClampNeg) + x6.toNatClampNeg := by omega
      rw [this]; exact X
    exact mx_bearsSpan hm (by omega) (by omega) X (fun r => ⟨r, I, L, rfl, fun _ => hbad, fun _ => ⟨fun _ => ih _ _ (by omega) (by omega), fun _ => ⟨fun _ => ih _ _ (by omega) (by omega), fun _ => ih _ _ (by omega) (by omega)⟩⟩⟩)
theorem mx_bears3 {S : sm_C} {d : Nat} {Φ : sm_Z → Prop} {I : sm_I} {L : sm_L} {R : sm_R} {x2 : Int32} (l s : Nat) (hm : en_mem ml_tb mlX (xLay, I, L, R)) (hl : (l : Int) = (I 107 18).toInt) (hs : (s : Int) < (I 125 l).toInt) (e2 : x2.toInt = 10 * l + s) (hs9 : s ≤ 9) (hl1 : l ≤ 1) (h : ∀ r : Int32, -4 ≤ r.toInt → r.toInt ≤ 3 → Φ (some (.int r), (xLay, I, L, kM R))) : ∀ (k : Nat) (x3 x4 : Int32), 0 ≤ x4.toInt → (I 128 x2.toNatClampNeg).toInt - x4.toInt ≤ k → -4 ≤ x3.toInt → x3.toInt ≤ 3 → sm_wp sm_P S (d + 1 + 1) 100 3 [.ref 107, .int x2, .int x3, .int x4] [] (xLay, I, L, kM R) (0, 0) Φ := by
  have n2 := kl_nat (i := x2) (by omega)
  have ba : 0 ≤ (I 128 x2.toNatClampNeg).toInt ∧ (I 128 x2.toNatClampNeg).toInt ≤ 4 := ml_row hm (p := 128) (n := 20) (q := (0, 4)) (fun _ => rfl) _ (by omega)
  have v : vp_in x2 20 := kl_in (by omega) (by omega)
  intro k
  induction k with
  | zero =>
    intro x3 x4 h0 hk a b
    refine v_X12_bears_3 ⟨v, fun _ => h _ a b, fun q => ?_⟩
    have := kl_nle q
    omega
  | succ k ih =>
    intro x3 x4 h0 hk a b
    refine v_X12_bears_3 ⟨v, fun _ => h _ a b, fun q => ?_⟩
    have q := kl_nle q
    have t := kl_inc h0 q
    refine mx_bears5 l s hm hl hs e2 hs9 hl1 h0 q (h _ (by decide) (by decide)) (fun y hy => ?_) 3 1 0 (by rw [kl_0]; omega) ?_
    · refine ih y (x4 + 1) (by omega) (by omega) ?_ ?_
      · rcases hy with e | e <;> subst e <;> omega
      · rcases hy with e | e <;> subst e <;> omega
    · rw [kl_0]
      have n4 := kl_nat h0
      have c4 : (4 : Int32).toInt = 4 := by decide
      have m1 : ((4 : Int32) * x2).toInt = 4 * x2.toInt := by rw [kl_mul (by rw [c4]; omega) (by rw [c4]; omega), c4]
      have m2 : ((4 : Int32) * x2 + x4).toInt = 4 * x2.toInt + x4.toInt := by rw [kl_add (by rw [m1]; omega) (by rw [m1]; omega), m1]
      have nm := kl_nat (i := (4 : Int32) * x2 + x4) (by omega)
      have bs : 0 ≤ (I 129 ((4 : Int32) * x2 + x4).toNatClampNeg).toInt ∧ (I 129 ((4 : Int32) * x2 + x4).toNatClampNeg).toInt ≤ 3 := ml_row hm (p := 129) (n := 80) (q := (0, 3)) (fun _ => rfl) _ (by omega)
      omega
theorem mlh_0 {Sc : sm_C} : en_hold ml_tb mlX sm_P Sc mlc_0 := by
  intro d hd vs w hv hm _
  obtain ⟨lay, I, L, R⟩ := w
  obtain ⟨vs1, rfl, hv1⟩ := kl_vr (q := 107) rfl hv
  obtain ⟨x1, vs2, rfl, b1, hv2⟩ := kl_vi hv1
  obtain rfl := kl_v0 hv2
  obtain rfl : lay = xLay := hm.2.2.2.2.1
  have e : kM R = R := ml_R hm
  obtain ⟨d, rfl⟩ : ∃ d', d = d' + 1 + 1 := ⟨d - 2, by have : 2 ≤ d := hd; omega⟩
  have fin : ∀ r : Int32, -4 ≤ r.toInt → r.toInt ≤ 3 → en_pr mlc_0.2.2.2.1 (some (.int r)) ∧ en_mem ml_tb mlX (xLay, I, L, R) ∧ en_fr mlc_0.2.2.2.2.1 (xLay, I, L, R) (xLay, I, L, R) := fun r a b => ⟨Or.inl ⟨rfl, a, b⟩, hm, en_fr_rf⟩
  show sm_wp sm_P Sc (d + 1 + 1) 100 0 _ [] (xLay, I, L, R) (0, 0) _
  rw [← e]
  refine v_X12_bears_0 (mx_isSaying hm (fun r hr => ⟨r, I, L, rfl, fun _ => ?_, fun h1 n4 e4 => ?_⟩))
  · rw [e]; exact fin _ (by decide) (by decide)
  obtain ⟨a0, a1⟩ := hr.resolve_left h1
  obtain ⟨l0, l1, ln, lc⟩ := ml_live hm
  have l0 : 0 ≤ (I 107 18).toInt := l0
  have l1 : (I 107 18).toInt ≤ 1 := l1
  have ln : ((I 107 18).toNatClampNeg : Int) = (I 107 18).toInt := ln
  have bsay : 0 ≤ (I 125 (I 107 18).toNatClampNeg).toInt ∧ (I 125 (I 107 18).toNatClampNeg).toInt ≤ 10 := ml_row hm (p := 125) (n := 2) (q := (0, 10)) (fun _ => rfl) _ (by omega)
  have n1 := kl_nat a0
  have c10 : (10 : Int32).toInt = 10 := by decide
  have m1 : ((10 : Int32) * I 107 18).toInt = 10 * (I 107 18).toInt := by rw [kl_mul (by rw [c10]; omega) (by rw [c10]; omega), c10]
  have m2 : n4.toInt = 10 * ((I 107 18).toNatClampNeg : Int) + (x1.toNatClampNeg : Int) := by rw [e4, kl_add (by rw [m1]; omega) (by rw [m1]; omega), m1, ln, n1]
  have nn := kl_nat (i := n4) (by omega)
  have ba : 0 ≤ (I 128 n4.toNatClampNeg).toInt ∧ (I 128 n4.toNatClampNeg).toInt ≤ 4 := ml_row hm (p := 128) (n := 20) (q := (0, 4)) (fun _ => rfl) _ (by omega)
  have c2 : (-2 : Int32).toInt = -2 := by decide
  exact mx_bears3 (I 107 18).toNatClampNeg x1.toNatClampNeg hm ln (by rw [n1]; exact a1) m2 (by omega) (by omega) (fun r p q => by rw [e]; exact fin r p q) 4 (-2) 0 (by rw [kl_0]; omega) (by rw [kl_0]; omega) (by rw [c2]; omega) (by rw [c2]; omega)
