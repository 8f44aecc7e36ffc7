section
/-! the reference's contracts with what was gone through (wip/pe/mkYm.py) -/
section
variable {c48 : Nat → Int64}
theorem ml_RY {w : sm_W} (hm : en_mem ml_tb2 (mlY c48) w) : kM w.2.2.2 = w.2.2.2 := kM_eq (fun j q hq => by
  have hj : j < 97 := by
    have : j < kMl.length := by
      rcases Nat.lt_or_ge j kMl.length with h | h
      · exact h
      · rw [List.getElem?_eq_none h] at hq; cases hq
    exact this
  have e := ml_refs j hj
  rw [hq] at e
  have e : en_refs ml_tb2 107 j = [q] := of_decide_eq_true e
  obtain ⟨r, h1, h2⟩ := hm.2.2.1 107 j (by rw [e]; exact List.cons_ne_nil _ _)
  rw [e] at h1
  rw [h2, List.mem_singleton.mp h1])
theorem ml_wrY {I : sm_I} {L : sm_L} {R : sm_R} {p j : Nat} {x : Int32} (hm : en_mem ml_tb2 (mlY c48) (xLay, I, L, R)) (hX : (mlY c48) (xLay, sm_up I p j x, L, R)) (hq : ∀ q, en_int ml_tb2 p j = some q → q.1 ≤ x.toInt ∧ x.toInt ≤ q.2) : en_mem ml_tb2 (mlY c48) (xLay, sm_up I p j x, L, R) := by
  refine ⟨hm.1, ?_, hm.2.2.1, hm.2.2.2.1, hX⟩
  intro a b q h
  show q.1 ≤ (sm_up I p j x a b).toInt ∧ (sm_up I p j x a b).toInt ≤ q.2
  by_cases c : a = p ∧ b = j
  · obtain ⟨c1, c2⟩ := c
    subst c1; subst c2
    rw [en_up_eq]; exact hq q h
  · rw [en_up_ne _ _ _ _ c]; exact hm.2.1 a b q h
theorem ml_wfY {I : sm_I} {L : sm_L} {R : sm_R} {p j : Nat} {x : Int32} {q : Int × Int} (hm : en_mem ml_tb2 (mlY c48) (xLay, I, L, R)) (hf : en_fix ml_tb2 p j = false) (e : en_int ml_tb2 p j = some q) (hx : q.1 ≤ x.toInt ∧ x.toInt ≤ q.2) : en_mem ml_tb2 (mlY c48) (xLay, sm_up I p j x, L, R) := ml_wrY hm (mlY_ok.1 _ (I, L, R) _ _ _ hf hm.2.2.2.2) (fun r hr => by rw [e] at hr; rw [← Option.some.inj hr]; exact hx)
theorem ml_weY {I : sm_I} {L : sm_L} {R : sm_R} {p j n : Nat} {x : Int32} {q : Int × Int} (hm : en_mem ml_tb2 (mlY c48) (xLay, I, L, R)) (hX : (mlY c48) (xLay, sm_up I p j x, L, R)) (e : en_int ml_tb2 p j = bif Nat.blt j n then some q else none) (hx : q.1 ≤ x.toInt ∧ x.toInt ≤ q.2) : en_mem ml_tb2 (mlY c48) (xLay, sm_up I p j x, L, R) := ml_wrY hm hX (fun r hr => by
  rw [e] at hr
  cases c : Nat.blt j n with
  | true => rw [c] at hr; rw [← Option.some.inj hr]; exact hx
  | false => rw [c] at hr; cases hr)
theorem ml_tapedY {w : sm_W} (hm : en_mem ml_tb2 (mlY c48) w) : 0 ≤ (w.2.1 107 2).toInt ∧ (w.2.1 107 2).toInt ≤ 2000 := hm.2.1 107 2 (0, 2000) (by decide +kernel)
theorem mx_backY {S : sm_C} {d : Nat} {Φ : sm_Z → Prop} {I : sm_I} {L : sm_L} {R : sm_R} {x : Int32} (hm : en_mem ml_tb2 (mlY c48) (xLay, I, L, R)) (h0 : (x.toInt < 0 ∨ (I 107 2).toInt < x.toInt) → Φ (some (.int (-1)), (xLay, I, L, R))) (h1 : ∀ I' : sm_I, 0 ≤ x.toInt → x.toInt ≤ (I 107 2).toInt → I' = sm_up I 107 2 (I 107 2 - x) → (I 107 2 - x).toInt = (I 107 2).toInt - x.toInt → en_mem ml_tb2 (mlY c48) (xLay, I', L, R) → Φ (some (.int (I 107 2 - x)), (xLay, I', L, R))) : sm_wp sm_P S d 99 0 [.ref 107, .int x] [] (xLay, I, L, R) (0, 0) Φ := by
  have e : kM R = R := ml_RY hm
  rw [← e]
  have b := ml_tapedY hm
  have b : 0 ≤ (I 107 2).toInt ∧ (I 107 2).toInt ≤ 2000 := b
  refine v_X12_back_0 ⟨fun a => ?_, fun a => ⟨fun c I1 e1 => ?_, fun c => ?_⟩⟩
  · rw [e]; rw [kl_lt, kl_0] at a; exact h0 (Or.inl a)
  · have a := kl_nlt0 a
    have c := kl_le.mp c
    have s : (I 107 2 - x).toInt = (I 107 2).toInt - x.toInt := by
      rw [Int32.toInt_sub]; exact en_bmod (by omega) (by omega) (Or.inl rfl)
    have g : I1 107 2 = I 107 2 - x := by rw [e1, en_up_eq]
    rw [e, g]
    refine h1 I1 a c e1 s ?_
    rw [e1]
    exact ml_wfY hm (by decide +kernel) (q := (0, 2000)) (by decide +kernel) (by show 0 ≤ _ ∧ _ ≤ (2000 : Int); omega)
  · rw [e]; exact h0 (Or.inr (kl_nle c))
theorem mly_78 {Sc : sm_C} : en_hold ml_tb2 (mlY c48) sm_P Sc mlc_78 := by
  intro d hd vs w hv hm _
  obtain ⟨lay, I, L, R⟩ := w
  obtain ⟨vs1, rfl, hv1⟩ := kl_vr (q := 107) rfl hv
  obtain ⟨x1, vs2, rfl, b1, hv2⟩ := kl_vi hv1
  obtain rfl := kl_v0 hv2
  obtain rfl : lay = xLay := hm.2.2.2.2.1
  have b : 0 ≤ (I 107 2).toInt ∧ (I 107 2).toInt ≤ 2000 := ml_tapedY hm
  refine mx_backY hm (fun _ => ⟨Or.inl ⟨rfl, by decide, by decide⟩, hm, en_fr_rf⟩) (fun I' a c e s hm' => ⟨Or.inl ⟨rfl, ?_, ?_⟩, hm', ?_⟩)
  · show (-1 : Int) ≤ _
    omega
  · show _ ≤ (2000 : Int)
    omega
  · rw [e]; exact ml_fr en_fr_rf (by decide)
theorem mx_putY {S : sm_C} {d : Nat} {Φ : sm_Z → Prop} {w0 : sm_W} {L : sm_L} {R : sm_R} {x1 : Int32} (n : Int) (hn : n ≤ 2000) : ∀ (k : Nat) (I : sm_I) (x2 : Int32), (k ≤ 4 ∧ x2.toInt = 8 * k - 8) → en_mem ml_tb2 (mlY c48) (xLay, I, L, R) → (I 107 2).toInt + k = n → en_fr [(107, [2]), (108, [])] w0 (xLay, I, L, R) → (∀ I' : sm_I, en_mem ml_tb2 (mlY c48) (xLay, I', L, R) → (I' 107 2).toInt = n → en_fr [(107, [2]), (108, [])] w0 (xLay, I', L, R) → Φ (none, (xLay, I', L, R))) → sm_wp sm_P S d 179 1 [.ref 107, .int x1, .int x2] [] (xLay, I, L, R) (0, 0) Φ := by
  intro k
  induction k with
  | zero =>
    intro I x2 hx hm hi hf h
    have e : kM R = R := ml_RY hm
    rw [← e]
    refine v_X12_put_1 ⟨fun _ => ?_, fun a => ?_⟩
    · rw [e]; exact h I hm (by omega) hf
    · have := kl_nlt0 a
      omega
  | succ k ih =>
    intro I x2 hx hm hi hf h
    have e : kM R = R := ml_RY hm
    have b : 0 ≤ (I 107 2).toInt ∧ (I 107 2).toInt ≤ 2000 := ml_tapedY hm
    rw [← e]
    refine v_X12_put_1 ⟨fun a => ?_, fun a n1 _ => ⟨kl_in b.1 (by omega), fun I2 e2 I3 e3 => ?_⟩⟩
    · rw [kl_lt, kl_0] at a; omega
    · rw [e]
      have m8 : (-8 : Int32).toInt = -8 := by decide
      have s : (x2 + (-8 : Int32)).toInt = x2.toInt - 8 := by rw [kl_add (by rw [m8]; omega) (by rw [m8]; omega), m8]; omega
      have hm2 : en_mem ml_tb2 (mlY c48) (xLay, I2, L, R) := by
        rw [e2]
        exact ml_weY hm (mlY_ok.1 _ (I, L, R) _ _ _ rfl hm.2.2.2.2) (n := 2000) (q := (-128, 127)) rfl (ml_byte n1)
      have g2 : I2 107 2 = I 107 2 := by rw [e2, en_up_ne _ _ _ _ (fun c => absurd c.1 (by decide))]
      have s1 : (I 107 2 + 1).toInt = (I 107 2).toInt + 1 := by rw [kl_add (by rw [kl_1]; omega) (by rw [kl_1]; omega), kl_1]
      have hm3 : en_mem ml_tb2 (mlY c48) (xLay, I3, L, R) := by
        rw [e3, g2]
        exact ml_wfY hm2 (by decide +kernel) (q := (0, 2000)) (by decide +kernel) (by show 0 ≤ _ ∧ _ ≤ (2000 : Int); omega)
      have g3 : I3 107 2 = I 107 2 + 1 := by rw [e3, g2, en_up_eq]
      refine ih I3 _ ⟨by omega, by omega⟩ hm3 (by rw [g3]; omega) ?_ h
      rw [e3]
      refine ml_fr ?_ (by decide)
      rw [e2]
      exact ml_fr hf rfl
theorem mx_feedY {S : sm_C} {d : Nat} {Φ : sm_Z → Prop} {I : sm_I} {L : sm_L} {R : sm_R} {x1 x2 x3 x4 x5 : Int32} (hm : en_mem ml_tb2 (mlY c48) (xLay, I, L, R)) (h0 : 1980 < (I 107 2).toInt → Φ (some (.int (-1)), (xLay, I, L, R))) (h1 : ∀ I' : sm_I, (I 107 2).toInt ≤ 1980 → en_mem ml_tb2 (mlY c48) (xLay, I', L, R) → (I' 107 2).toInt = (I 107 2).toInt + 20 → en_fr [(107, [2]), (108, [])] (xLay, I, L, R) (xLay, I', L, R) → Φ (some (.int (I' 107 2)), (xLay, I', L, R))) : sm_wp sm_P S (d + 1) 124 0 [.ref 107, .int x1, .int x2, .int x3, .int x4, .int x5] [] (xLay, I, L, R) (0, 0) Φ := by
  have e : kM R = R := ml_RY hm
  have b : 0 ≤ (I 107 2).toInt ∧ (I 107 2).toInt ≤ 2000 := ml_tapedY hm
  have c20 : (20 : Int32).toInt = 20 := by decide
  have c24 : (24 : Int32).toInt = 8 * (4 : Nat) - 8 := by decide
  have c2k : (2000 : Int32).toInt = 2000 := by decide
  have s : (I 107 2 + 20).toInt = (I 107 2).toInt + 20 := by rw [kl_add (by rw [c20]; omega) (by rw [c20]; omega), c20]
  rw [← e]
  refine v_X12_feed_0 ⟨fun a => ?_, fun a => ?_⟩
  · have a := kl_le.mp a
    rw [s, c2k] at a
    have p0 : ∀ {x : Int32} {Φ : sm_Z → Prop} {I1 : sm_I}, en_mem ml_tb2 (mlY c48) (xLay, I1, L, R) → (I1 107 2).toInt ≤ 1996 → en_fr [(107, [2]), (108, [])] (xLay, I, L, R) (xLay, I1, L, R) → (∀ I2 : sm_I, en_mem ml_tb2 (mlY c48) (xLay, I2, L, R) → (I2 107 2).toInt = (I1 107 2).toInt + 4 → en_fr [(107, [2]), (108, [])] (xLay, I, L, R) (xLay, I2, L, R) → Φ (none, (xLay, I2, L, kM R))) → sm_wp sm_P S d 179 0 [.ref 107, .int x] [] (xLay, I1, L, kM R) (0, 0) Φ := by
      intro x Φ I1 m1 n1 f1 k1
      refine v_X12_put_0 ?_
      rw [e] at k1 ⊢
      exact mx_putY ((I1 107 2).toInt + 4) (by omega) 4 I1 24 ⟨by decide, c24⟩ m1 (by omega) f1 k1
    refine p0 hm (by omega) en_fr_rf (fun I1 m1 t1 f1 => ⟨I1, L, rfl, ?_⟩)
    refine p0 m1 (by omega) f1 (fun I2 m2 t2 f2 => ⟨I2, L, rfl, ?_⟩)
    refine p0 m2 (by omega) f2 (fun I3 m3 t3 f3 => ⟨I3, L, rfl, ?_⟩)
    refine p0 m3 (by omega) f3 (fun I4 m4 t4 f4 => ⟨I4, L, rfl, ?_⟩)
    refine p0 m4 (by omega) f4 (fun I5 m5 t5 f5 => ⟨I5, L, rfl, ?_⟩)
    rw [e]
    exact h1 I5 (by omega) m5 (by omega) f5
  · have a := kl_nle a
    rw [s, c2k] at a
    rw [e]
    exact h0 (by omega)
theorem mly_33 {Sc : sm_C} : en_hold ml_tb2 (mlY c48) sm_P Sc mlc_33 := by
  intro d hd vs w hv hm _
  obtain ⟨lay, I, L, R⟩ := w
  obtain ⟨vs1, rfl, hv1⟩ := kl_vr (q := 107) rfl hv
  obtain ⟨x1, vs2, rfl, b1, hv2⟩ := kl_vi hv1
  obtain ⟨x2, vs3, rfl, b2, hv3⟩ := kl_vi hv2
  obtain ⟨x3, vs4, rfl, b3, hv4⟩ := kl_vi hv3
  obtain ⟨x4, vs5, rfl, b4, hv5⟩ := kl_vi hv4
  obtain ⟨x5, vs6, rfl, b5, hv6⟩ := kl_vi hv5
  obtain rfl := kl_v0 hv6
  obtain rfl : lay = xLay := hm.2.2.2.2.1
  obtain ⟨d, rfl⟩ : ∃ d', d = d' + 1 := ⟨d - 1, by have : 1 ≤ d := hd; omega⟩
  have b : 0 ≤ (I 107 2).toInt ∧ (I 107 2).toInt ≤ 2000 := ml_tapedY hm
  refine mx_feedY hm (fun _ => ⟨Or.inl ⟨rfl, by decide, by decide⟩, hm, en_fr_rf⟩) (fun I' a hm' t hf => ⟨Or.inl ⟨rfl, ?_, ?_⟩, hm', hf⟩)
  · show (-1 : Int) ≤ _
    omega
  · show _ ≤ (2000 : Int)
    omega
theorem ml_addY {I I1 I2 : sm_I} {L : sm_L} {R : sm_R} {v : Int32} (hm : en_mem ml_tb2 (mlY c48) (xLay, I, L, R)) (hn : (I 107 59).toInt ≤ 69) (hv : 0 ≤ v.toInt ∧ v.toInt ≤ 69) (hh : v.toInt ≤ 54 ∨ 60 ≤ v.toInt) (e1 : I1 = sm_up I 148 (I 107 59).toNatClampNeg v) (e2 : I2 = sm_up I1 107 59 (I1 107 59 + 1)) : en_mem ml_tb2 (mlY c48) (xLay, I2, L, R) ∧ (I2 107 59).toInt = (I 107 59).toInt + 1 ∧ ml_L I I2 := by
  have b : 0 ≤ (I 107 59).toInt ∧ (I 107 59).toInt ≤ 70 := hm.2.1 107 59 (0, 70) (by decide +kernel)
  have g1 : I1 107 59 = I 107 59 := by rw [e1, en_up_ne _ _ _ _ (fun c => absurd c.1 (by decide))]
  have s1 : (I 107 59 + 1).toInt = (I 107 59).toInt + 1 := by rw [kl_add (by rw [kl_1]; omega) (by rw [kl_1]; omega), kl_1]
  have o1 : ∀ p, p ≠ 148 → ∀ j, I1 p j = I p j := fun p hp j => by rw [e1, en_up_ne _ _ _ _ (fun c => hp c.1)]
  have X1 : (mlY c48) (xLay, I1, L, R) := by
    have X := hm.2.2.2.2
    refine ⟨rfl, fun j hj => ?_, fun l hl => ?_, mlP_cg (o1 165 (by decide)) X.2.2.2.1, mlN_cg (o1 116 (by decide)) (o1 117 (by decide)) X.2.2.2.2.1, ⟨X.2.2.2.2.2.1, GM_cg (fun p j q => o1 p (by omega) j) X.2.2.2.2.2.2.1, X.2.2.2.2.2.2.2⟩⟩
    · show (I1 148 j).toInt ≤ 54 ∨ 60 ≤ (I1 148 j).toInt
      rw [e1]
      by_cases c : j = (I 107 59).toNatClampNeg
      · rw [c, en_up_eq]; exact hh
      · rw [en_up_ne _ _ _ _ (fun q => c q.2)]; exact X.2.1 j hj
    · have hl : (l : Int) = (I1 107 18).toInt := hl
      rw [o1 107 (by decide)] at hl
      exact mlV_cg (fun p hp => o1 p (by omega)) (X.2.2.1 l hl)
  have m1 : en_mem ml_tb2 (mlY c48) (xLay, I1, L, R) := by
    rw [e1] at X1 ⊢
    exact ml_weY hm X1 (n := 70) (q := (0, 69)) rfl hv
  refine ⟨?_, ?_, ?_⟩
  · rw [e2, g1]
    exact ml_wfY m1 (by decide +kernel) (q := (0, 70)) (by decide +kernel) (by show 0 ≤ _ ∧ _ ≤ (70 : Int); omega)
  · rw [e2, g1, en_up_eq]; exact s1
  · intro c j a b
    rw [e2, en_up_ne _ _ _ _ b, e1, en_up_ne _ _ _ _ (fun q => a q.1)]
theorem mx_lists10Y {S : sm_C} {d : Nat} {Φ : sm_Z → Prop} {L : sm_L} {R : sm_R} : ∀ (k : Nat) (I : sm_I) (x2 : Int32), en_mem ml_tb2 (mlY c48) (xLay, I, L, R) → 0 ≤ x2.toInt → x2.toInt + k = 10 → (I 107 59).toInt ≤ 55 + x2.toInt → (∀ I' : sm_I, en_mem ml_tb2 (mlY c48) (xLay, I', L, R) → ml_L I I' → (I' 107 59).toInt ≤ 65 → Φ (none, (xLay, I', L, R))) → sm_wp sm_P S d 160 10 [.ref 107, .int x2] [] (xLay, I, L, R) (0, 0) Φ := by
  intro k
  induction k with
  | zero =>
    intro I x2 hm h0 hk hi h
    have e : kM R = R := ml_RY hm
    have b : 0 ≤ (I 107 67).toInt ∧ (I 107 67).toInt ≤ 10 := hm.2.1 107 67 (0, 10) (by decide +kernel)
    rw [← e]
    refine v_X12_lists_10 ⟨fun _ => ?_, fun a => ?_⟩
    · rw [e]; exact h I hm (fun _ _ _ _ => rfl) (by omega)
    · have := kl_nle a; omega
  | succ k ih =>
    intro I x2 hm h0 hk hi h
    have e : kM R = R := ml_RY hm
    have b : 0 ≤ (I 107 59).toInt ∧ (I 107 59).toInt ≤ 70 := hm.2.1 107 59 (0, 70) (by decide +kernel)
    rw [← e]
    refine v_X12_lists_10 ⟨fun _ => ?_, fun a => ⟨kl_in b.1 (by omega), fun I1 e1 I2 e2 => ?_⟩⟩
    · rw [e]; exact h I hm (fun _ _ _ _ => rfl) (by omega)
    · have c : (60 : Int32).toInt = 60 := by decide
      have s : ((60 : Int32) + x2).toInt = 60 + x2.toInt := by rw [kl_add (by rw [c]; omega) (by rw [c]; omega), c]
      have t : (x2 + 1).toInt = x2.toInt + 1 := by rw [kl_add (by rw [kl_1]; omega) (by rw [kl_1]; omega), kl_1]
      obtain ⟨q1, q2, q3⟩ := ml_addY hm (by omega) (by rw [s]; omega) (by rw [s]; omega) e1 e2
      rw [e]
      exact ih I2 _ q1 (by omega) (by omega) (by omega) (fun I' m l n => h I' m (ml_L_tr q3 l) n)
theorem mx_lists7Y {S : sm_C} {d : Nat} {Φ : sm_Z → Prop} {L : sm_L} {R : sm_R} : ∀ (k : Nat) (I : sm_I) (x2 : Int32), en_mem ml_tb2 (mlY c48) (xLay, I, L, R) → 0 ≤ x2.toInt → x2.toInt + k = 45 → (I 107 59).toInt ≤ 10 + x2.toInt → (∀ I' : sm_I, en_mem ml_tb2 (mlY c48) (xLay, I', L, R) → ml_L I I' → (I' 107 59).toInt ≤ 65 → Φ (none, (xLay, I', L, R))) → sm_wp sm_P S d 160 7 [.ref 107, .int x2] [] (xLay, I, L, R) (0, 0) Φ := by
  intro k
  induction k with
  | zero =>
    intro I x2 hm h0 hk hi h
    have e : kM R = R := ml_RY hm
    have b : 0 ≤ (I 107 46).toInt ∧ (I 107 46).toInt ≤ 45 := hm.2.1 107 46 (0, 45) (by decide +kernel)
    rw [← e]
    refine v_X12_lists_7 ⟨fun _ => ?_, fun a => ?_⟩
    · rw [e]; exact mx_lists10Y 10 I 0 hm (by rw [kl_0]; omega) (by rw [kl_0]; omega) (by rw [kl_0]; omega) h
    · have := kl_nle a; omega
  | succ k ih =>
    intro I x2 hm h0 hk hi h
    have e : kM R = R := ml_RY hm
    have b : 0 ≤ (I 107 59).toInt ∧ (I 107 59).toInt ≤ 70 := hm.2.1 107 59 (0, 70) (by decide +kernel)
    rw [← e]
    refine v_X12_lists_7 ⟨fun _ => ?_, fun a => ⟨kl_in b.1 (by omega), fun I1 e1 I2 e2 => ?_⟩⟩
    · rw [e]; exact mx_lists10Y 10 I 0 hm (by rw [kl_0]; omega) (by rw [kl_0]; omega) (by rw [kl_0]; omega) h
    · have c : (10 : Int32).toInt = 10 := by decide
      have s : ((10 : Int32) + x2).toInt = 10 + x2.toInt := by rw [kl_add (by rw [c]; omega) (by rw [c]; omega), c]
      have t : (x2 + 1).toInt = x2.toInt + 1 := by rw [kl_add (by rw [kl_1]; omega) (by rw [kl_1]; omega), kl_1]
      obtain ⟨q1, q2, q3⟩ := ml_addY hm (by omega) (by rw [s]; omega) (by rw [s]; omega) e1 e2
      rw [e]
      exact ih I2 _ q1 (by omega) (by omega) (by omega) (fun I' m l n => h I' m (ml_L_tr q3 l) n)
theorem mx_lists1Y {S : sm_C} {d : Nat} {Φ : sm_Z → Prop} {L : sm_L} {R : sm_R} {x1 : Int32} : ∀ (k : Nat) (I : sm_I) (x2 : Int32), en_mem ml_tb2 (mlY c48) (xLay, I, L, R) → 0 ≤ x2.toInt → x2.toInt + k = 10 → (I 107 59).toInt ≤ x2.toInt → (∀ I' : sm_I, en_mem ml_tb2 (mlY c48) (xLay, I', L, R) → ml_L I I' → (I' 107 59).toInt ≤ 65 → Φ (none, (xLay, I', L, R))) → sm_wp sm_P S d 160 1 [.ref 107, .int x1, .int x2] [] (xLay, I, L, R) (0, 0) Φ := by
  intro k
  induction k with
  | zero =>
    intro I x2 hm h0 hk hi h
    have e : kM R = R := ml_RY hm
    have l : 0 ≤ (I 107 18).toInt ∧ (I 107 18).toInt ≤ 1 := hm.2.1 107 18 (0, 1) (by decide +kernel)
    have ln := kl_nat l.1
    have b : 0 ≤ (I 125 (I 107 18).toNatClampNeg).toInt ∧ (I 125 (I 107 18).toNatClampNeg).toInt ≤ 10 := hm.2.1 125 _ (0, 10) (by
      have : (I 107 18).toNatClampNeg = 0 ∨ (I 107 18).toNatClampNeg = 1 := by omega
      rcases this with q | q <;> rw [q] <;> decide +kernel)
    rw [← e]
    refine v_X12_lists_1 ⟨kl_in l.1 (by omega), fun _ => ?_, fun a => ?_⟩
    · rw [e]; exact mx_lists7Y 45 I 0 hm (by rw [kl_0]; omega) (by rw [kl_0]; omega) (by rw [kl_0]; omega) h
    · have := kl_nle a; omega
  | succ k ih =>
    intro I x2 hm h0 hk hi h
    have e : kM R = R := ml_RY hm
    have l : 0 ≤ (I 107 18).toInt ∧ (I 107 18).toInt ≤ 1 := hm.2.1 107 18 (0, 1) (by decide +kernel)
    have b : 0 ≤ (I 107 59).toInt ∧ (I 107 59).toInt ≤ 70 := hm.2.1 107 59 (0, 70) (by decide +kernel)
    have t : (x2 + 1).toInt = x2.toInt + 1 := by rw [kl_add (by rw [kl_1]; omega) (by rw [kl_1]; omega), kl_1]
    rw [← e]
    refine v_X12_lists_1 ⟨kl_in l.1 (by omega), fun _ => ?_, fun a => ⟨fun _ => ?_, fun _ => ⟨kl_in b.1 (by omega), fun I1 e1 I2 e2 => ?_⟩⟩⟩
    · rw [e]; exact mx_lists7Y 45 I 0 hm (by rw [kl_0]; omega) (by rw [kl_0]; omega) (by rw [kl_0]; omega) h
    · rw [e]; exact ih I _ hm (by omega) (by omega) (by omega) h
    · obtain ⟨q1, q2, q3⟩ := ml_addY hm (by omega) (by omega) (by omega) e1 e2
      rw [e]
      exact ih I2 _ q1 (by omega) (by omega) (by omega) (fun I' m l n => h I' m (ml_L_tr q3 l) n)
theorem mly_9 {Sc : sm_C} : en_hold ml_tb2 (mlY c48) sm_P Sc mlc_9 := by
  intro d hd vs w hv hm _
  obtain ⟨lay, I, L, R⟩ := w
  obtain ⟨vs1, rfl, hv1⟩ := kl_vr (q := 107) rfl hv
  obtain ⟨x1, vs2, rfl, b1, hv2⟩ := kl_vi hv1
  obtain rfl := kl_v0 hv2
  obtain rfl : lay = xLay := hm.2.2.2.2.1
  have e : kM R = R := ml_RY hm
  show sm_wp sm_P Sc d 160 0 _ [] (xLay, I, L, R) (0, 0) _
  rw [← e]
  refine v_X12_lists_0 ?_
  rw [e]
  have m0 : en_mem ml_tb2 (mlY c48) (xLay, sm_up I 107 59 0, L, R) := ml_wfY hm (by decide +kernel) (q := (0, 70)) (by decide +kernel) (by decide)
  refine mx_lists1Y 10 _ 0 m0 (by rw [kl_0]; omega) (by rw [kl_0]; omega) (by rw [en_up_eq, kl_0]; omega) (fun I' m l _ => ⟨rfl, m, ⟨rfl, fun p j h => ⟨?_, rfl⟩⟩⟩)
  show I' p j = I p j
  have h59 : ¬ (p = 107 ∧ j = 59) := fun c => by
    obtain ⟨c1, c2⟩ := c
    subst c1; subst c2
    simp [en_wok, mlc_9] at h
  rw [l p j (fun c => by subst c; simp [en_wok, mlc_9] at h) h59, en_up_ne _ _ _ _ h59]
theorem ml_liveY {w : sm_W} (hm : en_mem ml_tb2 (mlY c48) w) : 0 ≤ (w.2.1 107 18).toInt ∧ (w.2.1 107 18).toInt ≤ 1 ∧ ((w.2.1 107 18).toNatClampNeg : Int) = (w.2.1 107 18).toInt ∧ ((w.2.1 107 18).toNatClampNeg = 0 ∨ (w.2.1 107 18).toNatClampNeg = 1) := by
  have l : 0 ≤ (w.2.1 107 18).toInt ∧ (w.2.1 107 18).toInt ≤ 1 := hm.2.1 107 18 (0, 1) (by decide +kernel)
  have ln := kl_nat l.1
  refine ⟨l.1, l.2, ln, ?_⟩
  omega
theorem ml_rowY {w : sm_W} (hm : en_mem ml_tb2 (mlY c48) w) {p n : Nat} {q : Int × Int} (e : ∀ j, en_int ml_tb2 p j = bif Nat.blt j n then some q else none) (j : Nat) (hj : j < n) : q.1 ≤ (w.2.1 p j).toInt ∧ (w.2.1 p j).toInt ≤ q.2 := hm.2.1 p j q (by rw [e j, show Nat.blt j n = true from Nat.ble_eq_true_of_le hj]; rfl)
theorem mx_isSayingY {S : sm_C} {d : Nat} {Φ : sm_Z → Prop} {I : sm_I} {L : sm_L} {R : sm_R} {x : Int32} (hm : en_mem ml_tb2 (mlY c48) (xLay, I, L, R)) (h : ∀ r : Int32, (r = 0 ∨ (0 ≤ x.toInt ∧ x.toInt < (I 125 (I 107 18).toNatClampNeg).toInt)) → Φ (some (.int r), (xLay, I, L, kM R))) : sm_wp sm_P S (d + 1) 149 0 [.ref 107, .int x] [] (xLay, I, L, kM R) (0, 0) Φ := by
  obtain ⟨l0, l1, ln, lc⟩ := ml_liveY hm
  have l0 : 0 ≤ (I 107 18).toInt := l0
  have l1 : (I 107 18).toInt ≤ 1 := l1
  have ln : ((I 107 18).toNatClampNeg : Int) = (I 107 18).toInt := ln
  have b : 0 ≤ (I 125 (I 107 18).toNatClampNeg).toInt ∧ (I 125 (I 107 18).toNatClampNeg).toInt ≤ 10 := ml_rowY hm (p := 125) (n := 2) (q := (0, 10)) (fun _ => rfl) _ (by omega)
  refine v_X12_isSaying_0 ⟨kl_in l0 (by omega), fun n1 e1 => mx_in (fun r hr h2 => ⟨r, I, L, rfl, hr, h r ?_⟩)⟩
  rcases h2 with h2 | h2
  · exact Or.inl h2
  · refine Or.inr ?_
    have s : n1.toInt = (I 125 (I 107 18).toNatClampNeg).toInt - 1 := by
      rw [e1, Int32.toInt_sub, kl_1]; exact en_bmod (by omega) (by omega) (Or.inl rfl)
    rw [s, kl_0] at h2
    omega
theorem mx_bearsSpanY {S : sm_C} {d : Nat} {Φ : sm_Z → Prop} {I : sm_I} {L : sm_L} {R : sm_R} {x : Int32} (hm : en_mem ml_tb2 (mlY c48) (xLay, I, L, R)) (h0 : 0 ≤ x.toInt) (h1 : x.toInt < 260) (hx : 0 ≤ (I 130 x.toNatClampNeg).toInt) (h : ∀ r : Int32, Φ (some (.int r), (xLay, I, L, kM R))) : sm_wp sm_P S (d + 1) 101 0 [.ref 107, .int x] [] (xLay, I, L, kM R) (0, 0) Φ := by
  have n := kl_nat h0
  have v : vp_in x 260 := kl_in h0 (by omega)
  have bx : -1 ≤ (I 130 x.toNatClampNeg).toInt ∧ (I 130 x.toNatClampNeg).toInt ≤ 9 := ml_rowY hm (p := 130) (n := 260) (q := (-1, 9)) (fun _ => rfl) _ (by omega)
  have bby : -1 ≤ (I 131 x.toNatClampNeg).toInt ∧ (I 131 x.toNatClampNeg).toInt ≤ 9 := ml_rowY hm (p := 131) (n := 260) (q := (-1, 9)) (fun _ => rfl) _ (by omega)
  have fin : ∀ a b c : Int32, sm_wp sm_P S d 141 0 [.int a, .int b, .int c] [] (xLay, I, L, kM R) (0, 0) (fun z => ∃ (r5 : Int32) (I3 : sm_I) (L4 : sm_L), z = (some (.int r5), (xLay, I3, L4, kM R)) ∧ ((r5 = 0 → Φ (some (.int (0 : Int32)), (xLay, I3, L4, kM R))) ∧ (¬ r5 = 0 → Φ (some (.int (1 : Int32)), (xLay, I3, L4, kM R))))) := fun a b c => mx_in (fun r _ _ => ⟨r, I, L, rfl, fun _ => h _, fun _ => h _⟩)
  refine v_X12_bearsSpan_0 ⟨v, kl_in hx (by omega), fun n1 _ => ⟨v, fun _ => ⟨fun _ => h _, fun _ => ⟨fun _ => h _, fun _ => ⟨v, v, fin _ _ _⟩⟩⟩, fun hy => ⟨v, kl_in ?_ (by omega), fun n2 _ => ⟨fun _ => h _, fun _ => ⟨fun _ => h _, fun _ => ⟨v, v, fin _ _ _⟩⟩⟩⟩⟩⟩
  have : (I 131 x.toNatClampNeg).toInt ≠ -1 := fun c => hy (en_ofI (by rw [c]; decide))
  omega
theorem mx_bears5Y {S : sm_C} {d : Nat} {Φ : sm_Z → Prop} {I : sm_I} {L : sm_L} {R : sm_R} {x2 x3 x4 : Int32} (l s : Nat) (hm : en_mem ml_tb2 (mlY c48) (xLay, I, L, R)) (hl : (l : Int) = (I 107 18).toInt) (hs : (s : Int) < (I 125 l).toInt) (e2 : x2.toInt = 10 * l + s) (hs9 : s ≤ 9) (hl1 : l ≤ 1) (h40 : 0 ≤ x4.toInt) (h41 : x4.toInt < (I 128 x2.toNatClampNeg).toInt) (hbad : Φ (some (.int (-4)), (xLay, I, L, kM R))) (hgo : ∀ y : Int32, (y = x3 ∨ y = x4) → sm_wp sm_P S (d + 1 + 1) 100 3 [.ref 107, .int x2, .int y, .int (x4 + 1)] [] (xLay, I, L, kM R) (0, 0) Φ) : ∀ (k : Nat) (x5 x6 : Int32), 0 ≤ x6.toInt → (I 129 ((4 : Int32) * x2 + x4).toNatClampNeg).toInt - x6.toInt ≤ k → sm_wp sm_P S (d + 1 + 1) 100 5 [.ref 107, .int x2, .int x3, .int x4, .int x5, .int x6] [] (xLay, I, L, kM R) (0, 0) Φ := by
  have n2 := kl_nat (i := x2) (by omega)
  have n4 := kl_nat h40
  have ba : 0 ≤ (I 128 x2.toNatClampNeg).toInt ∧ (I 128 x2.toNatClampNeg).toInt ≤ 4 := ml_rowY hm (p := 128) (n := 20) (q := (0, 4)) (fun _ => rfl) _ (by omega)
  have c4 : (4 : Int32).toInt = 4 := by decide
  have c3 : (3 : Int32).toInt = 3 := by decide
  have m1 : ((4 : Int32) * x2).toInt = 4 * x2.toInt := by rw [kl_mul (by rw [c4]; omega) (by rw [c4]; omega), c4]
  have m2 : ((4 : Int32) * x2 + x4).toInt = 4 * x2.toInt + x4.toInt := by rw [kl_add (by rw [m1]; omega) (by rw [m1]; omega), m1]
  have nm := kl_nat (i := (4 : Int32) * x2 + x4) (by omega)
  have bs : 0 ≤ (I 129 ((4 : Int32) * x2 + x4).toNatClampNeg).toInt ∧ (I 129 ((4 : Int32) * x2 + x4).toNatClampNeg).toInt ≤ 3 := ml_rowY hm (p := 129) (n := 80) (q := (0, 3)) (fun _ => rfl) _ (by omega)
  have v : vp_in ((4 : Int32) * x2 + x4) 80 := kl_in (by omega) (by omega)
  intro k
  induction k with
  | zero =>
    intro x5 x6 h0 hk
    refine v_X12_bears_5 ⟨v, fun _ => ⟨fun _ => hgo _ (Or.inl rfl), fun _ => ⟨fun _ => hgo _ (Or.inr rfl), fun _ => hgo _ (Or.inl rfl)⟩⟩, fun a => ?_⟩
    have := kl_nle a
    omega
  | succ k ih =>
    intro x5 x6 h0 hk
    refine v_X12_bears_5 ⟨v, fun _ => ⟨fun _ => hgo _ (Or.inl rfl), fun _ => ⟨fun _ => hgo _ (Or.inr rfl), fun _ => hgo _ (Or.inl rfl)⟩⟩, fun a n3 e3 => ?_⟩
    have a := kl_nle a
    have t := kl_inc h0 a
    have n6 := kl_nat h0
    have m3 : ((3 : Int32) * ((4 : Int32) * x2 + x4)).toInt = 3 * (4 * x2.toInt + x4.toInt) := by rw [kl_mul (by rw [c3, m2]; omega) (by rw [c3, m2]; omega), c3, m2]
    have m4 : n3.toInt = 3 * (4 * x2.toInt + x4.toInt) + x6.toInt := by rw [e3, kl_add (by rw [m3]; omega) (by rw [m3]; omega), m3]
    have n3n := kl_nat (i := n3) (by omega)
    have X := (hm.2.2.2.2.2.2.1 l hl).2 s x4.toNatClampNeg x6.toNatClampNeg hs
      (by
        show (x4.toNatClampNeg : Int) < (I 128 (10 * l + s)).toInt
        have : x2.toNatClampNeg = 10 * l + s := by omega
        rw [← this, n4]; exact h41)
      (by
        show (x6.toNatClampNeg : Int) < (I 129 (4 * (10 * l + s) + x4.toNatClampNeg)).toInt
        have : ((4 : Int32) * x2 + x4).toNatClampNeg = 4 * (10 * l + s) + x4.toNatClampNeg := by omega
        rw [← this, n6]; exact a)
    have X : 0 ≤ (I 130 n3.toNatClampNeg).toInt := by
      have : n3.toNatClampNeg = 3 * (4 * (10 * l + s) + x4.toNatClampNeg) + x6.toNatClampNeg := by omega
      rw [this]; exact X
    exact mx_bearsSpanY hm (by omega) (by omega) X (fun r => ⟨r, I, L, rfl, fun _ => hbad, fun _ => ⟨fun _ => ih _ _ (by omega) (by omega), fun _ => ⟨fun _ => ih _ _ (by omega) (by omega), fun _ => ih _ _ (by omega) (by omega)⟩⟩⟩)
theorem mx_bears3Y {S : sm_C} {d : Nat} {Φ : sm_Z → Prop} {I : sm_I} {L : sm_L} {R : sm_R} {x2 : Int32} (l s : Nat) (hm : en_mem ml_tb2 (mlY c48) (xLay, I, L, R)) (hl : (l : Int) = (I 107 18).toInt) (hs : (s : Int) < (I 125 l).toInt) (e2 : x2.toInt = 10 * l + s) (hs9 : s ≤ 9) (hl1 : l ≤ 1) (h : ∀ r : Int32, -4 ≤ r.toInt → r.toInt ≤ 3 → Φ (some (.int r), (xLay, I, L, kM R))) : ∀ (k : Nat) (x3 x4 : Int32), 0 ≤ x4.toInt → (I 128 x2.toNatClampNeg).toInt - x4.toInt ≤ k → -4 ≤ x3.toInt → x3.toInt ≤ 3 → sm_wp sm_P S (d + 1 + 1) 100 3 [.ref 107, .int x2, .int x3, .int x4] [] (xLay, I, L, kM R) (0, 0) Φ := by
  have n2 := kl_nat (i := x2) (by omega)
  have ba : 0 ≤ (I 128 x2.toNatClampNeg).toInt ∧ (I 128 x2.toNatClampNeg).toInt ≤ 4 := ml_rowY hm (p := 128) (n := 20) (q := (0, 4)) (fun _ => rfl) _ (by omega)
  have v : vp_in x2 20 := kl_in (by omega) (by omega)
  intro k
  induction k with
  | zero =>
    intro x3 x4 h0 hk a b
    refine v_X12_bears_3 ⟨v, fun _ => h _ a b, fun q => ?_⟩
    have := kl_nle q
    omega
  | succ k ih =>
    intro x3 x4 h0 hk a b
    refine v_X12_bears_3 ⟨v, fun _ => h _ a b, fun q => ?_⟩
    have q := kl_nle q
    have t := kl_inc h0 q
    refine mx_bears5Y l s hm hl hs e2 hs9 hl1 h0 q (h _ (by decide) (by decide)) (fun y hy => ?_) 3 1 0 (by rw [kl_0]; omega) ?_
    · refine ih y (x4 + 1) (by omega) (by omega) ?_ ?_
      · rcases hy with e | e <;> subst e <;> omega
      · rcases hy with e | e <;> subst e <;> omega
    · rw [kl_0]
      have n4 := kl_nat h0
      have c4 : (4 : Int32).toInt = 4 := by decide
      have m1 : ((4 : Int32) * x2).toInt = 4 * x2.toInt := by rw [kl_mul (by rw [c4]; omega) (by rw [c4]; omega), c4]
      have m2 : ((4 : Int32) * x2 + x4).toInt = 4 * x2.toInt + x4.toInt := by rw [kl_add (by rw [m1]; omega) (by rw [m1]; omega), m1]
      have nm := kl_nat (i := (4 : Int32) * x2 + x4) (by omega)
      have bs : 0 ≤ (I 129 ((4 : Int32) * x2 + x4).toNatClampNeg).toInt ∧ (I 129 ((4 : Int32) * x2 + x4).toNatClampNeg).toInt ≤ 3 := ml_rowY hm (p := 129) (n := 80) (q := (0, 3)) (fun _ => rfl) _ (by omega)
      omega
theorem mly_0 {Sc : sm_C} : en_hold ml_tb2 (mlY c48) sm_P Sc mlc_0 := by
  intro d hd vs w hv hm _
  obtain ⟨lay, I, L, R⟩ := w
  obtain ⟨vs1, rfl, hv1⟩ := kl_vr (q := 107) rfl hv
  obtain ⟨x1, vs2, rfl, b1, hv2⟩ := kl_vi hv1
  obtain rfl := kl_v0 hv2
  obtain rfl : lay = xLay := hm.2.2.2.2.1
  have e : kM R = R := ml_RY hm
  obtain ⟨d, rfl⟩ : ∃ d', d = d' + 1 + 1 := ⟨d - 2, by have : 2 ≤ d := hd; omega⟩
  have fin : ∀ r : Int32, -4 ≤ r.toInt → r.toInt ≤ 3 → en_pr mlc_0.2.2.2.1 (some (.int r)) ∧ en_mem ml_tb2 (mlY c48) (xLay, I, L, R) ∧ en_fr mlc_0.2.2.2.2.1 (xLay, I, L, R) (xLay, I, L, R) := fun r a b => ⟨Or.inl ⟨rfl, a, b⟩, hm, en_fr_rf⟩
  show sm_wp sm_P Sc (d + 1 + 1) 100 0 _ [] (xLay, I, L, R) (0, 0) _
  rw [← e]
  refine v_X12_bears_0 (mx_isSayingY hm (fun r hr => ⟨r, I, L, rfl, fun _ => ?_, fun h1 n4 e4 => ?_⟩))
  · rw [e]; exact fin _ (by decide) (by decide)
  obtain ⟨a0, a1⟩ := hr.resolve_left h1
  obtain ⟨l0, l1, ln, lc⟩ := ml_liveY hm
  have l0 : 0 ≤ (I 107 18).toInt := l0
  have l1 : (I 107 18).toInt ≤ 1 := l1
  have ln : ((I 107 18).toNatClampNeg : Int) = (I 107 18).toInt := ln
  have bsay : 0 ≤ (I 125 (I 107 18).toNatClampNeg).toInt ∧ (I 125 (I 107 18).toNatClampNeg).toInt ≤ 10 := ml_rowY hm (p := 125) (n := 2) (q := (0, 10)) (fun _ => rfl) _ (by omega)
  have n1 := kl_nat a0
  have c10 : (10 : Int32).toInt = 10 := by decide
  have m1 : ((10 : Int32) * I 107 18).toInt = 10 * (I 107 18).toInt := by rw [kl_mul (by rw [c10]; omega) (by rw [c10]; omega), c10]
  have m2 : n4.toInt = 10 * ((I 107 18).toNatClampNeg : Int) + (x1.toNatClampNeg : Int) := by rw [e4, kl_add (by rw [m1]; omega) (by rw [m1]; omega), m1, ln, n1]
  have nn := kl_nat (i := n4) (by omega)
  have ba : 0 ≤ (I 128 n4.toNatClampNeg).toInt ∧ (I 128 n4.toNatClampNeg).toInt ≤ 4 := ml_rowY hm (p := 128) (n := 20) (q := (0, 4)) (fun _ => rfl) _ (by omega)
  have c2 : (-2 : Int32).toInt = -2 := by decide
  exact mx_bears3Y (I 107 18).toNatClampNeg x1.toNatClampNeg hm ln (by rw [n1]; exact a1) m2 (by omega) (by omega) (fun r p q => by rw [e]; exact fin r p q) 4 (-2) 0 (by rw [kl_0]; omega) (by rw [kl_0]; omega) (by rw [c2]; omega) (by rw [c2]; omega)
theorem mx_choicesY {S : sm_C} {d : Nat} {Φ : sm_Z → Prop} {I : sm_I} {L : sm_L} {R : sm_R} {x : Int32} (hm : en_mem ml_tb2 (mlY c48) (xLay, I, L, R)) (h0 : 0 ≤ x.toInt) (h1 : x.toInt ≤ 69) (hh : x.toInt ≤ 54 ∨ 60 ≤ x.toInt) (h : 0 ≤ (ml_ch I x).toInt → (ml_ch I x).toInt ≤ 4 → Φ (some (.int (ml_ch I x)), (xLay, I, L, kM R))) : sm_wp sm_P S d 114 0 [.ref 107, .int x] [] (xLay, I, L, kM R) (0, 0) Φ := by
  have c10 : (10 : Int32).toInt = 10 := by decide
  have c60 : (60 : Int32).toInt = 60 := by decide
  have t0 : (0 : Int32).toInt = 0 := by decide
  have t2 : (2 : Int32).toInt = 2 := by decide
  refine v_X12_choices_0 ⟨fun a => ⟨fun b => ⟨?_, fun n1 e1 => ⟨fun c => ?_, fun c => ?_⟩⟩, fun b => ⟨?_, fun n1 e1 => ⟨fun c => ?_, fun c => ?_⟩⟩⟩, fun a n6 e6 => ⟨?_, ?_⟩⟩
  · have b' := kl_le.mp b
    rw [c60] at b'
    have s : (x - 60).toInt = x.toInt - 60 := by rw [Int32.toInt_sub, c60]; exact en_bmod (by omega) (by omega) (Or.inl rfl)
    exact kl_in (by omega) (by omega)
  · have e : ml_ch I x = 0 := by unfold ml_ch; rw [if_pos a, if_pos b, if_pos (e1 ▸ c)]
    rw [e] at h; exact h (by rw [t0]; omega) (by rw [t0]; omega)
  · have e : ml_ch I x = 2 := by unfold ml_ch; rw [if_pos a, if_pos b, if_neg (e1 ▸ c)]
    rw [e] at h; exact h (by rw [t2]; omega) (by rw [t2]; omega)
  · have a' := kl_le.mp a
    have b' := kl_nle b
    rw [c10] at a'
    rw [c60] at b'
    have s : (x - 10).toInt = x.toInt - 10 := by rw [Int32.toInt_sub, c10]; exact en_bmod (by omega) (by omega) (Or.inl rfl)
    exact kl_in (by omega) (by omega)
  · have e : ml_ch I x = 0 := by unfold ml_ch; rw [if_pos a, if_neg b, if_pos (e1 ▸ c)]
    rw [e] at h; exact h (by rw [t0]; omega) (by rw [t0]; omega)
  · have e : ml_ch I x = 2 := by unfold ml_ch; rw [if_pos a, if_neg b, if_neg (e1 ▸ c)]
    rw [e] at h; exact h (by rw [t2]; omega) (by rw [t2]; omega)
  all_goals
    obtain ⟨l0, l1, ln, lc⟩ := ml_liveY hm
    have l0 : 0 ≤ (I 107 18).toInt := l0
    have l1 : (I 107 18).toInt ≤ 1 := l1
    have a' := kl_nle a
    rw [c10] at a'
    have m1 : ((10 : Int32) * I 107 18).toInt = 10 * (I 107 18).toInt := by rw [kl_mul (by rw [c10]; omega) (by rw [c10]; omega), c10]
    have m2 : n6.toInt = 10 * (I 107 18).toInt + x.toInt := by rw [e6, kl_add (by rw [m1]; omega) (by rw [m1]; omega), m1]
  · exact kl_in (by omega) (by omega)
  · have nn := kl_nat (i := n6) (by omega)
    have ba : 0 ≤ (I 128 n6.toNatClampNeg).toInt ∧ (I 128 n6.toNatClampNeg).toInt ≤ 4 := ml_rowY hm (p := 128) (n := 20) (q := (0, 4)) (fun _ => rfl) _ (by omega)
    have e : ml_ch I x = I 128 n6.toNatClampNeg := by unfold ml_ch; rw [if_neg a, e6]
    rw [e] at h; exact h ba.1 ba.2
theorem ml_we2Y {I : sm_I} {L : sm_L} {R : sm_R} {p j n : Nat} {x : Int32} {q : Int × Int} (hm : en_mem ml_tb2 (mlY c48) (xLay, I, L, R)) (hf : en_fix ml_tb2 p j = false) (e : en_int ml_tb2 p j = bif Nat.blt j n then some q else none) (hx : q.1 ≤ x.toInt ∧ x.toInt ≤ q.2) : en_mem ml_tb2 (mlY c48) (xLay, sm_up I p j x, L, R) := ml_weY hm (mlY_ok.1 _ (I, L, R) _ _ _ hf hm.2.2.2.2) e hx
theorem ml_ciY {S : sm_C} {d : Nat} {c : en_Ct} {vs : List Value} {I : sm_I} {L : sm_L} {R : sm_R} {lo hi : Int} {C : Int32 → sm_I → sm_L → sm_R → Prop} (h : en_hold ml_tb2 (mlY c48) sm_P S c) (hd : c.2.2.2.2.2 ≤ d) (hv : en_pvs c.2.1 vs) (hm : en_mem ml_tb2 (mlY c48) (xLay, I, L, R)) (hp : en_pf c.2.2.1 (xLay, I, L, R)) (hr : c.2.2.2.1 = (0, lo, hi)) (k : ∀ (r : Int32) (I' : sm_I) (L' : sm_L) (R' : sm_R), lo ≤ r.toInt → r.toInt ≤ hi → en_mem ml_tb2 (mlY c48) (xLay, I', L', R') → en_fr c.2.2.2.2.1 (xLay, I, L, R) (xLay, I', L', R') → C r I' L' R') : sm_wp sm_P S d c.1 0 vs [] (xLay, I, L, kM R) (0, 0) (fun z => ∃ (r : Int32) (I2 : sm_I) (L2 : sm_L) (R2 : sm_R), z = (some (.int r), (xLay, I2, L2, kM R2)) ∧ C r I2 L2 R2) := by
  have e0 : kM R = R := ml_RY hm
  rw [e0]
  refine sm_wp_mono (h d hd vs _ hv hm hp) (fun z q => ?_)
  obtain ⟨o, lay, I2, L2, R2⟩ := z
  obtain ⟨q1, q2, q3⟩ := q
  obtain rfl : lay = xLay := q2.2.2.2.2.1
  have e : kM R2 = R2 := ml_RY q2
  rw [hr] at q1
  have q1 : en_pr (0, lo, hi) o := q1
  cases o with
  | none => have q1 : (0 : Nat) = 9 := q1; omega
  | some v =>
    rcases q1 with q1 | ⟨q1, -⟩
    · cases v with
      | int r => exact ⟨r, I2, L2, R2, by rw [e], k r I2 L2 R2 q1.2.1 q1.2.2 q2 q3⟩
      | long _ => have q1 : (0 : Nat) = 5 := q1; omega
      | null => have q1 : (0 : Nat) = 1 := q1; omega
      | ref p => have q1 : (0 : Nat) = 2 := q1.1; omega
      | float _ => exact q1.elim
      | double _ => exact q1.elim
      | retAddr _ => exact q1.elim
    · have q1 : (0 : Nat) = 3 := q1
      omega
theorem ml_cvY {S : sm_C} {d : Nat} {c : en_Ct} {vs : List Value} {I : sm_I} {L : sm_L} {R : sm_R} {C : sm_I → sm_L → sm_R → Prop} (h : en_hold ml_tb2 (mlY c48) sm_P S c) (hd : c.2.2.2.2.2 ≤ d) (hv : en_pvs c.2.1 vs) (hm : en_mem ml_tb2 (mlY c48) (xLay, I, L, R)) (hp : en_pf c.2.2.1 (xLay, I, L, R)) (hr : c.2.2.2.1 = (9, 0, 0)) (k : ∀ (I' : sm_I) (L' : sm_L) (R' : sm_R), en_mem ml_tb2 (mlY c48) (xLay, I', L', R') → en_fr c.2.2.2.2.1 (xLay, I, L, R) (xLay, I', L', R') → C I' L' R') : sm_wp sm_P S d c.1 0 vs [] (xLay, I, L, kM R) (0, 0) (fun z => ∃ (I2 : sm_I) (L2 : sm_L) (R2 : sm_R), z = (none, (xLay, I2, L2, kM R2)) ∧ C I2 L2 R2) := by
  have e0 : kM R = R := ml_RY hm
  rw [e0]
  refine sm_wp_mono (h d hd vs _ hv hm hp) (fun z q => ?_)
  obtain ⟨o, lay, I2, L2, R2⟩ := z
  obtain ⟨q1, q2, q3⟩ := q
  obtain rfl : lay = xLay := q2.2.2.2.2.1
  have e : kM R2 = R2 := ml_RY q2
  rw [hr] at q1
  have q1 : en_pr (9, 0, 0) o := q1
  cases o with
  | none => exact ⟨I2, L2, R2, by rw [e], k I2 L2 R2 q2 q3⟩
  | some v =>
    rcases q1 with q1 | ⟨q1, -⟩
    · cases v with
      | int r => have q1 : (9 : Nat) = 0 := q1.1; omega
      | long _ => have q1 : (9 : Nat) = 5 := q1; omega
      | null => have q1 : (9 : Nat) = 1 := q1; omega
      | ref p => have q1 : (9 : Nat) = 2 := q1.1; omega
      | float _ => exact q1.elim
      | double _ => exact q1.elim
      | retAddr _ => exact q1.elim
    · have q1 : (9 : Nat) = 3 := q1
      omega
theorem ml_topY {S : sm_C} {d f : Nat} {vs : List Value} {t : en_Fd} {W : en_W} {w : sm_W} (hm : en_mem ml_tb2 (mlY c48) w) (h : ∀ (I : sm_I) (L : sm_L) (R : sm_R), w = (xLay, I, L, R) → en_mem ml_tb2 (mlY c48) (xLay, I, L, R) → sm_wp sm_P S d f 0 vs [] (xLay, I, L, kM R) (0, 0) (fun z => ∃ (o : Option Value) (I2 : sm_I) (L2 : sm_L) (R2 : sm_R), z = (o, (xLay, I2, L2, kM R2)) ∧ en_pr t o ∧ en_mem ml_tb2 (mlY c48) (xLay, I2, L2, R2) ∧ en_fr W (xLay, I, L, R) (xLay, I2, L2, R2))) : sm_wp sm_P S d f 0 vs [] w (0, 0) (fun z => en_pr t z.1 ∧ en_mem ml_tb2 (mlY c48) z.2 ∧ en_fr W w z.2) := by
  obtain ⟨lay, I, L, R⟩ := w
  obtain rfl : lay = xLay := hm.2.2.2.2.1
  have e : kM R = R := ml_RY hm
  have q := h I L R rfl hm
  rw [e] at q
  refine sm_wp_mono q (fun z q => ?_)
  obtain ⟨o, I2, L2, R2, rfl, q1, q2, q3⟩ := q
  have e2 : kM R2 = R2 := ml_RY q2
  rw [e2]
  exact ⟨q1, q2, q3⟩
theorem ml_ch0Y {I : sm_I} {L : sm_L} {R : sm_R} {x : Int32} (hm : en_mem ml_tb2 (mlY c48) (xLay, I, L, R)) (h0 : 0 ≤ x.toInt) (h1 : x.toInt ≤ 69) (hh : x.toInt ≤ 54 ∨ 60 ≤ x.toInt) : 0 ≤ (ml_ch I x).toInt := by
  have t0 : (0 : Int32).toInt = 0 := by decide
  have t2 : (2 : Int32).toInt = 2 := by decide
  have c10 : (10 : Int32).toInt = 10 := by decide
  unfold ml_ch
  split
  · split
    · split
      · omega
      · omega
    · split
      · omega
      · omega
  · next a =>
    have a := kl_nle a
    have l : 0 ≤ (I 107 18).toInt ∧ (I 107 18).toInt ≤ 1 := hm.2.1 107 18 (0, 1) (by decide +kernel)
    have m1 : ((10 : Int32) * I 107 18).toInt = 10 * (I 107 18).toInt := ml_mu c10 rfl (by omega) (by omega)
    have m2 : ((10 : Int32) * I 107 18 + x).toInt = 10 * (I 107 18).toInt + x.toInt := ml_ad m1 rfl (by omega) (by omega)
    have nn := kl_nat (i := (10 : Int32) * I 107 18 + x) (by omega)
    exact (ml_rowY hm (p := 128) (n := 20) (q := (0, 4)) (fun _ => rfl) _ (by omega)).1
theorem ml_choosesY {S : sm_C} {d : Nat} {I : sm_I} {L : sm_L} {R : sm_R} {x y : Int32} {C : Int32 → sm_I → sm_L → sm_R → Prop} (hd : 4 ≤ d) (hm : en_mem ml_tb2 (mlY c48) (xLay, I, L, R)) (h0 : 0 ≤ x.toInt) (h1 : x.toInt ≤ 69) (hh : x.toInt ≤ 54 ∨ 60 ≤ x.toInt) (c0 : 0 ≤ y.toInt) (c1 : y.toInt ≤ 3) (k : ∀ (r : Int32) (I' : sm_I) (L' : sm_L) (R' : sm_R), 0 ≤ r.toInt → r.toInt ≤ 1 → en_mem ml_tb2 (mlY c48) (xLay, I', L', R') → en_fr [(143, [])] (xLay, I, L, R) (xLay, I', L', R') → C r I' L' R') : sm_wp sm_P S d 115 0 [.ref 107, .int x, .int y] [] (xLay, I, L, kM R) (0, 0) (fun z => ∃ (r : Int32) (I2 : sm_I) (L2 : sm_L) (R2 : sm_R), z = (some (.int r), (xLay, I2, L2, kM R2)) ∧ C r I2 L2 R2) := by
  rcases hh with hh | hh
  · exact ml_ciY (c := mlc_6) mly_6 hd ⟨⟨rfl, rfl⟩, ⟨rfl, h0, hh⟩, ⟨rfl, c0, c1⟩, trivial⟩ hm ml_pf0 rfl k
  · exact ml_ciY (c := mlc_7) mly_7 (Nat.le_trans (by decide) hd) ⟨⟨rfl, rfl⟩, ⟨rfl, hh, h1⟩, ⟨rfl, c0, c1⟩, trivial⟩ hm ml_pf0 rfl k
theorem ml_tryY {W : en_W} (w150 : ∀ j, en_wok W 150 j = true) (w63 : en_wok W 107 63 = true) {I I5 I6 : sm_I} {L : sm_L} {R : sm_R} {w0 : sm_W} {k n4 : Int32} (hm : en_mem ml_tb2 (mlY c48) (xLay, I, L, R)) (hf : en_fr W w0 (xLay, I, L, R)) (hn : ml_nc I k.toInt) (h0 : 0 ≤ k.toInt) (h1 : k.toInt ≤ 69) (ht : (I 107 63).toInt ≤ 1000) (lt : (I 150 k.toNatClampNeg).toInt < (ml_ch I (I 148 k.toNatClampNeg)).toInt) (c4 : (ml_ch I (I 148 k.toNatClampNeg)).toInt ≤ 4) (e4 : n4 = I 150 k.toNatClampNeg + 1) (e5 : I5 = sm_up I 150 k.toNatClampNeg n4) (e6 : I6 = sm_up I5 107 63 (I5 107 63 + 1)) : en_mem ml_tb2 (mlY c48) (xLay, I6, L, R) ∧ en_fr W w0 (xLay, I6, L, R) ∧ I6 107 63 = I 107 63 + 1 ∧ (∀ p j, p ≠ 150 → ¬ (p = 107 ∧ j = 63) → I6 p j = I p j) ∧ (∀ j : Nat, (j : Int) ≤ k.toInt → (I6 150 j).toInt ≤ (ml_ch I (I 148 j)).toInt) := by
  have nk := kl_nat h0
  have bn : 0 ≤ (I 150 k.toNatClampNeg).toInt ∧ (I 150 k.toNatClampNeg).toInt ≤ 4 := ml_rowY hm (p := 150) (n := 70) (q := (0, 4)) (fun _ => rfl) _ (by omega)
  have bt : 0 ≤ (I 107 63).toInt ∧ (I 107 63).toInt ≤ 1001 := hm.2.1 107 63 (0, 1001) (by decide +kernel)
  have s4 : n4.toInt = (I 150 k.toNatClampNeg).toInt + 1 := by rw [e4]; exact ml_in1 (by omega)
  have m5 : en_mem ml_tb2 (mlY c48) (xLay, I5, L, R) := by
    rw [e5]
    exact ml_we2Y hm rfl (n := 70) (q := (0, 4)) rfl (by show 0 ≤ _ ∧ _ ≤ (4 : Int); omega)
  have f5 : en_fr W w0 (xLay, I5, L, R) := by rw [e5]; exact ml_fr hf (w150 _)
  have g5 : I5 107 63 = I 107 63 := by rw [e5, en_up_ne _ _ _ _ (fun c => absurd c.1 (by decide))]
  have s6 : (I 107 63 + 1).toInt = (I 107 63).toInt + 1 := ml_in1 (by omega)
  refine ⟨?_, ?_, ?_, fun p j h1 h2 => ?_, fun j hj => ?_⟩
  · rw [e6, g5]
    exact ml_wfY m5 (by decide +kernel) (q := (0, 1001)) (by decide +kernel) (by show 0 ≤ _ ∧ _ ≤ (1001 : Int); omega)
  · rw [e6]; exact ml_fr f5 w63
  · rw [e6, g5, en_up_eq]
  · rw [e6, en_up_ne _ _ _ _ h2, e5, en_up_ne _ _ _ _ (fun c => h1 c.1)]
  · rw [e6, en_up_ne _ _ _ _ (fun c => absurd c.1 (by decide)), e5]
    by_cases c : j = k.toNatClampNeg
    · rw [c, en_up_eq]; omega
    · rw [en_up_ne _ _ _ _ (fun q => c q.2)]; exact hn j hj
theorem ml_copY {W : en_W} (w143 : ml_ws [(143, [])] W = true) (w52 : en_wok W 107 52 = true) {I6 I7 I10 : sm_I} {L L7 : sm_L} {R R7 : sm_R} {w0 : sm_W} {y : Int32} (m7 : en_mem ml_tb2 (mlY c48) (xLay, I7, L7, R7)) (f6 : en_fr W w0 (xLay, I6, L, R)) (f7 : en_fr [(143, [])] (xLay, I6, L, R) (xLay, I7, L7, R7)) (h0 : 0 ≤ y.toInt) (h1 : y.toInt ≤ 70) (e10 : I10 = sm_up I7 107 52 y) : en_mem ml_tb2 (mlY c48) (xLay, I10, L7, R7) ∧ en_fr W w0 (xLay, I10, L7, R7) ∧ (∀ p j, p ≠ 143 → ¬ (p = 107 ∧ j = 52) → I10 p j = I6 p j) := by
  refine ⟨?_, ?_, fun p j h1 h2 => ?_⟩
  · rw [e10]
    exact ml_wfY m7 (by decide +kernel) (q := (0, 70)) (by decide +kernel) ⟨h0, h1⟩
  · rw [e10]; exact ml_fr (ml_frt f6 f7 w143) w52
  · rw [e10, en_up_ne _ _ _ _ h2]
    exact ml_g f7 (ml_143 h1)
theorem mx_search3Y {S : sm_C} {d : Nat} {Φ : sm_Z → Prop} {w0 : sm_W} {x1 : Int32} (hd : 4 ≤ d) (hx1 : x1 = 0) (hΦ : ∀ (r : Int32) (I : sm_I) (L : sm_L) (R : sm_R), 0 ≤ r.toInt → r.toInt ≤ 1000 → en_mem ml_tb2 (mlY c48) (xLay, I, L, R) → en_fr ml_SV w0 (xLay, I, L, R) → Φ (some (.int r), (xLay, I, L, kM R))) : ∀ (m : Nat) (I : sm_I) (L : sm_L) (R : sm_R) (x2 x3 : Int32), en_mem ml_tb2 (mlY c48) (xLay, I, L, R) → en_fr ml_SV w0 (xLay, I, L, R) → -1 ≤ x3.toInt → x3.toInt < (I 107 59).toInt → 0 ≤ x2.toInt → x2.toInt ≤ (I 107 63).toInt → (I 107 63).toInt ≤ 1000 → ml_nc I x3.toInt → 2 * (1000 - (I 107 63).toInt) + x3.toInt + 1 < m → sm_wp sm_P S (d + 1) 186 3 [.ref 107, .int x1, .int x2, .int x3] [] (xLay, I, L, kM R) (0, 0) Φ := by
  intro m
  induction m with
  | zero =>
    intro I L R x2 x3 hm hf k0 k1 f0 f1 t1 hn hM
    omega
  | succ m ih =>
    intro I L R x2 x3 hm hf k0 k1 f0 f1 t1 hn hM
    have bi : 0 ≤ (I 107 59).toInt ∧ (I 107 59).toInt ≤ 70 := hm.2.1 107 59 (0, 70) (by decide +kernel)
    have bt : 0 ≤ (I 107 63).toInt ∧ (I 107 63).toInt ≤ 1001 := hm.2.1 107 63 (0, 1001) (by decide +kernel)
    refine u_X12_searches_3 ⟨fun a => hΦ x2 I L R f0 (by omega) hm hf, fun a => ?_⟩
    have k2 := kl_nlt0 a
    have nk := kl_nat k2
    have v : vp_in x3 70 := kl_in k2 (by omega)
    have bo : 0 ≤ (I 148 x3.toNatClampNeg).toInt ∧ (I 148 x3.toNatClampNeg).toInt ≤ 69 := ml_rowY hm (p := 148) (n := 70) (q := (0, 69)) (fun _ => rfl) _ (by omega)
    have gap : (I 148 x3.toNatClampNeg).toInt ≤ 54 ∨ 60 ≤ (I 148 x3.toNatClampNeg).toInt := hm.2.2.2.2.2.1 _ (by omega)
    have bn : 0 ≤ (I 150 x3.toNatClampNeg).toInt ∧ (I 150 x3.toNatClampNeg).toInt ≤ 4 := ml_rowY hm (p := 150) (n := 70) (q := (0, 4)) (fun _ => rfl) _ (by omega)
    have hk := hn x3.toNatClampNeg (by omega)
    obtain ⟨ch, hch⟩ : ∃ ch, ch = ml_ch I (I 148 x3.toNatClampNeg) := ⟨_, rfl⟩
    rw [← hch] at hk
    refine ⟨v, v, mx_choicesY hm bo.1 bo.2 gap (fun c0 c4 => ⟨_, I, L, R, rfl, fun e => ?_, fun e => ⟨v, v, fun n4 e4 => ⟨v, fun I5 e5 I6 e6 => ?_⟩⟩⟩)⟩
    · rw [← hch] at c0 c4 e
      obtain ⟨y, hy, sd⟩ : ∃ y, y = x3 + (-1 : Int32) ∧ y.toInt = x3.toInt - 1 := ⟨_, rfl, ml_de1 (by omega)⟩
      rw [← hy]
      exact ih I L R x2 y hm hf (by omega) (by omega) f0 f1 t1 (fun j hj => hn j (by omega)) (by omega)
    rw [← hch] at c0 c4 e
    have sk := ml_in1 (x := x3) (by omega)
    have lt : (I 150 x3.toNatClampNeg).toInt < ch.toInt := by
      have : (I 150 x3.toNatClampNeg).toInt ≠ ch.toInt := fun q => e (en_ofI q)
      omega
    obtain ⟨m6, f6, g6, o6, q6⟩ := ml_tryY (W := ml_SV) (fun _ => rfl) (by decide +kernel) hm hf hn k2 (by omega) t1 (by rw [← hch]; exact lt) (by rw [← hch]; exact c4) e4 e5 e6
    have s6 : (I 107 63 + 1).toInt = (I 107 63).toInt + 1 := ml_in1 (by omega)
    refine ⟨fun g => ?_, fun g I31 e31 => ?_⟩
    · have g := kl_le.mp g
      rw [g6, (by decide : (1000 : Int32).toInt = 1000)] at g
      have tail : ∀ (J : sm_I) (Lj : sm_L) (Rj : sm_R) (r : Int32), en_mem ml_tb2 (mlY c48) (xLay, J, Lj, Rj) → en_fr ml_SV w0 (xLay, J, Lj, Rj) → (∀ p j, p ≠ 143 → p ≠ 150 → p ≠ 154 → p ≠ 155 → p ≠ 156 → ¬ (p = 107 ∧ (j = 63 ∨ j = 52)) → J p j = I p j) → (∀ j, J 150 j = I6 150 j) → J 107 63 = I6 107 63 → ((r = 0 → sm_wp sm_P S (d + 1) 186 3 [.ref 107, .int x1, .int x2, .int x3] [] (xLay, J, Lj, (kM Rj)) (0, 0) Φ) ∧ (¬ r = 0 → (vp_in x3 70) ∧ ∀ I14 : sm_I, I14 = (sm_up J 149 x3.toNatClampNeg (I 150 x3.toNatClampNeg)) → (((I14 107 59) ≤ (x3 + (1 : Int32)) → ((x1 = 0 → Φ (some (.int (1 : Int32)), (xLay, I14, Lj, (kM Rj)))) ∧ (¬ x1 = 0 → sm_wp sm_P S (d + 1) 186 17 [.ref 107, .int x1, .int x2, .int x3, .int (0 : Int32)] [] (xLay, I14, Lj, (kM Rj)) (0, 0) Φ))) ∧ (¬ (I14 107 59) ≤ (x3 + (1 : Int32)) → (vp_in (x3 + (1 : Int32)) 70) ∧ ∀ I16 : sm_I, I16 = (sm_up I14 150 (x3 + (1 : Int32)).toNatClampNeg (0 : Int32)) → sm_wp sm_P S (d + 1) 186 3 [.ref 107, .int x1, .int x2, .int (x3 + (1 : Int32))] [] (xLay, I16, Lj, (kM Rj)) (0, 0) Φ)))) := by
        intro J Lj Rj r hmJ hfJ oJ cJ tJ
        have itJ : J 107 59 = I 107 59 := oJ 107 59 (by decide) (by decide) (by decide) (by decide) (by decide) (by omega)
        have ncJ : ∀ J' : sm_I, (∀ p j, p ≠ 149 → p ≠ 150 → p ≠ 153 → J' p j = J p j) → ∀ k : Int, (∀ j : Nat, (j : Int) ≤ k → (J' 150 j).toInt ≤ (ml_ch I (I 148 j)).toInt) → ml_nc J' k := by
          intro J' oJ' k hk'
          refine ml_nc_cg (I := I) (fun j => ?_) (fun j => ?_) (fun j => ?_) ?_ (fun j => ?_) hk'
          · rw [oJ' _ _ (by decide) (by decide) (by decide), oJ _ _ (by decide) (by decide) (by decide) (by decide) (by decide) (by omega)]
          · rw [oJ' _ _ (by decide) (by decide) (by decide), oJ _ _ (by decide) (by decide) (by decide) (by decide) (by decide) (by omega)]
          · rw [oJ' _ _ (by decide) (by decide) (by decide), oJ _ _ (by decide) (by decide) (by decide) (by decide) (by decide) (by omega)]
          · rw [oJ' _ _ (by decide) (by decide) (by decide), oJ _ _ (by decide) (by decide) (by decide) (by decide) (by decide) (by omega)]
          · rw [oJ' _ _ (by decide) (by decide) (by decide), oJ _ _ (by decide) (by decide) (by decide) (by decide) (by decide) (by omega)]
        refine ⟨fun _ => ?_, fun _ => ⟨v, fun I14 e14 => ?_⟩⟩
        · exact ih J Lj Rj x2 x3 hmJ hfJ k0 (by rw [itJ]; omega) f0 (by rw [tJ, g6]; omega) (by rw [tJ, g6]; omega) (ncJ J (fun _ _ _ _ _ => rfl) _ (fun j hj => by rw [cJ]; exact q6 j hj)) (by rw [tJ, g6]; omega)
        · have m14 : en_mem ml_tb2 (mlY c48) (xLay, I14, Lj, Rj) := by
            rw [e14]
            exact ml_we2Y hmJ rfl (n := 70) (q := (0, 3)) rfl (by show 0 ≤ _ ∧ _ ≤ (3 : Int); omega)
          have f14 : en_fr ml_SV w0 (xLay, I14, Lj, Rj) := by rw [e14]; exact ml_fr hfJ rfl
          have o14 : ∀ p j, p ≠ 149 → I14 p j = J p j := fun p j h => by rw [e14, en_up_ne _ _ _ _ (fun c => h c.1)]
          refine ⟨fun q => ⟨fun _ => hΦ _ _ _ _ (by decide) (by decide) m14 f14, fun q0 => absurd hx1 q0⟩, fun q => ?_⟩
          · have q := kl_nle q
            rw [o14 _ _ (by decide), itJ] at q
            refine ⟨kl_in (by omega) (by omega), fun I16 e16 => ?_⟩
            have nk1 := kl_nat (i := x3 + 1) (by omega)
            have o16 : ∀ p j, p ≠ 150 → I16 p j = I14 p j := fun p j h => by rw [e16, en_up_ne _ _ _ _ (fun c => h c.1)]
            have m16 : en_mem ml_tb2 (mlY c48) (xLay, I16, Lj, Rj) := by
              rw [e16]
              exact ml_we2Y m14 rfl (n := 70) (q := (0, 4)) rfl (by decide)
            have f16 : en_fr ml_SV w0 (xLay, I16, Lj, Rj) := by rw [e16]; exact ml_fr f14 rfl
            have t' : I16 107 63 = I 107 63 + 1 := by rw [o16 _ _ (by decide), o14 _ _ (by decide), tJ, g6]
            have i' : I16 107 59 = I 107 59 := by rw [o16 _ _ (by decide), o14 _ _ (by decide), itJ]
            refine ih I16 Lj Rj x2 _ m16 f16 (by omega) (by rw [i']; omega) f0 (by rw [t']; omega) (by rw [t']; omega) (ncJ I16 (fun p j h1 h2 h3 => by rw [o16 _ _ h2, o14 _ _ h1]) _ (fun j hj => ?_)) (by rw [t']; omega)
            rw [e16]
            by_cases c : j = (x3 + 1).toNatClampNeg
            · have mi : en_mem ml_tb2 (mlY c48) (xLay, I, L, R) := hm
              have bo' : 0 ≤ (I 148 j).toInt ∧ (I 148 j).toInt ≤ 69 := ml_rowY hm (p := 148) (n := 70) (q := (0, 69)) (fun _ => rfl) _ (by omega)
              rw [c, en_up_eq, kl_0, ← c]
              exact ml_ch0Y hm bo'.1 bo'.2 (hm.2.2.2.2.2.1 _ (by omega))
            · rw [en_up_ne _ _ _ _ (fun q => c q.2), o14 _ _ (by decide), cJ]; exact q6 j (by omega)
      refine ml_cvY (c := mlc_8) mly_8 (Nat.zero_le _) ⟨⟨rfl, rfl⟩, ⟨rfl, k2, (by omega : x3.toInt ≤ 69)⟩, ⟨rfl, (by omega : 1 ≤ (x3 + 1).toInt), (by omega : (x3 + 1).toInt ≤ 70)⟩, trivial⟩ m6 ml_pf0 rfl (fun I7 L7 R7 m7 f7 I10 e10 => ?_)
      obtain ⟨m10, f10, o10⟩ := ml_copY ml_s143 (by decide +kernel) m7 f6 f7 (by omega : 0 ≤ (x3 + 1).toInt) (by omega) e10
      have i10 : I10 148 x3.toNatClampNeg = I 148 x3.toNatClampNeg := by rw [o10 _ _ (by decide) (by omega), o6 _ _ (by decide) (by omega)]
      refine ⟨v, ?_⟩
      rw [i10]
      refine ml_choosesY hd m10 bo.1 bo.2 gap bn.1 (by omega) (fun r I11 L11 R11 r0 r1 m11 f11 => ?_)
      have f11' : en_fr ml_SV w0 (xLay, I11, L11, R11) := ml_frt f10 f11 ml_s143
      have o11 : ∀ p j, p ≠ 143 → I11 p j = I10 p j := fun p j h1 => ml_g f11 (ml_143 h1)
      refine ⟨fun _ => ?_, fun q0 => absurd hx1 q0⟩
      · exact tail I11 L11 R11 r m11 f11' (fun p j h1 h2 h3 h4 h5 h6 => by rw [o11 _ _ h1, o10 _ _ h1 (fun c => h6 ⟨c.1, Or.inr c.2⟩), o6 _ _ h2 (fun c => h6 ⟨c.1, Or.inl c.2⟩)]) (fun j => by rw [o11 _ _ (by decide), o10 _ _ (by decide) (by omega)]) (by rw [o11 _ _ (by decide), o10 _ _ (by decide) (by omega)])
    · have m31 : en_mem ml_tb2 (mlY c48) (xLay, I31, L, R) := by
        rw [e31]
        exact ml_wfY m6 (by decide +kernel) (q := (0, 1)) (by decide +kernel) (by decide)
      exact hΦ x2 I31 L R f0 (by omega) m31 (by rw [e31]; exact ml_fr f6 (by decide +kernel))
theorem mly_16 {Sc : sm_C} : en_hold ml_tb2 (mlY c48) sm_P Sc mlc_16b := by
  intro d hd vs w hv hm _
  obtain ⟨vs1, rfl, hv1⟩ := kl_vr (q := 107) rfl hv
  obtain ⟨x1, vs2, rfl, b1, hv2⟩ := kl_vi hv1
  obtain rfl := kl_v0 hv2
  have hd : 7 ≤ d := hd
  obtain ⟨d, rfl⟩ : ∃ d', d = d' + 1 := ⟨d - 1, by omega⟩
  refine ml_topY hm (fun I L R hw hm => ?_)
  have fin : ∀ (r : Int32) (I2 : sm_I) (L2 : sm_L) (R2 : sm_R), 0 ≤ r.toInt → r.toInt ≤ 1000 → en_mem ml_tb2 (mlY c48) (xLay, I2, L2, R2) → en_fr ml_SV (xLay, I, L, R) (xLay, I2, L2, R2) → ∃ (o : Option Value) (I3 : sm_I) (L3 : sm_L) (R3 : sm_R), ((some (.int r) : Option Value), ((xLay, I2, L2, kM R2) : sm_W)) = (o, (xLay, I3, L3, kM R3)) ∧ en_pr mlc_16b.2.2.2.1 o ∧ en_mem ml_tb2 (mlY c48) (xLay, I3, L3, R3) ∧ en_fr mlc_16b.2.2.2.2.1 (xLay, I, L, R) (xLay, I3, L3, R3) := fun r I2 L2 R2 a b m f => ⟨_, I2, L2, R2, rfl, Or.inl ⟨rfl, a, b⟩, m, f⟩
  refine u_X12_searches_0 (fun I1 e1 => ?_)
  have m1 : en_mem ml_tb2 (mlY c48) (xLay, I1, L, R) := by
    rw [e1]
    exact ml_wfY (ml_wfY hm (by decide +kernel) (q := (0, 1001)) (by decide +kernel) (by decide)) (by decide +kernel) (q := (0, 1)) (by decide +kernel) (by decide)
  have f1 : en_fr ml_SV (xLay, I, L, R) (xLay, I1, L, R) := by rw [e1]; exact ml_fr (ml_fr en_fr_rf (by decide +kernel)) (by decide +kernel)
  refine ⟨fun _ => fin _ _ _ _ (by decide) (by decide) m1 f1, fun a => ⟨kl_in (by decide) (by decide), fun I2 e2 => ?_⟩⟩
  have bi : 0 ≤ (I1 107 59).toInt ∧ (I1 107 59).toInt ≤ 70 := m1.2.1 107 59 (0, 70) (by decide +kernel)
  have a1 : (I1 107 59).toInt ≠ 0 := fun c => a (en_ofI (by rw [c]; decide))
  have m2 : en_mem ml_tb2 (mlY c48) (xLay, I2, L, R) := by
    rw [e2]
    exact ml_we2Y m1 rfl (n := 70) (q := (0, 4)) rfl (by decide)
  have o2 : ∀ p j, p ≠ 150 → I2 p j = I1 p j := fun p j h => by rw [e2, en_up_ne _ _ _ _ (fun c => h c.1)]
  have t2 : I2 107 63 = 0 := by rw [o2 _ _ (by decide), e1, en_up_ne _ _ _ _ (by omega), en_up_eq]
  have i2 : I2 107 59 = I1 107 59 := o2 _ _ (by decide)
  refine mx_search3Y (by omega) (en_ofI (by have a : (0 : Int) ≤ x1.toInt := b1.1; have b : x1.toInt ≤ 0 := b1.2; rw [kl_0]; omega)) fin 2002 I2 L R 0 0 m2 (by rw [e2]; exact ml_fr f1 rfl) (by decide) (by rw [i2, kl_0]; omega) (by decide) (by rw [t2]; decide) (by rw [t2]; decide) (fun j hj => ?_) (by rw [t2, kl_0]; omega)
  have hj0 : j = 0 := by rw [kl_0] at hj; omega
  have z : I2 150 j = 0 := by rw [hj0, e2]; exact en_up_eq _ _ _ _
  have bo : 0 ≤ (I2 148 j).toInt ∧ (I2 148 j).toInt ≤ 69 := ml_rowY m2 (p := 148) (n := 70) (q := (0, 69)) (fun _ => rfl) _ (by omega)
  rw [z, kl_0]
  exact ml_ch0Y m2 bo.1 bo.2 (m2.2.2.2.2.2.1 _ (by omega))
end
end
section
/-! the reference's contracts with what was gone through (wip/pe/mkYm.py) -/
section
variable {c48 : Nat → Int64}
theorem mly_21 {Sc : sm_C} : en_hold ml_tb2 (mlY c48) sm_P Sc mlc_21 := en_chk_ok mlY_ok (T := [mlc_5, mlc_9, mlc_16b]) (cuts := mlu_21) (List.forall_mem_cons.mpr ⟨mly_5, List.forall_mem_cons.mpr ⟨mly_9, List.forall_mem_cons.mpr ⟨mly_16, fun _ h => absurd h List.not_mem_nil⟩⟩⟩) (by decide +kernel)
theorem mly_27 {Sc : sm_C} : en_hold ml_tb2 (mlY c48) sm_P Sc mlc_27 := en_chk_ok mlY_ok (T := [mlc_26, mlc_17, mlc_9, mlc_10]) (cuts := mlu_27) (List.forall_mem_cons.mpr ⟨mly_26, List.forall_mem_cons.mpr ⟨mly_17, List.forall_mem_cons.mpr ⟨mly_9, List.forall_mem_cons.mpr ⟨mly_10, fun _ h => absurd h List.not_mem_nil⟩⟩⟩⟩) (by decide +kernel)
theorem mly_29 {Sc : sm_C} : en_hold ml_tb2 (mlY c48) sm_P Sc mlc_29 := en_chk_ok mlY_ok (T := [mlc_17]) (cuts := mlu_29) (List.forall_mem_cons.mpr ⟨mly_17, fun _ h => absurd h List.not_mem_nil⟩) (by decide +kernel)
theorem mly_40 {Sc : sm_C} : en_hold ml_tb2 (mlY c48) sm_P Sc mlc_40 := en_chk_ok mlY_ok (T := [mlc_26, mlc_17, mlc_9, mlc_10]) (cuts := mlu_40) (List.forall_mem_cons.mpr ⟨mly_26, List.forall_mem_cons.mpr ⟨mly_17, List.forall_mem_cons.mpr ⟨mly_9, List.forall_mem_cons.mpr ⟨mly_10, fun _ h => absurd h List.not_mem_nil⟩⟩⟩⟩) (by decide +kernel)
theorem mly_46 {Sc : sm_C} : en_hold ml_tb2 (mlY c48) sm_P Sc mlc_46 := en_chk_ok mlY_ok (T := [mlc_26, mlc_17, mlc_9, mlc_10]) (cuts := mlu_46) (List.forall_mem_cons.mpr ⟨mly_26, List.forall_mem_cons.mpr ⟨mly_17, List.forall_mem_cons.mpr ⟨mly_9, List.forall_mem_cons.mpr ⟨mly_10, fun _ h => absurd h List.not_mem_nil⟩⟩⟩⟩) (by decide +kernel)
theorem mly_73 {Sc : sm_C} : en_hold ml_tb2 (mlY c48) sm_P Sc mlc_73 := en_chk_ok mlY_ok (T := [mlc_17]) (cuts := mlu_73) (List.forall_mem_cons.mpr ⟨mly_17, fun _ h => absurd h List.not_mem_nil⟩) (by decide +kernel)
theorem mly_75 {Sc : sm_C} : en_hold ml_tb2 (mlY c48) sm_P Sc mlc_75 := en_chk_ok mlY_ok (T := [mlc_17]) (cuts := mlu_75) (List.forall_mem_cons.mpr ⟨mly_17, fun _ h => absurd h List.not_mem_nil⟩) (by decide +kernel)
end
end
section
/-! the reference's contracts with what was gone through (wip/pe/mkYm.py) -/
section
variable {c48 : Nat → Int64}
theorem ml_lvY {w : sm_W} (hm : en_mem ml_tb2 (mlY c48) w) : mlV w.2.1 (w.2.1 107 18).toNatClampNeg := hm.2.2.2.2.2.2.1 _ (ml_liveY hm).2.2.1
theorem mx_oneMore1Y {S : sm_C} {d : Nat} {Φ : sm_Z → Prop} {w0 : sm_W} {x1 x2 : Int32} (b1 : 0 ≤ x1.toInt ∧ x1.toInt ≤ 3) (b2 : 0 ≤ x2.toInt ∧ x2.toInt ≤ 5) (hΦ : ∀ (I : sm_I) (L : sm_L) (R : sm_R), en_mem ml_tb2 (mlY c48) (xLay, I, L, R) → en_fr ml_SW w0 (xLay, I, L, R) → I 107 63 = 0 → Φ (none, (xLay, I, L, kM R))) : ∀ (m : Nat) (I : sm_I) (L : sm_L) (R : sm_R) (x3 : Int32), en_mem ml_tb2 (mlY c48) (xLay, I, L, R) → en_fr ml_SW w0 (xLay, I, L, R) → 0 ≤ x3.toInt → x3.toInt ≤ 10 → (I 107 67).toInt ≤ x3.toInt → 10 - x3.toInt < m → sm_wp sm_P S (d + 1) 170 1 [.ref 107, .int x1, .int x2, .int x3] [] (xLay, I, L, kM R) (0, 0) Φ := by
  intro m
  induction m with
  | zero => intro I L R x3 hm hf h0 h1 he hM; omega
  | succ m ih =>
    intro I L R x3 hm hf h0 h1 he hM
    obtain ⟨l0, l1, ln, lc⟩ := ml_liveY hm
    have l0 : 0 ≤ (I 107 18).toInt := l0
    have l1 : (I 107 18).toInt ≤ 1 := l1
    have ln : ((I 107 18).toNatClampNeg : Int) = (I 107 18).toInt := ln
    have bt : 0 ≤ (I 122 (I 107 18).toNatClampNeg).toInt ∧ (I 122 (I 107 18).toNatClampNeg).toInt ≤ 10 := ml_rowY hm (p := 122) (n := 2) (q := (0, 10)) (fun _ => rfl) _ (by omega)
    have be : 0 ≤ (I 107 67).toInt ∧ (I 107 67).toInt ≤ 10 := hm.2.1 107 67 (0, 10) (by decide +kernel)
    have c10 : (10 : Int32).toInt = 10 := by decide
    have c6 : (6 : Int32).toInt = 6 := by decide
    refine u_X12_oneMore_1 ⟨kl_in l0 (by omega), fun _ => ?_, fun a n11 e11 => ?_⟩
    · refine ml_ciY (c := mlc_10) mly_10 (Nat.zero_le _) ⟨⟨rfl, rfl⟩, trivial⟩ hm ml_pf0 rfl (fun r I1 L1 R1 r0 r1 m1 f1 => ?_)
      refine ml_cvY (c := mlc_9) mly_9 (Nat.zero_le _) ⟨⟨rfl, rfl⟩, ⟨rfl, en_crange.1, en_crange.2⟩, trivial⟩ m1 ml_pf0 rfl (fun I4 L4 R4 m4 f4 I7 e7 I8 e8 => ?_)
      refine hΦ I8 L4 R4 ?_ ?_ ?_
      · rw [e8, e7]
        exact ml_wfY (ml_wfY m4 (by decide +kernel) (q := (0, 1001)) (by decide +kernel) (by decide)) (by decide +kernel) (q := (0, 1)) (by decide +kernel) (by decide)
      · rw [e8, e7]
        exact ml_fr (ml_fr (ml_frt (ml_frt hf f1 (by decide +kernel)) f4 (by decide +kernel)) (by decide +kernel)) (by decide)
      · rw [e8, en_up_ne _ _ _ _ (by omega), e7, en_up_eq]
    · have a := kl_nle a
      have n3 := kl_nat h0
      have s := ml_in1 (x := x3) (by omega)
      have e1 : ((10 : Int32) * I 107 18).toInt = 10 * (I 107 18).toInt := ml_mu c10 rfl (by omega) (by omega)
      have e2 : n11.toInt = 10 * (I 107 18).toInt + x3.toInt := by rw [e11]; exact ml_ad e1 rfl (by omega) (by omega)
      have nn := kl_nat (i := n11) (by omega)
      have v : vp_in n11 20 := kl_in (by omega) (by omega)
      have go : sm_wp sm_P S (d + 1) 170 1 [.ref 107, .int x1, .int x2, .int (x3 + 1)] [] (xLay, I, L, kM R) (0, 0) Φ := ih I L R _ hm hf (by omega) (by omega) (by omega) (by omega)
      refine ⟨v, fun p1 => ⟨v, fun _ => go, fun p2 => ⟨kl_in be.1 (by omega), fun I12 e12 => ?_⟩⟩, fun _ => go⟩
      have V := (ml_lvY hm).1 x3.toNatClampNeg (by rw [n3]; exact a) (by
        show (I 123 (10 * (I 107 18).toNatClampNeg + x3.toNatClampNeg)).toInt ≠ -1
        rw [show 10 * (I 107 18).toNatClampNeg + x3.toNatClampNeg = n11.toNatClampNeg by omega, p1]; omega)
      have V : 0 ≤ (I 124 n11.toNatClampNeg).toInt := by
        rw [show n11.toNatClampNeg = 10 * (I 107 18).toNatClampNeg + x3.toNatClampNeg by omega]; exact V
      have bp : -1 ≤ (I 124 n11.toNatClampNeg).toInt ∧ (I 124 n11.toNatClampNeg).toInt ≤ 5 := ml_rowY hm (p := 124) (n := 20) (q := (-1, 5)) (fun _ => rfl) _ (by omega)
      have o12 : ∀ p j, p ≠ 151 → I12 p j = I p j := fun p j h => by rw [e12, en_up_ne _ _ _ _ (fun c => h c.1)]
      have m12 : en_mem ml_tb2 (mlY c48) (xLay, I12, L, R) := by
        rw [e12]
        exact ml_we2Y hm rfl (n := 10) (q := (0, 9)) rfl (by show 0 ≤ _ ∧ _ ≤ (9 : Int); omega)
      refine ⟨v, fun n13 e13 => ?_⟩
      rw [o12 _ _ (by decide)] at e13
      have q1 : ((6 : Int32) * I 124 n11.toNatClampNeg).toInt = 6 * (I 124 n11.toNatClampNeg).toInt := ml_mu c6 rfl (by omega) (by omega)
      have q2 : n13.toInt = 6 * (I 124 n11.toNatClampNeg).toInt + x2.toInt := by rw [e13]; exact ml_ad q1 rfl (by omega) (by omega)
      refine ⟨kl_in (by omega) (by omega), by rw [o12 _ _ (by decide)]; exact kl_in be.1 (by omega), fun I14 e14 I15 e15 => ?_⟩
      have m14 : en_mem ml_tb2 (mlY c48) (xLay, I14, L, R) := by
        rw [e14]
        exact ml_we2Y m12 rfl (n := 10) (q := (-2147483648, 2147483647)) rfl en_crange
      have g14 : I14 107 67 = I 107 67 := by rw [e14, en_up_ne _ _ _ _ (fun c => absurd c.1 (by decide)), o12 _ _ (by decide)]
      have s67 : (I 107 67 + 1).toInt = (I 107 67).toInt + 1 := ml_in1 (by omega)
      have g15 : I15 107 67 = I 107 67 + 1 := by rw [e15, g14, en_up_eq]
      refine ih I15 L R _ ?_ ?_ (by omega) (by omega) (by rw [g15]; omega) (by omega)
      · rw [e15, g14]
        exact ml_wfY m14 (by decide +kernel) (q := (0, 10)) (by decide +kernel) (by show 0 ≤ _ ∧ _ ≤ (10 : Int); omega)
      · rw [e15]
        refine ml_fr ?_ (by decide)
        rw [e14]
        refine ml_fr ?_ rfl
        rw [e12]
        exact ml_fr hf rfl
theorem mx_oneMoreY {S : sm_C} {d : Nat} {Φ : sm_Z → Prop} {w0 : sm_W} {x1 x2 : Int32} (b1 : 0 ≤ x1.toInt ∧ x1.toInt ≤ 3) (b2 : 0 ≤ x2.toInt ∧ x2.toInt ≤ 5) {I : sm_I} {L : sm_L} {R : sm_R} (hm : en_mem ml_tb2 (mlY c48) (xLay, I, L, R)) (hf : en_fr ml_SW w0 (xLay, I, L, R)) (hΦ : ∀ (I : sm_I) (L : sm_L) (R : sm_R), en_mem ml_tb2 (mlY c48) (xLay, I, L, R) → en_fr ml_SW w0 (xLay, I, L, R) → I 107 63 = 0 → Φ (none, (xLay, I, L, kM R))) : sm_wp sm_P S (d + 1) 170 0 [.ref 107, .int x1, .int x2] [] (xLay, I, L, kM R) (0, 0) Φ := by
  refine u_X12_oneMore_0 (fun I1 e1 I2 e2 => ?_)
  refine mx_oneMore1Y b1 b2 hΦ 11 I2 L R 0 ?_ ?_ (by decide) (by decide) ?_ (by decide)
  · rw [e2, e1]
    exact ml_wfY (ml_wfY (ml_wfY hm (by decide +kernel) (q := (0, 1)) (by decide +kernel) (by decide)) (by decide +kernel) (q := (-2147483648, 2147483647)) (by decide +kernel) (by decide)) (by decide +kernel) (q := (0, 10)) (by decide +kernel) (by decide)
  · rw [e2, e1]
    exact ml_fr (ml_fr (ml_fr hf (by decide +kernel)) (by decide +kernel)) (by decide)
  · rw [e2, en_up_eq]; decide
theorem mly_11 {Sc : sm_C} : en_hold ml_tb2 (mlY c48) sm_P Sc mlc_11 := by
  intro d hd vs w hv hm _
  obtain ⟨vs1, rfl, hv1⟩ := kl_vr (q := 107) rfl hv
  obtain ⟨x1, vs2, rfl, b1, hv2⟩ := kl_vi hv1
  obtain ⟨x2, vs3, rfl, b2, hv3⟩ := kl_vi hv2
  obtain rfl := kl_v0 hv3
  have hd : 3 ≤ d := hd
  obtain ⟨d, rfl⟩ : ∃ d', d = d' + 1 := ⟨d - 1, by omega⟩
  refine ml_topY hm (fun I L R hw hm => ?_)
  exact mx_oneMoreY b1 b2 hm en_fr_rf (fun I2 L2 R2 m f _ => ⟨none, I2, L2, R2, rfl, rfl, m, f⟩)
theorem mx_lays3Y {S : sm_C} {d : Nat} {Φ : sm_Z → Prop} {w0 : sm_W} {x1 : Int32} (hd : 4 ≤ d) (b1 : 0 ≤ x1.toInt ∧ x1.toInt ≤ 999) (hΦ : ∀ (r : Int32) (I : sm_I) (L : sm_L) (R : sm_R), 0 ≤ r.toInt → r.toInt ≤ 1 → en_mem ml_tb2 (mlY c48) (xLay, I, L, R) → en_fr ml_SW w0 (xLay, I, L, R) → Φ (some (.int r), (xLay, I, L, kM R))) : ∀ (m : Nat) (I : sm_I) (L : sm_L) (R : sm_R) (x3 : Int32), en_mem ml_tb2 (mlY c48) (xLay, I, L, R) → en_fr ml_SW w0 (xLay, I, L, R) → 0 ≤ x3.toInt → (I 107 59).toInt - x3.toInt ≤ m → sm_wp sm_P S (d + 1) 156 3 [.ref 107, .int x1, .int x3] [] (xLay, I, L, kM R) (0, 0) Φ := by
  intro m
  induction m with
  | zero =>
    intro I L R x3 hm hf h0 hM
    refine u_X12_lays_3 ⟨fun _ => hΦ _ I L R (by decide) (by decide) hm hf, fun a => ?_⟩
    have := kl_nle a
    omega
  | succ m ih =>
    intro I L R x3 hm hf h0 hM
    have bi : 0 ≤ (I 107 59).toInt ∧ (I 107 59).toInt ≤ 70 := hm.2.1 107 59 (0, 70) (by decide +kernel)
    have c55 : (55 : Int32).toInt = 55 := by decide
    refine u_X12_lays_3 ⟨fun _ => hΦ _ I L R (by decide) (by decide) hm hf, fun a => ?_⟩
    have a := kl_nle a
    have n3 := kl_nat h0
    have s := ml_in1 (x := x3) (by omega)
    have e1 : ((55 : Int32) * x1).toInt = 55 * x1.toInt := ml_mu c55 rfl (by omega) (by omega)
    have e2 : ((55 : Int32) * x1 + x3).toInt = 55 * x1.toInt + x3.toInt := ml_ad e1 rfl (by omega) (by omega)
    have ne := kl_nat (i := (55 : Int32) * x1 + x3) (by omega)
    have bo : 0 ≤ (I 148 x3.toNatClampNeg).toInt ∧ (I 148 x3.toNatClampNeg).toInt ≤ 69 := ml_rowY hm (p := 148) (n := 70) (q := (0, 69)) (fun _ => rfl) _ (by omega)
    have bw : 0 ≤ (I 153 ((55 : Int32) * x1 + x3).toNatClampNeg).toInt ∧ (I 153 ((55 : Int32) * x1 + x3).toNatClampNeg).toInt ≤ 3 := ml_rowY hm (p := 153) (n := 55100) (q := (0, 3)) (fun _ => rfl) _ (by omega)
    refine ⟨kl_in h0 (by omega), kl_in (by omega) (by omega), fun n1 en1 => ?_⟩
    refine ml_choosesY hd hm bo.1 bo.2 (hm.2.2.2.2.2.1 _ (by omega)) (by rw [en1]; exact bw.1) (by rw [en1]; exact bw.2) (fun r I2 L2 R2 r0 r1 m2 f2 => ?_)
    have hf2 : en_fr ml_SW w0 (xLay, I2, L2, R2) := ml_frt hf f2 (by decide +kernel)
    have g2 : I2 107 59 = I 107 59 := ml_g f2 rfl
    exact ⟨fun _ => hΦ _ I2 L2 R2 (by decide) (by decide) m2 hf2, fun _ => ih I2 L2 R2 _ m2 hf2 (by omega) (by rw [g2]; omega)⟩
theorem mly_18 {Sc : sm_C} : en_hold ml_tb2 (mlY c48) sm_P Sc mlc_18 := by
  intro d hd vs w hv hm _
  obtain ⟨vs1, rfl, hv1⟩ := kl_vr (q := 107) rfl hv
  obtain ⟨x1, vs2, rfl, b1, hv2⟩ := kl_vi hv1
  obtain ⟨x2, vs3, rfl, b2, hv3⟩ := kl_vi hv2
  obtain rfl := kl_v0 hv3
  have hd : 7 ≤ d := hd
  obtain ⟨d, rfl⟩ : ∃ d', d = d' + 1 := ⟨d - 1, by omega⟩
  refine ml_topY hm (fun I L R hw hm => ?_)
  have fin : ∀ (r : Int32) (I2 : sm_I) (L2 : sm_L) (R2 : sm_R), 0 ≤ r.toInt → r.toInt ≤ 1 → en_mem ml_tb2 (mlY c48) (xLay, I2, L2, R2) → en_fr ml_SW (xLay, I, L, R) (xLay, I2, L2, R2) → ∃ (o : Option Value) (I3 : sm_I) (L3 : sm_L) (R3 : sm_R), ((some (.int r) : Option Value), ((xLay, I2, L2, kM R2) : sm_W)) = (o, (xLay, I3, L3, kM R3)) ∧ en_pr mlc_18.2.2.2.1 o ∧ en_mem ml_tb2 (mlY c48) (xLay, I3, L3, R3) ∧ en_fr mlc_18.2.2.2.2.1 (xLay, I, L, R) (xLay, I3, L3, R3) := fun r I2 L2 R2 a b m f => ⟨_, I2, L2, R2, rfl, Or.inl ⟨rfl, a, b⟩, m, f⟩
  have h01 : x2 = 0 ∨ x2 = 1 := by
    rcases ml_i3 b2.1 (by omega) with e | e | e | e
    · exact Or.inl e
    · exact Or.inr e
    · subst e; exact absurd b2.2 (by decide)
    · subst e; exact absurd b2.2 (by decide)
  refine u_X12_lays_0 ⟨h01, fun I1 e1 I2 e2 => ?_⟩
  have m2 : en_mem ml_tb2 (mlY c48) (xLay, I2, L, R) := by
    rw [e2, e1]
    exact ml_wfY (ml_wfY (ml_wfY hm (by decide +kernel) (q := (0, 1)) (by decide +kernel) b2) (by decide +kernel) (q := (-2147483648, 2147483647)) (by decide +kernel) (by decide)) (by decide +kernel) (q := (0, 10)) (by decide +kernel) (by decide)
  have f2 : en_fr ml_SW (xLay, I, L, R) (xLay, I2, L, R) := by
    rw [e2, e1]
    exact ml_fr (ml_fr (ml_fr en_fr_rf (by decide +kernel)) (by decide +kernel)) (by decide)
  refine ml_ciY (c := mlc_10) mly_10 (Nat.zero_le _) ⟨⟨rfl, rfl⟩, trivial⟩ m2 ml_pf0 rfl (fun r I3 L3 R3 r0 r1 m3 f3 => ?_)
  refine ml_cvY (c := mlc_9) mly_9 (Nat.zero_le _) ⟨⟨rfl, rfl⟩, ⟨rfl, en_crange.1, en_crange.2⟩, trivial⟩ m3 ml_pf0 rfl (fun I4 L4 R4 m4 f4 => ?_)
  obtain ⟨l0, l1, ln, lc⟩ := ml_liveY m4
  have l0 : 0 ≤ (I4 107 18).toInt := l0
  have l1 : (I4 107 18).toInt ≤ 1 := l1
  have ln : ((I4 107 18).toNatClampNeg : Int) = (I4 107 18).toInt := ln
  have bt : 0 ≤ (I4 122 (I4 107 18).toNatClampNeg).toInt ∧ (I4 122 (I4 107 18).toNatClampNeg).toInt ≤ 10 := ml_rowY m4 (p := 122) (n := 2) (q := (0, 10)) (fun _ => rfl) _ (by omega)
  refine ⟨kl_in l0 (by omega), fun n9 e9 => ?_⟩
  have s9 : n9.toInt = (I4 122 (I4 107 18).toNatClampNeg).toInt + 1 := by rw [e9]; exact ml_in1 (by omega)
  refine ml_ciY (c := mlc_5) mly_5 (by show 4 ≤ d; omega) ⟨⟨rfl, rfl⟩, ⟨rfl, (by omega : (1 : Int) ≤ n9.toInt), (by omega : n9.toInt ≤ (12 : Int))⟩, trivial⟩ m4 ml_pf0 rfl (fun r5 I5 L5 R5 q0 q1 m5 f5 => ?_)
  have hf5 : en_fr ml_SW (xLay, I, L, R) (xLay, I5, L5, R5) := ml_frt (ml_frt (ml_frt f2 f3 (by decide +kernel)) f4 (by decide +kernel)) f5 (by decide)
  refine ⟨fun _ => fin _ _ _ _ (by decide) (by decide) m5 hf5, fun _ => ?_⟩
  refine ml_cvY (c := mlc_8) mly_8 (Nat.zero_le _) ⟨⟨rfl, rfl⟩, ⟨rfl, by decide, by decide⟩, ⟨rfl, by decide, by decide⟩, trivial⟩ m5 ml_pf0 rfl (fun I6 L6 R6 m6 f6 I7 e7 => ?_)
  have m7 : en_mem ml_tb2 (mlY c48) (xLay, I7, L6, R6) := by
    rw [e7]
    exact ml_wfY m6 (by decide +kernel) (q := (0, 70)) (by decide +kernel) (by decide)
  have bi : 0 ≤ (I7 107 59).toInt ∧ (I7 107 59).toInt ≤ 70 := m7.2.1 107 59 (0, 70) (by decide +kernel)
  exact mx_lays3Y (by omega) b1 fin 70 I7 L6 R6 0 m7 (by rw [e7]; exact ml_fr (ml_frt hf5 f6 (by decide +kernel)) (by decide +kernel)) (by decide) (by rw [kl_0]; omega)
theorem mx_gives1Y {S : sm_C} {d : Nat} {Φ : sm_Z → Prop} {w0 : sm_W} (hd : mlc_21.2.2.2.2.2 ≤ d) (hΦ : ∀ (r : Int32) (I : sm_I) (L : sm_L) (R : sm_R), en_mem ml_tb2 (mlY c48) (xLay, I, L, R) → en_fr ml_SW w0 (xLay, I, L, R) → Φ (some (.int r), (xLay, I, L, kM R))) : ∀ (m : Nat) (I : sm_I) (L : sm_L) (R : sm_R) (x2 x3 : Int32), en_mem ml_tb2 (mlY c48) (xLay, I, L, R) → en_fr ml_SW w0 (xLay, I, L, R) → 0 ≤ x2.toInt → x2.toInt ≤ x3.toInt → x3.toInt ≤ 1441 → x3.toInt - x2.toInt < m → sm_wp sm_P S (d + 1) 131 1 [.ref 107, .int x2, .int x3] [] (xLay, I, L, kM R) (0, 0) Φ := by
  intro m
  induction m with
  | zero => intro I L R x2 x3 hm hf h0 h1 h2 hM; omega
  | succ m ih =>
    intro I L R x2 x3 hm hf h0 h1 h2 hM
    refine u_X12_gives_1 ⟨fun _ => hΦ _ I L R hm hf, fun a => ⟨by decide, fun I1 e1 => ?_⟩⟩
    have a := kl_nle a
    have hh := ml_half h0 a h2
    have m1 : en_mem ml_tb2 (mlY c48) (xLay, I1, L, R) := by
      rw [e1]
      exact ml_wfY hm (by decide +kernel) (q := (0, 1441)) (by decide +kernel) (by show 0 ≤ _ ∧ _ ≤ (1441 : Int); omega)
    refine ml_ciY (c := mlc_10) mly_10 (Nat.zero_le _) ⟨⟨rfl, rfl⟩, trivial⟩ m1 ml_pf0 rfl (fun r I2 L2 R2 r0 r1 m2 f2 => ?_)
    refine ml_ciY (c := mlc_21) mly_21 hd ⟨⟨rfl, rfl⟩, ⟨rfl, en_crange.1, en_crange.2⟩, trivial⟩ m2 ml_pf0 rfl (fun r3 I3 L3 R3 q0 q1 m3 f3 => ?_)
    have hf3 : en_fr ml_SW w0 (xLay, I3, L3, R3) := ml_frt (ml_frt (by rw [e1]; exact ml_fr hf (by decide +kernel)) f2 (by decide +kernel)) f3 (by decide)
    refine ⟨fun _ => ⟨fun _ n8 e8 => ?_, fun _ => ?_⟩, fun _ => hΦ _ _ _ _ m3 hf3⟩
    · have s8 : n8.toInt = (x2.toInt + x3.toInt) / 2 + 1 := by rw [e8, ml_in1 (by omega), hh]
      exact ih I3 L3 R3 n8 x3 m3 hf3 (by omega) (by omega) h2 (by omega)
    · exact ih I3 L3 R3 x2 _ m3 hf3 h0 (by omega) (by omega) (by omega)
theorem mly_42 {Sc : sm_C} : en_hold ml_tb2 (mlY c48) sm_P Sc mlc_42 := by
  intro d hd vs w hv hm _
  obtain ⟨vs1, rfl, hv1⟩ := kl_vr (q := 107) rfl hv
  obtain ⟨x1, vs2, rfl, b1, hv2⟩ := kl_vi hv1
  obtain rfl := kl_v0 hv2
  have hd : 10 ≤ d := hd
  obtain ⟨d, rfl⟩ : ∃ d', d = d' + 1 := ⟨d - 1, by omega⟩
  refine ml_topY hm (fun I L R hw hm => ?_)
  refine u_X12_gives_0 (fun I1 e1 => ?_)
  refine mx_gives1Y (by show mlc_21.2.2.2.2.2 ≤ d; exact Nat.le_trans (by decide : _ ≤ 9) (by omega)) (fun r I2 L2 R2 m f => ⟨_, I2, L2, R2, rfl, Or.inl ⟨rfl, en_crange.1, en_crange.2⟩, m, f⟩) 1442 I1 L R 0 1441 ?_ ?_ (by decide) (by decide) (by decide) (by decide)
  · rw [e1]
    exact ml_wfY (ml_wfY hm (by decide +kernel) (q := (-2147483648, 2147483647)) (by decide +kernel) en_crange) (by decide +kernel) (q := (0, 10)) (by decide +kernel) (by decide)
  · rw [e1]
    exact ml_fr (ml_fr en_fr_rf (by decide +kernel)) (by decide)
theorem ml_qaddY {I J K : sm_I} {L : sm_L} {R : sm_R} {w0 : sm_W} {p q : Nat} {v : Int32} (hp : (p = 158 ∧ q = 82) ∨ (p = 159 ∧ q = 84)) (hm : en_mem ml_tb2 (mlY c48) (xLay, I, L, R)) (hf : en_fr ml_SW w0 (xLay, I, L, R)) (hn : (I 107 q).toInt ≤ 1023) (hv : 0 ≤ v.toInt ∧ v.toInt ≤ 1023) (e1 : J = sm_up I p (I 107 q).toNatClampNeg v) (e2 : K = sm_up J 107 q (J 107 q + 1)) : en_mem ml_tb2 (mlY c48) (xLay, K, L, R) ∧ en_fr ml_SW w0 (xLay, K, L, R) ∧ (K 107 q).toInt = (I 107 q).toInt + 1 ∧ (∀ j, j ≠ q → K 107 j = I 107 j) := by
  have hp7 : p ≠ 107 := by omega
  have g : J 107 q = I 107 q := by rw [e1, en_up_ne _ _ _ _ (fun c => hp7 c.1.symm)]
  have bq : 0 ≤ (I 107 q).toInt ∧ (I 107 q).toInt ≤ 1024 := by
    rcases hp with ⟨-, e⟩ | ⟨-, e⟩ <;> subst e
    · exact hm.2.1 107 82 (0, 1024) (by decide +kernel)
    · exact hm.2.1 107 84 (0, 1024) (by decide +kernel)
  have s := ml_in1 (x := I 107 q) (by omega)
  have mJ : en_mem ml_tb2 (mlY c48) (xLay, J, L, R) := by
    rw [e1]
    rcases hp with ⟨e, -⟩ | ⟨e, -⟩ <;> subst e
    · exact ml_we2Y hm rfl (n := 1024) (q := (0, 1023)) rfl hv
    · exact ml_we2Y hm rfl (n := 1024) (q := (0, 1023)) rfl hv
  refine ⟨?_, ?_, ?_, fun j hj => ?_⟩
  · rw [e2, g]
    rcases hp with ⟨-, e⟩ | ⟨-, e⟩ <;> subst e
    · exact ml_wfY mJ (by decide +kernel) (q := (0, 1024)) (by decide +kernel) (by show 0 ≤ _ ∧ _ ≤ (1024 : Int); omega)
    · exact ml_wfY mJ (by decide +kernel) (q := (0, 1024)) (by decide +kernel) (by show 0 ≤ _ ∧ _ ≤ (1024 : Int); omega)
  · rw [e2, e1]
    rcases hp with ⟨e, e'⟩ | ⟨e, e'⟩ <;> subst e <;> subst e'
    · exact ml_fr (ml_fr hf rfl) (by decide)
    · exact ml_fr (ml_fr hf rfl) (by decide)
  · rw [e2, g, en_up_eq]; exact s
  · rw [e2, en_up_ne _ _ _ _ (fun c => hj c.2), e1, en_up_ne _ _ _ _ (fun c => hp7 c.1.symm)]
theorem mx_sets22Y {S : sm_C} {d : Nat} {Φ : sm_Z → Prop} {w0 : sm_W} {L : sm_L} {R : sm_R} {x2 x3 x4 : Int32} (b2 : 0 ≤ x2.toInt ∧ x2.toInt ≤ 1023) (b4 : 0 ≤ x4.toInt ∧ x4.toInt ≤ 1023) (hfx : ml_f x4.toNatClampNeg = x3.toInt) (I : sm_I) (hm : en_mem ml_tb2 (mlY c48) (xLay, I, L, R)) (hf : en_fr ml_SW w0 (xLay, I, L, R)) (hq : ml_Q I (ml_C x3.toInt x4.toNatClampNeg)) (hk : ∀ J : sm_I, en_mem ml_tb2 (mlY c48) (xLay, J, L, R) → en_fr ml_SW w0 (xLay, J, L, R) → ml_Q J (ml_C x3.toInt (x4.toNatClampNeg + 1)) → sm_wp sm_P S (d + 1) 190 14 [.ref 107, .int x2, .int x3, .int (x4 + 1)] [] (xLay, J, L, kM R) (0, 0) Φ) : ∀ (m : Nat) (x5 x6 x7 : Int32), 0 ≤ x7.toInt → 10 - x7.toInt ≤ m → sm_wp sm_P S (d + 1) 190 22 [.ref 107, .int x2, .int x3, .int x4, .int x5, .int x6, .int x7] [] (xLay, I, L, kM R) (0, 0) Φ := by
  have c10 : (10 : Int32).toInt = 10 := by decide
  have n4 := kl_nat b4.1
  have cs := ml_C_st (n := x3.toInt) (s := x4.toNatClampNeg) (by omega) hfx
  have cl := ml_C_le x3.toInt (x4.toNatClampNeg + 1)
  have b82 : 0 ≤ (I 107 82).toInt ∧ (I 107 82).toInt ≤ 1024 := hm.2.1 107 82 (0, 1024) (by decide +kernel)
  have b84 : 0 ≤ (I 107 84).toInt ∧ (I 107 84).toInt ≤ 1024 := hm.2.1 107 84 (0, 1024) (by decide +kernel)
  obtain ⟨hq1, hq2⟩ := hq
  have fin : ∀ x5 x6 : Int32, ((x5 = 0 → ((x6 = 0 → sm_wp sm_P S (d + 1) 190 14 [.ref 107, .int x2, .int x3, .int (x4 + (1 : Int32))] [] (xLay, I, L, (kM R)) (0, 0) Φ) ∧ (¬ x6 = 0 → (vp_in (I 107 84) 1024) ∧ ∀ I1 : sm_I, I1 = (sm_up I 159 (I 107 84).toNatClampNeg x4) → ∀ I2 : sm_I, I2 = (sm_up I1 107 84 ((I1 107 84) + (1 : Int32))) → sm_wp sm_P S (d + 1) 190 14 [.ref 107, .int x2, .int x3, .int (x4 + (1 : Int32))] [] (xLay, I2, L, (kM R)) (0, 0) Φ))) ∧ (¬ x5 = 0 → (vp_in (I 107 82) 1024) ∧ ∀ I4 : sm_I, I4 = (sm_up I 158 (I 107 82).toNatClampNeg x4) → ∀ I5 : sm_I, I5 = (sm_up I4 107 82 ((I4 107 82) + (1 : Int32))) → ((x6 = 0 → sm_wp sm_P S (d + 1) 190 14 [.ref 107, .int x2, .int x3, .int (x4 + (1 : Int32))] [] (xLay, I5, L, (kM R)) (0, 0) Φ) ∧ (¬ x6 = 0 → (vp_in (I5 107 84) 1024) ∧ ∀ I6 : sm_I, I6 = (sm_up I5 159 (I5 107 84).toNatClampNeg x4) → ∀ I7 : sm_I, I7 = (sm_up I6 107 84 ((I6 107 84) + (1 : Int32))) → sm_wp sm_P S (d + 1) 190 14 [.ref 107, .int x2, .int x3, .int (x4 + (1 : Int32))] [] (xLay, I7, L, (kM R)) (0, 0) Φ)))) := by
    intro x5 x6
    refine ⟨fun _ => ⟨fun _ => hk I hm hf ⟨by omega, by omega⟩, fun _ => ⟨kl_in b84.1 (by omega), fun I1 e1 I2 e2 => ?_⟩⟩, fun _ => ⟨kl_in b82.1 (by omega), fun I4 e4 I5 e5 => ?_⟩⟩
    · obtain ⟨q1, q2, q3, q4⟩ := ml_qaddY (Or.inr ⟨rfl, rfl⟩) hm hf (by omega) b4 e1 e2
      exact hk I2 q1 q2 ⟨by rw [q4 82 (by decide)]; omega, by omega⟩
    · obtain ⟨q1, q2, q3, q4⟩ := ml_qaddY (Or.inl ⟨rfl, rfl⟩) hm hf (by omega) b4 e4 e5
      have q84 : I5 107 84 = I 107 84 := q4 84 (by decide)
      refine ⟨fun _ => hk I5 q1 q2 ⟨by omega, by rw [q84]; omega⟩, fun _ => ⟨by rw [q84]; exact kl_in b84.1 (by omega), fun I6 e6 I7 e7 => ?_⟩⟩
      obtain ⟨p1, p2, p3, p4⟩ := ml_qaddY (Or.inr ⟨rfl, rfl⟩) q1 q2 (by rw [q84]; omega) b4 e6 e7
      exact hk I7 p1 p2 ⟨by rw [p4 82 (by decide)]; omega, by rw [q84] at p3; omega⟩
  intro m
  induction m with
  | zero =>
    intro x5 x6 x7 h0 hM
    refine u_X12_sets_22 ⟨fun _ => fin x5 x6, fun a => ?_⟩
    have := kl_nle a
    omega
  | succ m ih =>
    intro x5 x6 x7 h0 hM
    refine u_X12_sets_22 ⟨fun _ => fin x5 x6, fun a => ?_⟩
    have a := kl_nle a
    rw [c10] at a
    have s := ml_in1 (x := x7) (by omega)
    have go : ∀ x5 x6 : Int32, sm_wp sm_P S (d + 1) 190 34 [.ref 107, .int x2, .int x3, .int x4, .int x5, .int x6, .int x7] [] (xLay, I, L, kM R) (0, 0) Φ := fun x5 x6 => u_X12_sets_34 (ih x5 x6 _ (by omega) (by omega))
    have g33 : ∀ x5 s0 : Int32, sm_wp sm_P S (d + 1) 190 33 [.ref 107, .int x2, .int x3, .int x4, .int x5, .int x7] [.int s0] (xLay, I, L, kM R) (0, 0) Φ := fun x5 s0 => u_X12_sets_33 (go x5 s0)
    have g29 : ∀ s0 : Int32, sm_wp sm_P S (d + 1) 190 29 [.ref 107, .int x2, .int x3, .int x4, .int x6, .int x7] [.int s0] (xLay, I, L, kM R) (0, 0) Φ := fun s0 => u_X12_sets_29 ⟨fun _ => g33 _ _, fun _ n1 e1 => by
      have b := ml_or (ml_and (y := x4 ^^^ (-1 : Int32)) b2.1 b2.2) (ml_shl h0 (by omega))
      rw [← e1] at b
      exact ⟨kl_in b.1 (by omega), fun _ => g33 _ _, fun _ => g33 _ _⟩⟩
    refine ⟨fun _ => go _ _, fun _ => ⟨fun _ => g29 _, fun _ n10 e10 => ?_⟩⟩
    have b := ml_and (x := x4) (y := ((1 : Int32) <<< (x7 &&& 31)) ^^^ (-1 : Int32)) b4.1 b4.2
    rw [← e10] at b
    exact ⟨kl_in b.1 (by omega), fun _ => g29 _, fun _ => g29 _⟩
theorem mx_sets14Y {S : sm_C} {d : Nat} {Φ : sm_Z → Prop} {w0 : sm_W} {L : sm_L} {R : sm_R} {x2 x3 : Int32} (b2 : 0 ≤ x2.toInt ∧ x2.toInt ≤ 1023) (hk : ∀ J : sm_I, en_mem ml_tb2 (mlY c48) (xLay, J, L, R) → en_fr ml_SW w0 (xLay, J, L, R) → ml_Q J (ml_C (x3.toInt + 1) 0) → sm_wp sm_P S (d + 1) 190 12 [.ref 107, .int x2, .int (x3 + 1)] [] (xLay, J, L, kM R) (0, 0) Φ) : ∀ (m : Nat) (I : sm_I) (x4 : Int32), en_mem ml_tb2 (mlY c48) (xLay, I, L, R) → en_fr ml_SW w0 (xLay, I, L, R) → 0 ≤ x4.toInt → ml_Q I (ml_C x3.toInt x4.toNatClampNeg) → 1024 - x4.toInt ≤ m → sm_wp sm_P S (d + 1) 190 14 [.ref 107, .int x2, .int x3, .int x4] [] (xLay, I, L, kM R) (0, 0) Φ := by
  have c : (1024 : Int32).toInt = 1024 := by decide
  have done : ∀ (I : sm_I) (x4 : Int32), en_mem ml_tb2 (mlY c48) (xLay, I, L, R) → en_fr ml_SW w0 (xLay, I, L, R) → ml_Q I (ml_C x3.toInt x4.toNatClampNeg) → sm_wp sm_P S (d + 1) 190 12 [.ref 107, .int x2, .int (x3 + 1)] [] (xLay, I, L, kM R) (0, 0) Φ := fun I x4 hm hf hq => hk I hm hf (by
    have := ml_C_nx x3.toInt x4.toNatClampNeg
    exact ⟨by have := hq.1; omega, by have := hq.2; omega⟩)
  intro m
  induction m with
  | zero =>
    intro I x4 hm hf h0 hq hM
    refine u_X12_sets_14 ⟨fun _ => done I x4 hm hf hq, fun a => ?_⟩
    have := kl_nle a
    omega
  | succ m ih =>
    intro I x4 hm hf h0 hq hM
    refine u_X12_sets_14 ⟨fun _ => done I x4 hm hf hq, fun a => ?_⟩
    have a := kl_nle a
    rw [c] at a
    have s := ml_in1 (x := x4) (by omega)
    have n4 := kl_nat h0
    have n41 := kl_nat (i := x4 + 1) (by omega)
    have e41 : (x4 + 1).toNatClampNeg = x4.toNatClampNeg + 1 := by omega
    have go : ∀ J : sm_I, en_mem ml_tb2 (mlY c48) (xLay, J, L, R) → en_fr ml_SW w0 (xLay, J, L, R) → ml_Q J (ml_C x3.toInt (x4.toNatClampNeg + 1)) → sm_wp sm_P S (d + 1) 190 14 [.ref 107, .int x2, .int x3, .int (x4 + 1)] [] (xLay, J, L, kM R) (0, 0) Φ := fun J mJ fJ qJ => ih J _ mJ fJ (by omega) (by rw [e41]; exact qJ) (by omega)
    have hq' : ml_Q I (ml_C x3.toInt (x4.toNatClampNeg + 1)) := by
      have := ml_C_mo x3.toInt x4.toNatClampNeg
      exact ⟨by have := hq.1; omega, by have := hq.2; omega⟩
    refine ⟨fun _ => mx_bits ⟨_, I, L, R, rfl, fun e => ⟨kl_in h0 (by omega), fun _ n5 e5 => ?_, fun _ n5 e5 => ?_⟩, fun _ => go I hm hf hq'⟩, fun _ => go I hm hf hq'⟩
    all_goals
      have b := ml_and (x := x2) (y := x4 ^^^ (-1 : Int32)) b2.1 b2.2
      rw [← e5] at b
      refine ⟨kl_in b.1 (by omega), mx_sets22Y b2 ⟨h0, by omega⟩ (by rw [ml_f_eq h0, e]) I hm hf hq go 10 _ _ 0 (by decide) (by decide)⟩
theorem mx_sets12Y {S : sm_C} {d : Nat} {Φ : sm_Z → Prop} {w0 : sm_W} {L : sm_L} {R : sm_R} {x2 : Int32} (b2 : 0 ≤ x2.toInt ∧ x2.toInt ≤ 1023) (hΦ : ∀ (I : sm_I), en_mem ml_tb2 (mlY c48) (xLay, I, L, R) → en_fr ml_SW w0 (xLay, I, L, R) → Φ (none, (xLay, I, L, kM R))) : ∀ (m : Nat) (I : sm_I) (x3 : Int32), en_mem ml_tb2 (mlY c48) (xLay, I, L, R) → en_fr ml_SW w0 (xLay, I, L, R) → 0 ≤ x3.toInt → ml_Q I (ml_C x3.toInt 0) → 11 - x3.toInt < m → sm_wp sm_P S (d + 1) 190 12 [.ref 107, .int x2, .int x3] [] (xLay, I, L, kM R) (0, 0) Φ := by
  have bb := ml_bt_le x2 10 0 0 (by decide) (by decide)
  rw [kl_0] at bb
  intro m
  induction m with
  | zero =>
    intro I x3 hm hf h0 hq hM
    refine u_X12_sets_12 (mx_bits ⟨_, I, L, R, rfl, fun _ => hΦ I hm hf, fun a => ?_⟩)
    have := kl_nlt a
    omega
  | succ m ih =>
    intro I x3 hm hf h0 hq hM
    refine u_X12_sets_12 (mx_bits ⟨_, I, L, R, rfl, fun _ => hΦ I hm hf, fun a => ?_⟩)
    have a := kl_nlt a
    have s := ml_in1 (x := x3) (by omega)
    refine mx_sets14Y b2 (fun J mJ fJ qJ => ih J _ mJ fJ (by omega) (by rw [s]; exact qJ) (by omega)) 1024 I 0 hm hf (by decide) ?_ (by decide)
    have z : (0 : Int32).toNatClampNeg = 0 := by decide
    rw [z]; exact hq
theorem mx_sets3Y {S : sm_C} {d : Nat} {Φ : sm_Z → Prop} {w0 : sm_W} {x1 x2 : Int32} (hd : mlc_21.2.2.2.2.2 ≤ d) (b2 : 0 ≤ x2.toInt ∧ x2.toInt ≤ 1023) (hΦ : ∀ (I : sm_I) (L : sm_L) (R : sm_R), en_mem ml_tb2 (mlY c48) (xLay, I, L, R) → en_fr ml_SW w0 (xLay, I, L, R) → Φ (none, (xLay, I, L, kM R))) : ∀ (m : Nat) (I : sm_I) (L : sm_L) (R : sm_R) (x3 : Int32), en_mem ml_tb2 (mlY c48) (xLay, I, L, R) → en_fr ml_SW w0 (xLay, I, L, R) → 0 ≤ x3.toInt → I 107 82 = 0 → I 107 84 = 0 → 1024 - x3.toInt ≤ m → sm_wp sm_P S (d + 1) 190 3 [.ref 107, .int x1, .int x2, .int x3] [] (xLay, I, L, kM R) (0, 0) Φ := by
  have c : (1024 : Int32).toInt = 1024 := by decide
  have done : ∀ (I : sm_I) (L : sm_L) (R : sm_R), en_mem ml_tb2 (mlY c48) (xLay, I, L, R) → en_fr ml_SW w0 (xLay, I, L, R) → I 107 82 = 0 → I 107 84 = 0 → sm_wp sm_P S (d + 1) 190 12 [.ref 107, .int x2, .int (0 : Int32)] [] (xLay, I, L, kM R) (0, 0) Φ := fun I L R hm hf q1 q2 => mx_sets12Y b2 (fun J mJ fJ => hΦ J L R mJ fJ) 12 I 0 hm hf (by decide) ⟨by rw [q1, kl_0]; omega, by rw [q2, kl_0]; omega⟩ (by decide)
  intro m
  induction m with
  | zero =>
    intro I L R x3 hm hf h0 q1 q2 hM
    refine u_X12_sets_3 ⟨fun _ => ⟨fun _ => done I L R hm hf q1 q2, fun _ => hΦ I L R hm hf⟩, fun a => ?_⟩
    have := kl_nle a
    omega
  | succ m ih =>
    intro I L R x3 hm hf h0 q1 q2 hM
    refine u_X12_sets_3 ⟨fun _ => ⟨fun _ => done I L R hm hf q1 q2, fun _ => hΦ I L R hm hf⟩, fun a => ⟨fun _ => ⟨fun _ => ?_, fun _ => ?_⟩, fun _ => ⟨fun _ => done I L R hm hf q1 q2, fun _ => hΦ I L R hm hf⟩⟩⟩
    all_goals
      have a := kl_nle a
      rw [c] at a
      have s := ml_in1 (x := x3) (by omega)
    · refine ml_ciY (c := mlc_21) mly_21 hd ⟨⟨rfl, rfl⟩, ⟨rfl, en_crange.1, en_crange.2⟩, trivial⟩ hm ml_pf0 rfl (fun r I3 L3 R3 r0 r1 m3 f3 => ⟨kl_in h0 (by omega), fun I6 e6 => ?_⟩)
      have m6 : en_mem ml_tb2 (mlY c48) (xLay, I6, L3, R3) := by
        rw [e6]
        exact ml_we2Y m3 rfl (n := 1024) (q := (0, 1)) rfl (ml_boo r)
      have b64 : 0 ≤ (I6 107 64).toInt ∧ (I6 107 64).toInt ≤ 1 := m6.2.1 107 64 (0, 1) (by decide +kernel)
      refine ⟨?_, fun I7 e7 => ?_⟩
      · rcases ml_i3 b64.1 (by omega) with e | e | e | e
        · exact Or.inl e
        · exact Or.inr e
        · rw [e] at b64; exact absurd b64.2 (by decide)
        · rw [e] at b64; exact absurd b64.2 (by decide)
      · have hf3 : en_fr ml_SW w0 (xLay, I3, L3, R3) := ml_frt hf f3 (by decide +kernel)
        refine ih I7 L3 R3 _ ?_ ?_ (by omega) ?_ ?_ (by omega)
        · rw [e7]
          exact ml_wfY m6 (by decide +kernel) (q := (0, 1)) (by decide +kernel) b64
        · rw [e7, e6]
          exact ml_fr (ml_fr hf3 rfl) (by decide)
        · rw [e7, en_up_ne _ _ _ _ (by omega), e6, en_up_ne _ _ _ _ (by omega), ml_g f3 (by decide), q1]
        · rw [e7, en_up_ne _ _ _ _ (by omega), e6, en_up_ne _ _ _ _ (by omega), ml_g f3 (by decide), q2]
    · exact ih I L R _ hm hf (by omega) q1 q2 (by omega)
theorem mly_23 {Sc : sm_C} : en_hold ml_tb2 (mlY c48) sm_P Sc mlc_23 := by
  intro d hd vs w hv hm _
  obtain ⟨vs1, rfl, hv1⟩ := kl_vr (q := 107) rfl hv
  obtain rfl := kl_v0 hv1
  have hd : 9 ≤ d := hd
  obtain ⟨d, rfl⟩ : ∃ d', d = d' + 1 := ⟨d - 1, by omega⟩
  refine ml_topY hm (fun I L R hw hm => ?_)
  have fin : ∀ (I2 : sm_I) (L2 : sm_L) (R2 : sm_R), en_mem ml_tb2 (mlY c48) (xLay, I2, L2, R2) → en_fr ml_SW (xLay, I, L, R) (xLay, I2, L2, R2) → ∃ (o : Option Value) (I3 : sm_I) (L3 : sm_L) (R3 : sm_R), ((none : Option Value), ((xLay, I2, L2, kM R2) : sm_W)) = (o, (xLay, I3, L3, kM R3)) ∧ en_pr mlc_23.2.2.2.1 o ∧ en_mem ml_tb2 (mlY c48) (xLay, I3, L3, R3) ∧ en_fr mlc_23.2.2.2.2.1 (xLay, I, L, R) (xLay, I3, L3, R3) := fun I2 L2 R2 m f => ⟨none, I2, L2, R2, rfl, rfl, m, f⟩
  refine u_X12_sets_0 ⟨fun _ I1 e1 I2 e2 I3 e3 I4 e4 I5 e5 => ?_, fun _ => fin _ _ _ hm en_fr_rf⟩
  have m5 : en_mem ml_tb2 (mlY c48) (xLay, I5, L, R) := by
    rw [e5, e4, e3, e2, e1]
    exact ml_wfY (ml_wfY (ml_wfY (ml_wfY (ml_wfY (ml_wfY hm (by decide +kernel) (q := (0, 1)) (by decide +kernel) (by decide)) (by decide +kernel) (q := (0, 1)) (by decide +kernel) (by decide)) (by decide +kernel) (q := (0, 1024)) (by decide +kernel) (by decide)) (by decide +kernel) (q := (0, 1024)) (by decide +kernel) (by decide)) (by decide +kernel) (q := (-2147483648, 2147483647)) (by decide +kernel) (by decide)) (by decide +kernel) (q := (0, 10)) (by decide +kernel) (by decide)
  have f5 : en_fr ml_SW (xLay, I, L, R) (xLay, I5, L, R) := by
    rw [e5, e4, e3, e2, e1]
    exact ml_fr (ml_fr (ml_fr (ml_fr (ml_fr (ml_fr en_fr_rf (by decide +kernel)) (by decide +kernel)) (by decide +kernel)) (by decide +kernel)) (by decide +kernel)) (by decide)
  have z82 : I5 107 82 = 0 := by rw [e5, en_up_ne _ _ _ _ (by omega), e4, en_up_ne _ _ _ _ (by omega), e3, en_up_ne _ _ _ _ (by omega), e2, en_up_eq]
  have z84 : I5 107 84 = 0 := by rw [e5, en_up_ne _ _ _ _ (by omega), e4, en_up_ne _ _ _ _ (by omega), e3, en_up_eq]
  refine ml_ciY (c := mlc_22) mly_22 (Nat.zero_le _) ⟨⟨rfl, rfl⟩, trivial⟩ m5 ml_pf0 rfl (fun r8 I6 L6 R6 r0 r1 m6 f6 => ?_)
  refine ml_ciY (c := mlc_10) mly_10 (Nat.zero_le _) ⟨⟨rfl, rfl⟩, trivial⟩ m6 ml_pf0 rfl (fun r9 I7 L7 R7 q0 q1 m7 f7 => ?_)
  intro n12 e12
  have b := ml_and (x := r9) (y := r8 ^^^ (-1 : Int32)) q0 q1
  rw [← e12] at b
  refine mx_sets3Y (by exact Nat.le_trans (by decide : _ ≤ 8) (by omega)) b fin 1024 I7 L7 R7 0 m7 (ml_frt (ml_frt f5 f6 (by decide +kernel)) f7 (by decide +kernel)) (by decide) ?_ ?_ (by decide)
  · rw [ml_g f7 rfl, ml_g f6 rfl, z82]
  · rw [ml_g f7 rfl, ml_g f6 rfl, z84]
end
end
section
/-! the reference's contracts with what was gone through (wip/pe/mkYm.py) -/
section
variable {c48 : Nat → Int64}
theorem mly_19 {Sc : sm_C} : en_hold ml_tb2 (mlY c48) sm_P Sc mlc_19 := en_chk_ok mlY_ok (T := [mlc_17, mlc_18]) (cuts := mlu_19) (List.forall_mem_cons.mpr ⟨mly_17, List.forall_mem_cons.mpr ⟨mly_18, fun _ h => absurd h List.not_mem_nil⟩⟩) (by decide +kernel)
theorem mly_25 {Sc : sm_C} : en_hold ml_tb2 (mlY c48) sm_P Sc mlc_25 := en_chk_ok mlY_ok (T := [mlc_23, mlc_24]) (cuts := mlu_25) (List.forall_mem_cons.mpr ⟨mly_23, List.forall_mem_cons.mpr ⟨mly_24, fun _ h => absurd h List.not_mem_nil⟩⟩) (by decide +kernel)
theorem mly_28 {Sc : sm_C} : en_hold ml_tb2 (mlY c48) sm_P Sc mlc_28 := en_chk_ok mlY_ok (T := [mlc_5, mlc_3, mlc_11, mlc_16b]) (cuts := mlu_28) (List.forall_mem_cons.mpr ⟨mly_5, List.forall_mem_cons.mpr ⟨mly_3, List.forall_mem_cons.mpr ⟨mly_11, List.forall_mem_cons.mpr ⟨mly_16, fun _ h => absurd h List.not_mem_nil⟩⟩⟩⟩) (by decide +kernel)
theorem mly_32 {Sc : sm_C} : en_hold ml_tb2 (mlY c48) sm_P Sc mlc_32 := en_chk_ok mlY_ok (T := [mlc_17, mlc_18]) (cuts := mlu_32) (List.forall_mem_cons.mpr ⟨mly_17, List.forall_mem_cons.mpr ⟨mly_18, fun _ h => absurd h List.not_mem_nil⟩⟩) (by decide +kernel)
theorem mly_41 {Sc : sm_C} : en_hold ml_tb2 (mlY c48) sm_P Sc mlc_41 := en_chk_ok mlY_ok (T := [mlc_17, mlc_18]) (cuts := mlu_41) (List.forall_mem_cons.mpr ⟨mly_17, List.forall_mem_cons.mpr ⟨mly_18, fun _ h => absurd h List.not_mem_nil⟩⟩) (by decide +kernel)
theorem mly_43 {Sc : sm_C} : en_hold ml_tb2 (mlY c48) sm_P Sc mlc_43 := en_chk_ok mlY_ok (T := [mlc_42, mlc_22, mlc_10]) (cuts := mlu_43) (List.forall_mem_cons.mpr ⟨mly_42, List.forall_mem_cons.mpr ⟨mly_22, List.forall_mem_cons.mpr ⟨mly_10, fun _ h => absurd h List.not_mem_nil⟩⟩⟩) (by decide +kernel)
theorem mly_44 {Sc : sm_C} : en_hold ml_tb2 (mlY c48) sm_P Sc mlc_44 := en_chk_ok mlY_ok (T := [mlc_23]) (cuts := mlu_44) (List.forall_mem_cons.mpr ⟨mly_23, fun _ h => absurd h List.not_mem_nil⟩) (by decide +kernel)
theorem mly_45 {Sc : sm_C} : en_hold ml_tb2 (mlY c48) sm_P Sc mlc_45 := en_chk_ok mlY_ok (T := [mlc_23]) (cuts := mlu_45) (List.forall_mem_cons.mpr ⟨mly_23, fun _ h => absurd h List.not_mem_nil⟩) (by decide +kernel)
theorem mly_47 {Sc : sm_C} : en_hold ml_tb2 (mlY c48) sm_P Sc mlc_47 := en_chk_ok mlY_ok (T := [mlc_17, mlc_18]) (cuts := mlu_47) (List.forall_mem_cons.mpr ⟨mly_17, List.forall_mem_cons.mpr ⟨mly_18, fun _ h => absurd h List.not_mem_nil⟩⟩) (by decide +kernel)
theorem mly_48 {Sc : sm_C} : en_hold ml_tb2 (mlY c48) sm_P Sc mlc_48 := en_chk_ok mlY_ok (T := [mlc_17, mlc_18]) (cuts := mlu_48) (List.forall_mem_cons.mpr ⟨mly_17, List.forall_mem_cons.mpr ⟨mly_18, fun _ h => absurd h List.not_mem_nil⟩⟩) (by decide +kernel)
theorem mly_49 {Sc : sm_C} : en_hold ml_tb2 (mlY c48) sm_P Sc mlc_49 := en_chk_ok mlY_ok (T := [mlc_17, mlc_18]) (cuts := mlu_49) (List.forall_mem_cons.mpr ⟨mly_17, List.forall_mem_cons.mpr ⟨mly_18, fun _ h => absurd h List.not_mem_nil⟩⟩) (by decide +kernel)
theorem mly_50 {Sc : sm_C} : en_hold ml_tb2 (mlY c48) sm_P Sc mlc_50 := en_chk_ok mlY_ok (T := [mlc_17, mlc_18]) (cuts := mlu_50) (List.forall_mem_cons.mpr ⟨mly_17, List.forall_mem_cons.mpr ⟨mly_18, fun _ h => absurd h List.not_mem_nil⟩⟩) (by decide +kernel)
theorem mly_51 {Sc : sm_C} : en_hold ml_tb2 (mlY c48) sm_P Sc mlc_51 := en_chk_ok mlY_ok (T := [mlc_3, mlc_18]) (cuts := mlu_51) (List.forall_mem_cons.mpr ⟨mly_3, List.forall_mem_cons.mpr ⟨mly_18, fun _ h => absurd h List.not_mem_nil⟩⟩) (by decide +kernel)
theorem mly_52 {Sc : sm_C} : en_hold ml_tb2 (mlY c48) sm_P Sc mlc_52 := en_chk_ok mlY_ok (T := [mlc_36, mlc_18]) (cuts := mlu_52) (List.forall_mem_cons.mpr ⟨mly_36, List.forall_mem_cons.mpr ⟨mly_18, fun _ h => absurd h List.not_mem_nil⟩⟩) (by decide +kernel)
theorem mly_53 {Sc : sm_C} : en_hold ml_tb2 (mlY c48) sm_P Sc mlc_53 := en_chk_ok mlY_ok (T := [mlc_17, mlc_52]) (cuts := mlu_53) (List.forall_mem_cons.mpr ⟨mly_17, List.forall_mem_cons.mpr ⟨mly_52, fun _ h => absurd h List.not_mem_nil⟩⟩) (by decide +kernel)
theorem mly_56 {Sc : sm_C} : en_hold ml_tb2 (mlY c48) sm_P Sc mlc_56 := en_chk_ok mlY_ok (T := [mlc_17, mlc_52]) (cuts := mlu_56) (List.forall_mem_cons.mpr ⟨mly_17, List.forall_mem_cons.mpr ⟨mly_52, fun _ h => absurd h List.not_mem_nil⟩⟩) (by decide +kernel)
theorem mly_61 {Sc : sm_C} : en_hold ml_tb2 (mlY c48) sm_P Sc mlc_61 := en_chk_ok mlY_ok (T := [mlc_25, mlc_24]) (cuts := mlu_61) (List.forall_mem_cons.mpr ⟨mly_25, List.forall_mem_cons.mpr ⟨mly_24, fun _ h => absurd h List.not_mem_nil⟩⟩) (by decide +kernel)
theorem mly_62 {Sc : sm_C} : en_hold ml_tb2 (mlY c48) sm_P Sc mlc_62 := en_chk_ok mlY_ok (T := [mlc_23]) (cuts := mlu_62) (List.forall_mem_cons.mpr ⟨mly_23, fun _ h => absurd h List.not_mem_nil⟩) (by decide +kernel)
theorem mly_63 {Sc : sm_C} : en_hold ml_tb2 (mlY c48) sm_P Sc mlc_63 := en_chk_ok mlY_ok (T := [mlc_23]) (cuts := mlu_63) (List.forall_mem_cons.mpr ⟨mly_23, fun _ h => absurd h List.not_mem_nil⟩) (by decide +kernel)
theorem mly_71 {Sc : sm_C} : en_hold ml_tb2 (mlY c48) sm_P Sc mlc_71 := en_chk_ok mlY_ok (T := [mlc_17, mlc_51]) (cuts := mlu_71) (List.forall_mem_cons.mpr ⟨mly_17, List.forall_mem_cons.mpr ⟨mly_51, fun _ h => absurd h List.not_mem_nil⟩⟩) (by decide +kernel)
theorem mly_72 {Sc : sm_C} : en_hold ml_tb2 (mlY c48) sm_P Sc mlc_72 := en_chk_ok mlY_ok (T := [mlc_17, mlc_51]) (cuts := mlu_72) (List.forall_mem_cons.mpr ⟨mly_17, List.forall_mem_cons.mpr ⟨mly_51, fun _ h => absurd h List.not_mem_nil⟩⟩) (by decide +kernel)
theorem mly_76 {Sc : sm_C} : en_hold ml_tb2 (mlY c48) sm_P Sc mlc_76 := en_chk_ok mlY_ok (T := [mlc_42]) (cuts := mlu_76) (List.forall_mem_cons.mpr ⟨mly_42, fun _ h => absurd h List.not_mem_nil⟩) (by decide +kernel)
theorem mly_77 {Sc : sm_C} : en_hold ml_tb2 (mlY c48) sm_P Sc mlc_77 := en_chk_ok mlY_ok (T := [mlc_17, mlc_52]) (cuts := mlu_77) (List.forall_mem_cons.mpr ⟨mly_17, List.forall_mem_cons.mpr ⟨mly_52, fun _ h => absurd h List.not_mem_nil⟩⟩) (by decide +kernel)
end
end
