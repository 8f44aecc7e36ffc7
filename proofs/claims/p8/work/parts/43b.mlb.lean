/-! back, put, feed -/
theorem mx_back {S : sm_C} {d : Nat} {Φ : sm_Z → Prop} {I : sm_I} {L : sm_L} {R : sm_R} {x : Int32} (hm : en_mem ml_tb mlX (xLay, I, L, R)) (h0 : (x.toInt < 0 ∨ (I 107 2).toInt < x.toInt) → Φ (some (.int (-1)), (xLay, I, L, R))) (h1 : ∀ I' : sm_I, 0 ≤ x.toInt → x.toInt ≤ (I 107 2).toInt → I' = sm_up I 107 2 (I 107 2 - x) → (I 107 2 - x).toInt = (I 107 2).toInt - x.toInt → en_mem ml_tb mlX (xLay, I', L, R) → Φ (some (.int (I 107 2 - x)), (xLay, I', L, R))) : sm_wp sm_P S d 99 0 [.ref 107, .int x] [] (xLay, I, L, R) (0, 0) Φ := by
  have e : kM R = R := ml_R hm
  rw [← e]
  have b := ml_taped hm
  have b : 0 ≤ (I 107 2).toInt ∧ (I 107 2).toInt ≤ 2000 := b
  refine v_X12_back_0 ⟨fun a => ?_, fun a => ⟨fun c I1 e1 => ?_, fun c => ?_⟩⟩
  · rw [e]; rw [kl_lt, kl_0] at a; exact h0 (Or.inl a)
  · have a := kl_nlt0 a
    have c := kl_le.mp c
    have s : (I 107 2 - x).toInt = (I 107 2).toInt - x.toInt := by
      rw [Int32.toInt_sub]; exact en_bmod (by omega) (by omega) (Or.inl rfl)
    have g : I1 107 2 = I 107 2 - x := by rw [e1, en_up_eq]
    rw [e, g]
    refine h1 I1 a c e1 s ?_
    rw [e1]
    exact ml_wf hm (by decide +kernel) (q := (0, 2000)) (by decide +kernel) (by show 0 ≤ _ ∧ _ ≤ (2000 : Int); omega)
  · rw [e]; exact h0 (Or.inr (kl_nle c))
theorem mlh_78 {Sc : sm_C} : en_hold ml_tb mlX sm_P Sc mlc_78 := by
  intro d hd vs w hv hm _
  obtain ⟨lay, I, L, R⟩ := w
  obtain ⟨vs1, rfl, hv1⟩ := kl_vr (q := 107) rfl hv
  obtain ⟨x1, vs2, rfl, b1, hv2⟩ := kl_vi hv1
  obtain rfl := kl_v0 hv2
  obtain rfl : lay = xLay := hm.2.2.2.2.1
  have b : 0 ≤ (I 107 2).toInt ∧ (I 107 2).toInt ≤ 2000 := ml_taped hm
  refine mx_back hm (fun _ => ⟨Or.inl ⟨rfl, by decide, by decide⟩, hm, en_fr_rf⟩) (fun I' a c e s hm' => ⟨Or.inl ⟨rfl, ?_, ?_⟩, hm', ?_⟩)
  · show (-1 : Int) ≤ _
    omega
  · show _ ≤ (2000 : Int)
    omega
  · rw [e]; exact ml_fr en_fr_rf (by decide)
theorem mx_put {S : sm_C} {d : Nat} {Φ : sm_Z → Prop} {w0 : sm_W} {L : sm_L} {R : sm_R} {x1 : Int32} (n : Int) (hn : n ≤ 2000) : ∀ (k : Nat) (I : sm_I) (x2 : Int32), (k ≤ 4 ∧ x2.toInt = 8 * k - 8) → en_mem ml_tb mlX (xLay, I, L, R) → (I 107 2).toInt + k = n → en_fr [(107, [2]), (108, [])] w0 (xLay, I, L, R) → (∀ I' : sm_I, en_mem ml_tb mlX (xLay, I', L, R) → (I' 107 2).toInt = n → en_fr [(107, [2]), (108, [])] w0 (xLay, I', L, R) → Φ (none, (xLay, I', L, R))) → sm_wp sm_P S d 179 1 [.ref 107, .int x1, .int x2] [] (xLay, I, L, R) (0, 0) Φ := by
  intro k
  induction k with
  | zero =>
    intro I x2 hx hm hi hf h
    have e : kM R = R := ml_R hm
    rw [← e]
    refine v_X12_put_1 ⟨fun _ => ?_, fun a => ?_⟩
    · rw [e]; exact h I hm (by omega) hf
    · have := kl_nlt0 a
      omega
  | succ k ih =>
    intro I x2 hx hm hi hf h
    have e : kM R = R := ml_R hm
    have b : 0 ≤ (I 107 2).toInt ∧ (I 107 2).toInt ≤ 2000 := ml_taped hm
    rw [← e]
    refine v_X12_put_1 ⟨fun a => ?_, fun a n1 _ => ⟨kl_in b.1 (by omega), fun I2 e2 I3 e3 => ?_⟩⟩
    · rw [kl_lt, kl_0] at a; omega
    · rw [e]
      have m8 : (-8 : Int32).toInt = -8 := by decide
      have s : (x2 + (-8 : Int32)).toInt = x2.toInt - 8 := by rw [kl_add (by rw [m8]; omega) (by rw [m8]; omega), m8]; omega
      have hm2 : en_mem ml_tb mlX (xLay, I2, L, R) := by
        rw [e2]
        exact ml_we hm (mlX_ok.1 _ (I, L, R) _ _ _ rfl hm.2.2.2.2) (n := 2000) (q := (-128, 127)) rfl (ml_byte n1)
      have g2 : I2 107 2 = I 107 2 := by rw [e2, en_up_ne _ _ _ _ (fun c => absurd c.1 (by decide))]
      have s1 : (I 107 2 + 1).toInt = (I 107 2).toInt + 1 := by rw [kl_add (by rw [kl_1]; omega) (by rw [kl_1]; omega), kl_1]
      have hm3 : en_mem ml_tb mlX (xLay, I3, L, R) := by
        rw [e3, g2]
        exact ml_wf hm2 (by decide +kernel) (q := (0, 2000)) (by decide +kernel) (by show 0 ≤ _ ∧ _ ≤ (2000 : Int); omega)
      have g3 : I3 107 2 = I 107 2 + 1 := by rw [e3, g2, en_up_eq]
      refine ih I3 _ ⟨by omega, by omega⟩ hm3 (by rw [g3]; omega) ?_ h
      rw [e3]
      refine ml_fr ?_ (by decide)
      rw [e2]
      exact ml_fr hf rfl
theorem mx_feed {S : sm_C} {d : Nat} {Φ : sm_Z → Prop} {I : sm_I} {L : sm_L} {R : sm_R} {x1 x2 x3 x4 x5 : Int32} (hm : en_mem ml_tb mlX (xLay, I, L, R)) (h0 : 1980 < (I 107 2).toInt → Φ (some (.int (-1)), (xLay, I, L, R))) (h1 : ∀ I' : sm_I, (I 107 2).toInt ≤ 1980 → en_mem ml_tb mlX (xLay, I', L, R) → (I' 107 2).toInt = (I 107 2).toInt + 20 → en_fr [(107, [2]), (108, [])] (xLay, I, L, R) (xLay, I', L, R) → Φ (some (.int (I' 107 2)), (xLay, I', L, R))) : sm_wp sm_P S (d + 1) 124 0 [.ref 107, .int x1, .int x2, .int x3, .int x4, .int x5] [] (xLay, I, L, R) (0, 0) Φ := by
  have e : kM R = R := ml_R hm
  have b : 0 ≤ (I 107 2).toInt ∧ (I 107 2).toInt ≤ 2000 := ml_taped hm
  have c20 : (20 : Int32).toInt = 20 := by decide
  have c24 : (24 : Int32).toInt = 8 * (4 : Nat) - 8 := by decide
  have c2k : (2000 : Int32).toInt = 2000 := by decide
  have s : (I 107 2 + 20).toInt = (I 107 2).toInt + 20 := by rw [kl_add (by rw [c20]; omega) (by rw [c20]; omega), c20]
  rw [← e]
  refine v_X12_feed_0 ⟨fun a => ?_, fun a => ?_⟩
  · have a := kl_le.mp a
    rw [s, c2k] at a
    have p0 : ∀ {x : Int32} {Φ : sm_Z → Prop} {I1 : sm_I}, en_mem ml_tb mlX (xLay, I1, L, R) → (I1 107 2).toInt ≤ 1996 → en_fr [(107, [2]), (108, [])] (xLay, I, L, R) (xLay, I1, L, R) → (∀ I2 : sm_I, en_mem ml_tb mlX (xLay, I2, L, R) → (I2 107 2).toInt = (I1 107 2).toInt + 4 → en_fr [(107, [2]), (108, [])] (xLay, I, L, R) (xLay, I2, L, R) → Φ (none, (xLay, I2, L, kM R))) → sm_wp sm_P S d 179 0 [.ref 107, .int x] [] (xLay, I1, L, kM R) (0, 0) Φ := by
      intro x Φ I1 m1 n1 f1 k1
      refine v_X12_put_0 ?_
      rw [e] at k1 ⊢
      exact mx_put ((I1 107 2).toInt + 4) (by omega) 4 I1 24 ⟨by decide, c24⟩ m1 (by omega) f1 k1
    refine p0 hm (by omega) en_fr_rf (fun I1 m1 t1 f1 => ⟨I1, L, rfl, ?_⟩)
    refine p0 m1 (by omega) f1 (fun I2 m2 t2 f2 => ⟨I2, L, rfl, ?_⟩)
    refine p0 m2 (by omega) f2 (fun I3 m3 t3 f3 => ⟨I3, L, rfl, ?_⟩)
    refine p0 m3 (by omega) f3 (fun I4 m4 t4 f4 => ⟨I4, L, rfl, ?_⟩)
    refine p0 m4 (by omega) f4 (fun I5 m5 t5 f5 => ⟨I5, L, rfl, ?_⟩)
    rw [e]
    exact h1 I5 (by omega) m5 (by omega) f5
  · have a := kl_nle a
    rw [s, c2k] at a
    rw [e]
    exact h0 (by omega)
theorem mlh_33 {Sc : sm_C} : en_hold ml_tb mlX sm_P Sc mlc_33 := by
  intro d hd vs w hv hm _
  obtain ⟨lay, I, L, R⟩ := w
  obtain ⟨vs1, rfl, hv1⟩ := kl_vr (q := 107) rfl hv
  obtain ⟨x1, vs2, rfl, b1, hv2⟩ := kl_vi hv1
  obtain ⟨x2, vs3, rfl, b2, hv3⟩ := kl_vi hv2
  obtain ⟨x3, vs4, rfl, b3, hv4⟩ := kl_vi hv3
  obtain ⟨x4, vs5, rfl, b4, hv5⟩ := kl_vi hv4
  obtain ⟨x5, vs6, rfl, b5, hv6⟩ := kl_vi hv5
  obtain rfl := kl_v0 hv6
  obtain rfl : lay = xLay := hm.2.2.2.2.1
  obtain ⟨d, rfl⟩ : ∃ d', d = d' + 1 := ⟨d - 1, by have : 1 ≤ d := hd; omega⟩
  have b : 0 ≤ (I 107 2).toInt ∧ (I 107 2).toInt ≤ 2000 := ml_taped hm
  refine mx_feed hm (fun _ => ⟨Or.inl ⟨rfl, by decide, by decide⟩, hm, en_fr_rf⟩) (fun I' a hm' t hf => ⟨Or.inl ⟨rfl, ?_, ?_⟩, hm', hf⟩)
  · show (-1 : Int) ≤ _
    omega
  · show _ ≤ (2000 : Int)
    omega
