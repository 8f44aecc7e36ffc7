/-! lists -/
def ml_L (I I' : sm_I) : Prop := ∀ c j, c ≠ 148 → ¬ (c = 107 ∧ j = 59) → I' c j = I c j
theorem ml_L_tr {I I1 I2 : sm_I} (h1 : ml_L I I1) (h2 : ml_L I1 I2) : ml_L I I2 := fun c j a b => (h2 c j a b).trans (h1 c j a b)
theorem ml_add {I I1 I2 : sm_I} {L : sm_L} {R : sm_R} {v : Int32} (hm : en_mem ml_tb mlX (xLay, I, L, R)) (hn : (I 107 59).toInt ≤ 69) (hv : 0 ≤ v.toInt ∧ v.toInt ≤ 69) (hh : v.toInt ≤ 54 ∨ 60 ≤ v.toInt) (e1 : I1 = sm_up I 148 (I 107 59).toNatClampNeg v) (e2 : I2 = sm_up I1 107 59 (I1 107 59 + 1)) : en_mem ml_tb mlX (xLay, I2, L, R) ∧ (I2 107 59).toInt = (I 107 59).toInt + 1 ∧ ml_L I I2 := by
  have b : 0 ≤ (I 107 59).toInt ∧ (I 107 59).toInt ≤ 70 := hm.2.1 107 59 (0, 70) (by decide +kernel)
  have g1 : I1 107 59 = I 107 59 := by rw [e1, en_up_ne _ _ _ _ (fun c => absurd c.1 (by decide))]
  have s1 : (I 107 59 + 1).toInt = (I 107 59).toInt + 1 := by rw [kl_add (by rw [kl_1]; omega) (by rw [kl_1]; omega), kl_1]
  have o1 : ∀ p, p ≠ 148 → ∀ j, I1 p j = I p j := fun p hp j => by rw [e1, en_up_ne _ _ _ _ (fun c => hp c.1)]
  have X1 : mlX (xLay, I1, L, R) := by
    have X := hm.2.2.2.2
    refine ⟨rfl, fun j hj => ?_, fun l hl => ?_, mlP_cg (o1 165 (by decide)) X.2.2.2.1, mlN_cg (o1 116 (by decide)) (o1 117 (by decide)) X.2.2.2.2.1, X.2.2.2.2.2⟩
    · show (I1 148 j).toInt ≤ 54 ∨ 60 ≤ (I1 148 j).toInt
      rw [e1]
      by_cases c : j = (I 107 59).toNatClampNeg
      · rw [c, en_up_eq]; exact hh
      · rw [en_up_ne _ _ _ _ (fun q => c q.2)]; exact X.2.1 j hj
    · have hl : (l : Int) = (I1 107 18).toInt := hl
      rw [o1 107 (by decide)] at hl
      exact mlV_cg (fun p hp => o1 p (by omega)) (X.2.2.1 l hl)
  have m1 : en_mem ml_tb mlX (xLay, I1, L, R) := by
    rw [e1] at X1 ⊢
    exact ml_we hm X1 (n := 70) (q := (0, 69)) rfl hv
  refine ⟨?_, ?_, ?_⟩
  · rw [e2, g1]
    exact ml_wf m1 (by decide +kernel) (q := (0, 70)) (by decide +kernel) (by show 0 ≤ _ ∧ _ ≤ (70 : Int); omega)
  · rw [e2, g1, en_up_eq]; exact s1
  · intro c j a b
    rw [e2, en_up_ne _ _ _ _ b, e1, en_up_ne _ _ _ _ (fun q => a q.1)]
theorem mx_lists10 {S : sm_C} {d : Nat} {Φ : sm_Z → Prop} {L : sm_L} {R : sm_R} : ∀ (k : Nat) (I : sm_I) (x2 : Int32), en_mem ml_tb mlX (xLay, I, L, R) → 0 ≤ x2.toInt → x2.toInt + k = 10 → (I 107 59).toInt ≤ 55 + x2.toInt → (∀ I' : sm_I, en_mem ml_tb mlX (xLay, I', L, R) → ml_L I I' → (I' 107 59).toInt ≤ 65 → Φ (none, (xLay, I', L, R))) → sm_wp sm_P S d 160 10 [.ref 107, .int x2] [] (xLay, I, L, R) (0, 0) Φ := by
  intro k
  induction k with
  | zero =>
    intro I x2 hm h0 hk hi h
    have e : kM R = R := ml_R hm
    have b : 0 ≤ (I 107 67).toInt ∧ (I 107 67).toInt ≤ 10 := hm.2.1 107 67 (0, 10) (by decide +kernel)
    rw [← e]
    refine v_X12_lists_10 ⟨fun _ => ?_, fun a => ?_⟩
    · rw [e]; exact h I hm (fun _ _ _ _ => rfl) (by omega)
    · have := kl_nle a; omega
  | succ k ih =>
    intro I x2 hm h0 hk hi h
    have e : kM R = R := ml_R hm
    have b : 0 ≤ (I 107 59).toInt ∧ (I 107 59).toInt ≤ 70 := hm.2.1 107 59 (0, 70) (by decide +kernel)
    rw [← e]
    refine v_X12_lists_10 ⟨fun _ => ?_, fun a => ⟨kl_in b.1 (by omega), fun I1 e1 I2 e2 => ?_⟩⟩
    · rw [e]; exact h I hm (fun _ _ _ _ => rfl) (by omega)
    · have c : (60 : Int32).toInt = 60 := by decide
      have s : ((60 : Int32) + x2).toInt = 60 + x2.toInt := by rw [kl_add (by rw [c]; omega) (by rw [c]; omega), c]
      have t : (x2 + 1).toInt = x2.toInt + 1 := by rw [kl_add (by rw [kl_1]; omega) (by rw [kl_1]; omega), kl_1]
      obtain ⟨q1, q2, q3⟩ := ml_add hm (by omega) (by rw [s]; omega) (by rw [s]; omega) e1 e2
      rw [e]
      exact ih I2 _ q1 (by omega) (by omega) (by omega) (fun I' m l n => h I' m (ml_L_tr q3 l) n)
theorem mx_lists7 {S : sm_C} {d : Nat} {Φ : sm_Z → Prop} {L : sm_L} {R : sm_R} : ∀ (k : Nat) (I : sm_I) (x2 : Int32), en_mem ml_tb mlX (xLay, I, L, R) → 0 ≤ x2.toInt → x2.toInt + k = 45 → (I 107 59).toInt ≤ 10 + x2.toInt → (∀ I' : sm_I, en_mem ml_tb mlX (xLay, I', L, R) → ml_L I I' → (I' 107 59).toInt ≤ 65 → Φ (none, (xLay, I', L, R))) → sm_wp sm_P S d 160 7 [.ref 107, .int x2] [] (xLay, I, L, R) (0, 0) Φ := by
  intro k
  induction k with
  | zero =>
    intro I x2 hm h0 hk hi h
    have e : kM R = R := ml_R hm
    have b : 0 ≤ (I 107 46).toInt ∧ (I 107 46).toInt ≤ 45 := hm.2.1 107 46 (0, 45) (by decide +kernel)
    rw [← e]
    refine v_X12_lists_7 ⟨fun _ => ?_, fun a => ?_⟩
    · rw [e]; exact mx_lists10 10 I 0 hm (by rw [kl_0]; omega) (by rw [kl_0]; omega) (by rw [kl_0]; omega) h
    · have := kl_nle a; omega
  | succ k ih =>
    intro I x2 hm h0 hk hi h
    have e : kM R = R := ml_R hm
    have b : 0 ≤ (I 107 59).toInt ∧ (I 107 59).toInt ≤ 70 := hm.2.1 107 59 (0, 70) (by decide +kernel)
    rw [← e]
    refine v_X12_lists_7 ⟨fun _ => ?_, fun a => ⟨kl_in b.1 (by omega), fun I1 e1 I2 e2 => ?_⟩⟩
    · rw [e]; exact mx_lists10 10 I 0 hm (by rw [kl_0]; omega) (by rw [kl_0]; omega) (by rw [kl_0]; omega) h
    · have c : (10 : Int32).toInt = 10 := by decide
      have s : ((10 : Int32) + x2).toInt = 10 + x2.toInt := by rw [kl_add (by rw [c]; omega) (by rw [c]; omega), c]
      have t : (x2 + 1).toInt = x2.toInt + 1 := by rw [kl_add (by rw [kl_1]; omega) (by rw [kl_1]; omega), kl_1]
      obtain ⟨q1, q2, q3⟩ := ml_add hm (by omega) (by rw [s]; omega) (by rw [s]; omega) e1 e2
      rw [e]
      exact ih I2 _ q1 (by omega) (by omega) (by omega) (fun I' m l n => h I' m (ml_L_tr q3 l) n)
theorem mx_lists1 {S : sm_C} {d : Nat} {Φ : sm_Z → Prop} {L : sm_L} {R : sm_R} {x1 : Int32} : ∀ (k : Nat) (I : sm_I) (x2 : Int32), en_mem ml_tb mlX (xLay, I, L, R) → 0 ≤ x2.toInt → x2.toInt + k = 10 → (I 107 59).toInt ≤ x2.toInt → (∀ I' : sm_I, en_mem ml_tb mlX (xLay, I', L, R) → ml_L I I' → (I' 107 59).toInt ≤ 65 → Φ (none, (xLay, I', L, R))) → sm_wp sm_P S d 160 1 [.ref 107, .int x1, .int x2] [] (xLay, I, L, R) (0, 0) Φ := by
  intro k
  induction k with
  | zero =>
    intro I x2 hm h0 hk hi h
    have e : kM R = R := ml_R hm
    have l : 0 ≤ (I 107 18).toInt ∧ (I 107 18).toInt ≤ 1 := hm.2.1 107 18 (0, 1) (by decide +kernel)
    have ln := kl_nat l.1
    have b : 0 ≤ (I 125 (I 107 18).toNatClampNeg).toInt ∧ (I 125 (I 107 18).toNatClampNeg).toInt ≤ 10 := hm.2.1 125 _ (0, 10) (by
      have : (I 107 18).toNatClampNeg = 0 ∨ (I 107 18).toNatClampNeg = 1 := by omega
      rcases this with q | q <;> rw [q] <;> decide +kernel)
    rw [← e]
    refine v_X12_lists_1 ⟨kl_in l.1 (by omega), fun _ => ?_, fun a => ?_⟩
    · rw [e]; exact mx_lists7 45 I 0 hm (by rw [kl_0]; omega) (by rw [kl_0]; omega) (by rw [kl_0]; omega) h
    · have := kl_nle a; omega
  | succ k ih =>
    intro I x2 hm h0 hk hi h
    have e : kM R = R := ml_R hm
    have l : 0 ≤ (I 107 18).toInt ∧ (I 107 18).toInt ≤ 1 := hm.2.1 107 18 (0, 1) (by decide +kernel)
    have b : 0 ≤ (I 107 59).toInt ∧ (I 107 59).toInt ≤ 70 := hm.2.1 107 59 (0, 70) (by decide +kernel)
    have t : (x2 + 1).toInt = x2.toInt + 1 := by rw [kl_add (by rw [kl_1]; omega) (by rw [kl_1]; omega), kl_1]
    rw [← e]
    refine v_X12_lists_1 ⟨kl_in l.1 (by omega), fun _ => ?_, fun a => ⟨fun _ => ?_, fun _ => ⟨kl_in b.1 (by omega), fun I1 e1 I2 e2 => ?_⟩⟩⟩
    · rw [e]; exact mx_lists7 45 I 0 hm (by rw [kl_0]; omega) (by rw [kl_0]; omega) (by rw [kl_0]; omega) h
    · rw [e]; exact ih I _ hm (by omega) (by omega) (by omega) h
    · obtain ⟨q1, q2, q3⟩ := ml_add hm (by omega) (by omega) (by omega) e1 e2
      rw [e]
      exact ih I2 _ q1 (by omega) (by omega) (by omega) (fun I' m l n => h I' m (ml_L_tr q3 l) n)
theorem mlh_9 {Sc : sm_C} : en_hold ml_tb mlX sm_P Sc mlc_9 := by
  intro d hd vs w hv hm _
  obtain ⟨lay, I, L, R⟩ := w
  obtain ⟨vs1, rfl, hv1⟩ := kl_vr (q := 107) rfl hv
  obtain ⟨x1, vs2, rfl, b1, hv2⟩ := kl_vi hv1
  obtain rfl := kl_v0 hv2
  obtain rfl : lay = xLay := hm.2.2.2.2.1
  have e : kM R = R := ml_R hm
  show sm_wp sm_P Sc d 160 0 _ [] (xLay, I, L, R) (0, 0) _
  rw [← e]
  refine v_X12_lists_0 ?_
  rw [e]
  have m0 : en_mem ml_tb mlX (xLay, sm_up I 107 59 0, L, R) := ml_wf hm (by decide +kernel) (q := (0, 70)) (by decide +kernel) (by decide)
  refine mx_lists1 10 _ 0 m0 (by rw [kl_0]; omega) (by rw [kl_0]; omega) (by rw [en_up_eq, kl_0]; omega) (fun I' m l _ => ⟨rfl, m, ⟨rfl, fun p j h => ⟨?_, rfl⟩⟩⟩)
  show I' p j = I p j
  have h59 : ¬ (p = 107 ∧ j = 59) := fun c => by
    obtain ⟨c1, c2⟩ := c
    subst c1; subst c2
    simp [en_wok, mlc_9] at h
  rw [l p j (fun c => by subst c; simp [en_wok, mlc_9] at h) h59, en_up_ne _ _ _ _ h59]
