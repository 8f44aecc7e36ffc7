/-! meets: at most 45 MOVES -/
def ml_S : Nat → Int
  | 0 => 0
  | 1 => 9
  | 2 => 17
  | 3 => 24
  | 4 => 30
  | 5 => 35
  | 6 => 39
  | 7 => 42
  | 8 => 44
  | _ => 45
theorem ml_S_st : ∀ a : Nat, a ≤ 9 → ml_S (a + 1) = ml_S a + (9 - a) ∧ ml_S (a + 1) ≤ 45 ∧ 0 ≤ ml_S a := by
  intro a ha
  rcases (by omega : a = 0 ∨ a = 1 ∨ a = 2 ∨ a = 3 ∨ a = 4 ∨ a = 5 ∨ a = 6 ∨ a = 7 ∨ a = 8 ∨ a = 9) with e | e | e | e | e | e | e | e | e | e <;> subst e <;> decide
def ml_mf (I J : sm_I) : Prop := ∀ p j, ¬ ((p = 107 ∧ j = 46) ∨ p = 140 ∨ p = 141 ∨ p = 142) → J p j = I p j
theorem ml_mf_tr {I J K : sm_I} (h : ml_mf I J) (g : ml_mf J K) : ml_mf I K := fun p j a => (g p j a).trans (h p j a)
theorem mx_meets3 {S : sm_C} {d : Nat} {Φ : sm_Z → Prop} {L : sm_L} {R : sm_R} {x1 : Int32} (a0 : 0 ≤ x1.toInt) (a1 : x1.toInt ≤ 9) (I0 : sm_I) (hk : ∀ J : sm_I, en_mem ml_tb mlX (xLay, J, L, R) → ml_mf I0 J → (J 107 46).toInt ≤ ml_S (x1.toNatClampNeg + 1) → sm_wp sm_P S d 161 1 [.ref 107, .int (x1 + 1)] [] (xLay, J, L, kM R) (0, 0) Φ) : ∀ (m : Nat) (I : sm_I) (x2 : Int32), en_mem ml_tb mlX (xLay, I, L, R) → ml_mf I0 I → x1.toInt + 1 ≤ x2.toInt → x2.toInt ≤ 10 → (I 107 46).toInt ≤ ml_S x1.toNatClampNeg + (x2.toInt - x1.toInt - 1) → 10 - x2.toInt < m → sm_wp sm_P S d 161 3 [.ref 107, .int x1, .int x2] [] (xLay, I, L, kM R) (0, 0) Φ := by
  have na := kl_nat a0
  have SS := ml_S_st x1.toNatClampNeg (by omega)
  have done : ∀ (I : sm_I) (x2 : Int32), en_mem ml_tb mlX (xLay, I, L, R) → ml_mf I0 I → x2.toInt ≤ 10 → (I 107 46).toInt ≤ ml_S x1.toNatClampNeg + (x2.toInt - x1.toInt - 1) → sm_wp sm_P S d 161 1 [.ref 107, .int (x1 + 1)] [] (xLay, I, L, kM R) (0, 0) Φ := fun I x2 hm hf b hs => hk I hm hf (by omega)
  intro m
  induction m with
  | zero => intro I x2 hm hf h0 h1 hs hM; omega
  | succ m ih =>
    intro I x2 hm hf h0 h1 hs hM
    obtain ⟨l0, l1, ln, lc⟩ := ml_live hm
    have l0 : 0 ≤ (I 107 18).toInt := l0
    have l1 : (I 107 18).toInt ≤ 1 := l1
    have ln : ((I 107 18).toNatClampNeg : Int) = (I 107 18).toInt := ln
    have bt : 0 ≤ (I 122 (I 107 18).toNatClampNeg).toInt ∧ (I 122 (I 107 18).toNatClampNeg).toInt ≤ 10 := ml_row hm (p := 122) (n := 2) (q := (0, 10)) (fun _ => rfl) _ (by omega)
    have bm : 0 ≤ (I 107 46).toInt ∧ (I 107 46).toInt ≤ 45 := hm.2.1 107 46 (0, 45) (by decide +kernel)
    refine u_X12_meets_3 ⟨kl_in l0 (by omega), fun _ => done I x2 hm hf h1 hs, fun a n1 e1 n2 e2 => ?_⟩
    have a := kl_nle a
    have nb := kl_nat (i := x2) (by omega)
    have s2 := ml_in1 (x := x2) (by omega)
    have q0 : ((10 : Int32) * I 107 18).toInt = 10 * (I 107 18).toInt := ml_mu (by decide) rfl (by omega) (by omega)
    have q1 : n1.toInt = 10 * (I 107 18).toInt + x1.toInt := by rw [e1]; exact ml_ad q0 rfl (by omega) (by omega)
    have q2 : n2.toInt = 10 * (I 107 18).toInt + x2.toInt := by rw [e2]; exact ml_ad q0 rfl (by omega) (by omega)
    have k1 := kl_nat (i := n1) (by omega)
    have k2 := kl_nat (i := n2) (by omega)
    have v1 : vp_in n1 20 := kl_in (by omega) (by omega)
    have v2 : vp_in n2 20 := kl_in (by omega) (by omega)
    have same : sm_wp sm_P S d 161 3 [.ref 107, .int x1, .int (x2 + 1)] [] (xLay, I, L, kM R) (0, 0) Φ := ih I _ hm hf (by omega) (by omega) (by omega) (by omega)
    refine ⟨v1, fun _ => same, fun c1 => ⟨v1, v2, fun c2 => ⟨v1, v2, fun _ => same, fun _ => ?_⟩, fun _ => same⟩⟩
    have c1 := ml_m1 c1
    have V := (ml_lv hm).1
    have P1 : 0 ≤ (I 124 n1.toNatClampNeg).toInt := by
      have := V x1.toNatClampNeg (by rw [na]; show x1.toInt < (I 122 (I 107 18).toNatClampNeg).toInt; omega) (by
        show (I 123 (10 * (I 107 18).toNatClampNeg + x1.toNatClampNeg)).toInt ≠ -1
        rw [show 10 * (I 107 18).toNatClampNeg + x1.toNatClampNeg = n1.toNatClampNeg by omega]; exact c1)
      rw [show n1.toNatClampNeg = 10 * (I 107 18).toNatClampNeg + x1.toNatClampNeg by omega]; exact this
    have P2 : 0 ≤ (I 124 n2.toNatClampNeg).toInt := by
      have := V x2.toNatClampNeg (by rw [nb]; show x2.toInt < (I 122 (I 107 18).toNatClampNeg).toInt; omega) (by
        show (I 123 (10 * (I 107 18).toNatClampNeg + x2.toNatClampNeg)).toInt ≠ -1
        rw [show 10 * (I 107 18).toNatClampNeg + x2.toNatClampNeg = n2.toNatClampNeg by omega, ← c2]; exact c1)
      rw [show n2.toNatClampNeg = 10 * (I 107 18).toNatClampNeg + x2.toNatClampNeg by omega]; exact this
    have B1 : -1 ≤ (I 124 n1.toNatClampNeg).toInt ∧ (I 124 n1.toNatClampNeg).toInt ≤ 5 := ml_row hm (p := 124) (n := 20) (q := (-1, 5)) (fun _ => rfl) _ (by omega)
    have B2 : -1 ≤ (I 124 n2.toNatClampNeg).toInt ∧ (I 124 n2.toNatClampNeg).toInt ≤ 5 := ml_row hm (p := 124) (n := 20) (q := (-1, 5)) (fun _ => rfl) _ (by omega)
    have v46 : vp_in (I 107 46) 45 := kl_in bm.1 (by omega)
    refine ⟨v46, fun I3 e3 => ?_⟩
    have g3 : I3 107 46 = I 107 46 := by rw [e3, en_up_ne _ _ _ _ (by omega)]
    have m3 : en_mem ml_tb mlX (xLay, I3, L, R) := by rw [e3]; exact ml_we2 hm rfl (n := 45) (q := (0, 9)) rfl (by show 0 ≤ _ ∧ _ ≤ (9 : Int); omega)
    refine ⟨by rw [g3]; exact v46, fun I4 e4 => ?_⟩
    rw [g3] at e4
    have g4 : I4 107 46 = I 107 46 := by rw [e4, en_up_ne _ _ _ _ (by omega), g3]
    have m4 : en_mem ml_tb mlX (xLay, I4, L, R) := by rw [e4]; exact ml_we2 m3 rfl (n := 45) (q := (0, 9)) rfl (by show 0 ≤ _ ∧ _ ≤ (9 : Int); omega)
    have o4 : ∀ p j, p ≠ 140 → p ≠ 141 → I4 p j = I p j := fun p j x y => by rw [e4, en_up_ne _ _ _ _ (by omega), e3, en_up_ne _ _ _ _ (by omega)]
    refine ⟨v1, v2, fun n5 e5 => ?_⟩
    rw [o4 _ _ (by decide) (by decide), o4 _ _ (by decide) (by decide)] at e5
    have r1 : ((6 : Int32) * I 124 n1.toNatClampNeg).toInt = 6 * (I 124 n1.toNatClampNeg).toInt := ml_mu (by decide) rfl (by omega) (by omega)
    have r2 : n5.toInt = 6 * (I 124 n1.toNatClampNeg).toInt + (I 124 n2.toNatClampNeg).toInt := by rw [e5]; exact ml_ad r1 rfl (by omega) (by omega)
    refine ⟨kl_in (by omega) (by omega), by rw [g4]; exact v46, fun I6 e6 I7 e7 => ?_⟩
    have m6 : en_mem ml_tb mlX (xLay, I6, L, R) := by rw [e6]; exact ml_we2 m4 rfl (n := 45) (q := (-2147483648, 2147483647)) rfl en_crange
    have g6 : I6 107 46 = I 107 46 := by rw [e6, en_up_ne _ _ _ _ (by omega), g4]
    have s46 := ml_in1 (x := I 107 46) (by omega)
    have g7 : (I7 107 46).toInt = (I 107 46).toInt + 1 := by rw [e7, g6, en_up_eq]; exact s46
    refine ih I7 _ ?_ ?_ (by omega) (by omega) (by omega) (by omega)
    · rw [e7, g6]
      exact ml_wf m6 (by decide +kernel) (q := (0, 45)) (by decide +kernel) (by show 0 ≤ _ ∧ _ ≤ (45 : Int); omega)
    · intro p j hp
      rw [e7, en_up_ne _ _ _ _ (by omega), e6, en_up_ne _ _ _ _ (by omega), o4 _ _ (by omega) (by omega)]
      exact hf p j hp
theorem mx_meets1 {S : sm_C} {d : Nat} {Φ : sm_Z → Prop} {L : sm_L} {R : sm_R} (I0 : sm_I) (h : ∀ J : sm_I, en_mem ml_tb mlX (xLay, J, L, R) → ml_mf I0 J → Φ (none, (xLay, J, L, kM R))) : ∀ (m : Nat) (I : sm_I) (x1 : Int32), en_mem ml_tb mlX (xLay, I, L, R) → ml_mf I0 I → 0 ≤ x1.toInt → x1.toInt ≤ 10 → (I 107 46).toInt ≤ ml_S x1.toNatClampNeg → 10 - x1.toInt < m → sm_wp sm_P S d 161 1 [.ref 107, .int x1] [] (xLay, I, L, kM R) (0, 0) Φ := by
  intro m
  induction m with
  | zero => intro I x1 hm hf h0 h1 hs hM; omega
  | succ m ih =>
    intro I x1 hm hf h0 h1 hs hM
    obtain ⟨l0, l1, ln, lc⟩ := ml_live hm
    have l0 : 0 ≤ (I 107 18).toInt := l0
    have l1 : (I 107 18).toInt ≤ 1 := l1
    have ln : ((I 107 18).toNatClampNeg : Int) = (I 107 18).toInt := ln
    have bt : 0 ≤ (I 122 (I 107 18).toNatClampNeg).toInt ∧ (I 122 (I 107 18).toNatClampNeg).toInt ≤ 10 := ml_row hm (p := 122) (n := 2) (q := (0, 10)) (fun _ => rfl) _ (by omega)
    refine u_X12_meets_1 ⟨kl_in l0 (by omega), fun _ => h I hm hf, fun a => ?_⟩
    have a := kl_nle a
    have na := kl_nat h0
    have s1 := ml_in1 (x := x1) (by omega)
    have n1 := kl_nat (i := x1 + 1) (by omega)
    refine mx_meets3 h0 (by omega) I0 (fun J mJ fJ sJ => ih J _ mJ fJ (by omega) (by omega) ?_ (by omega)) 11 I _ hm hf (by omega) (by omega) (by omega) (by omega)
    rw [show (x1 + 1).toNatClampNeg = x1.toNatClampNeg + 1 by omega]; exact sJ
theorem mx_meets {S : sm_C} {d : Nat} {Φ : sm_Z → Prop} {I : sm_I} {L : sm_L} {R : sm_R} (hm : en_mem ml_tb mlX (xLay, I, L, R)) (h : ∀ J : sm_I, en_mem ml_tb mlX (xLay, J, L, R) → ml_mf I J → Φ (none, (xLay, J, L, kM R))) : sm_wp sm_P S d 161 0 [.ref 107] [] (xLay, I, L, kM R) (0, 0) Φ := by
  refine u_X12_meets_0 (mx_meets1 I h 11 _ 0 (ml_wf hm (by decide +kernel) (q := (0, 45)) (by decide +kernel) (by decide)) (fun p j hp => en_up_ne _ _ _ _ (by omega)) (by decide) (by decide) ?_ (by decide))
  rw [en_up_eq]
  decide
