/-! INTs: the same number on both sides -/
def nm_D (b : Nat → Int32) (p k : Nat) : Prop := ∀ i, i < k → 48 ≤ (b (p + i)).toInt ∧ (b (p + i)).toInt ≤ 57
def nm_g10 (x : Int32) : Nat := x.toInt.toNat - 48
theorem nm_Dof {b : Nat → Int32} {n p : Nat} : nm_D b p (tk_end tk_di b n p - p) := fun i hi => tk_di_r (tk_run_t (n := n) (n - p) p (p + i) (by omega) (by unfold tk_end at hi; omega))
theorem nc10_lt {b : Nat → Int32} {p : Nat} : ∀ k : Nat, k ≤ 4 → nm_D b p k → nc 10 nm_g10 b p k < 10000 := by
  intro k h4 hD
  cases k with
  | zero => show 0 < 10000; decide
  | succ k =>
    have := nc_lt (B := 10) (D := 10) (g := nm_g10) (b := b) (p := p) (Nat.le_refl _) k (fun i hi => by have := hD i (by omega); unfold nm_g10; omega)
    have w : 10 * 10 ^ k ≤ 10 * 10 ^ 3 := Nat.mul_le_mul_left _ (Nat.pow_le_pow_right (by decide) (by omega))
    omega
theorem nm_10 {b : Nat → Int32} {p : Nat} : ∀ k : Nat, k ≤ 4 → nm_D b p k → (tk_cd tk_f10 b p k).toInt = (nc 10 nm_g10 b p k : Nat) ∧ (mt_cd mt_f10 b p k).toInt = (nc 10 nm_g10 b p k : Nat) := by
  intro k
  induction k with
  | zero => intro _ _; exact ⟨rfl, rfl⟩
  | succ k ih =>
    intro h4 hD
    have dk : nm_D b p k := fun i hi => hD i (by omega)
    obtain ⟨q1, q2⟩ := ih (by omega) dk
    have r := hD k (by omega)
    have lt := nc10_lt k (by omega) dk
    have e : nc 10 nm_g10 b p (k + 1) = 10 * nc 10 nm_g10 b p k + nm_g10 (b (p + k)) := rfl
    have ge : nm_g10 (b (p + k)) = ((b (p + k)).toInt.toNat - 48) := rfl
    have c10 : (10 : Int64).toInt = 10 := by decide
    have d10 : (10 : Int32).toInt = 10 := by decide
    have c48 : (48 : Int64).toInt = 48 := by decide
    have d48 : (48 : Int32).toInt = 48 := by decide
    refine ⟨?_, ?_⟩
    · have m : (tk_cd tk_f10 b p k * (10 : Int64)).toInt = (nc 10 nm_g10 b p k : Nat) * 10 := by
        rw [l64m (by rw [c10, q1]; omega) (by rw [c10, q1]; omega), c10, q1]
      have x : ((b (p + k)).toInt64).toInt = (b (p + k)).toInt := Int32.toInt_toInt64 _
      have s : (tk_cd tk_f10 b p k * (10 : Int64) + (b (p + k)).toInt64).toInt = (nc 10 nm_g10 b p k : Nat) * 10 + (b (p + k)).toInt := by
        rw [l64 (by rw [m, x]; omega) (by rw [m, x]; omega), m, x]
      show ((tk_cd tk_f10 b p k * (10 : Int64) + (b (p + k)).toInt64) - (48 : Int64)).toInt = _
      rw [Int64.toInt_sub, s, c48, Int.bmod_eq_of_le (by omega) (by omega), e, ge]
      omega
    · have m : ((10 : Int32) * mt_cd mt_f10 b p k).toInt = 10 * (nc 10 nm_g10 b p k : Nat) := by
        rw [kl_mul (by rw [d10, q2]; omega) (by rw [d10, q2]; omega), d10, q2]
      have s : ((10 : Int32) * mt_cd mt_f10 b p k + b (p + k)).toInt = 10 * (nc 10 nm_g10 b p k : Nat) + (b (p + k)).toInt := by
        rw [kl_add (by rw [m]; omega) (by rw [m]; omega), m]
      show (((10 : Int32) * mt_cd mt_f10 b p k + b (p + k)) - (48 : Int32)).toInt = _
      rw [Int32.toInt_sub, s, d48, en_bmod (by omega) (by omega) (Or.inl rfl), e, ge]
      omega
/-- an INT's number -/
theorem in_eq {b : Nat → Int32} {n p : Nat} (h : tk_kd b n p = 16) : ∃ v : Nat, v < 10000 ∧ (tk_vl b n p).toInt = v ∧ (mt_vl b n p).toInt = v := by
  unfold tk_kd at h
  unfold tk_vl mt_vl
  by_cases c : tk_le (b p) = true
  · exfalso
    rw [if_pos c] at h
    by_cases c8 : tk_end tk_le b n p - p ≤ 8
    · rw [if_pos c8] at h
      by_cases e : ∃ i, i < 15 ∧ sm_words.getD i 0 = tk_cd tk_f8 b p (tk_end tk_le b n p - p)
      · obtain ⟨i, hi, e⟩ := e
        rw [← e, (wd_c i hi).1] at h
        have h := congrArg Int32.toInt h
        rw [Int32.toInt_ofNat_of_lt (by omega)] at h
        have c16 : (16 : Int32).toInt = 16 := by decide
        omega
      · rw [tk_wd_no 15 0 (fun j _ hj q => e ⟨j, by omega, q⟩)] at h
        exact absurd h (by decide)
    · rw [if_neg c8] at h; exact absurd h (by decide)
  · rw [if_neg c] at h
    rw [if_neg c, if_neg c]
    by_cases c2 : tk_di (b p) = true
    · rw [if_pos c2] at h
      rw [if_pos c2, if_pos c2]
      by_cases c4 : tk_end tk_di b n p - p ≤ 4
      · have q := nm_10 _ c4 (nm_Dof (b := b) (n := n) (p := p))
        rw [Nat.min_eq_left c4]
        exact ⟨_, nc10_lt _ c4 nm_Dof, q.1, q.2⟩
      · rw [if_neg c4] at h; exact absurd h (by decide)
    · exfalso
      rw [if_neg c2] at h
      unfold tk_sg at h
      by_cases e1 : (b p).toInt = 45
      · rw [if_pos e1] at h; exact absurd h (by decide)
      · rw [if_neg e1] at h
        by_cases e2 : (b p).toInt = 58
        · rw [if_pos e2] at h; exact absurd h (by decide)
        · rw [if_neg e2] at h
          by_cases e3 : (b p).toInt = 59
          · rw [if_pos e3] at h; exact absurd h (by decide)
          · rw [if_neg e3] at h; exact absurd h (by decide)
/-- names: the same on one side, the same on the other -/
theorem na_eq {b : Nat → Int32} {n p p' : Nat} (h : tk_kd b n p = 15) (h' : tk_kd b n p' = 15) : tk_vl b n p = tk_vl b n p' ↔ mt_nm b n p = mt_nm b n p' := by
  have is : ∀ p, tk_kd b n p = 15 → tk_le (b p) = true ∧ tk_end tk_le b n p - p ≤ 8 := fun p h => by
    unfold tk_kd at h
    by_cases c : tk_le (b p) = true
    · rw [if_pos c] at h
      by_cases c8 : tk_end tk_le b n p - p ≤ 8
      · exact ⟨c, c8⟩
      · rw [if_neg c8] at h; exact absurd h (by decide)
    · exfalso
      rw [if_neg c] at h
      by_cases c2 : tk_di (b p) = true
      · rw [if_pos c2] at h
        by_cases c4 : tk_end tk_di b n p - p ≤ 4
        · rw [if_pos c4] at h; exact absurd h (by decide)
        · rw [if_neg c4] at h; exact absurd h (by decide)
      · rw [if_neg c2] at h
        unfold tk_sg at h
        by_cases e1 : (b p).toInt = 45
        · rw [if_pos e1] at h; exact absurd h (by decide)
        · rw [if_neg e1] at h
          by_cases e2 : (b p).toInt = 58
          · rw [if_pos e2] at h; exact absurd h (by decide)
          · rw [if_neg e2] at h
            by_cases e3 : (b p).toInt = 59
            · rw [if_pos e3] at h; exact absurd h (by decide)
            · rw [if_neg e3] at h; exact absurd h (by decide)
  obtain ⟨a, a8⟩ := is p h
  obtain ⟨a', a8'⟩ := is p' h'
  unfold tk_vl mt_nm
  rw [if_pos a, if_pos a', if_pos a, if_pos a', Nat.min_eq_left a8, Nat.min_eq_left a8']
  exact (nm_iff a8 a8' nm_Lof nm_Lof).1
