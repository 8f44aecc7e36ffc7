/-! the class's code of a name -/
theorem i64_nat {s : Int64} {N : Nat} (h : s.toInt = N) : s.toBitVec.toNat = N := by
  have h : s.toBitVec.toInt = N := h
  rw [BitVec.toInt_eq_toNat_cond] at h
  have := s.toBitVec.isLt
  split at h <;> omega
theorem i64_of {s : Int64} {N : Nat} (hN : N < 2 ^ 63) (h : s.toBitVec.toNat = N) : s.toInt = N := by
  show s.toBitVec.toInt = N
  rw [BitVec.toInt_eq_toNat_cond, h, if_pos (by omega)]
theorem nm_sh {s : Int64} {x : Int32} {N X : Nat} (hs : s.toInt = N) (hN : N < 2 ^ 55) (hx : x.toInt = X) (hX : X < 128) (hb : 256 * N + X < 2 ^ 63) : (tk_f8 s x).toInt = ((256 * N + X : Nat) : Int) := by
  apply i64_of hb
  have e1 := i64_nat hs
  have e2 : (x.toInt64).toBitVec.toNat = X := i64_nat (by rw [Int32.toInt_toInt64]; exact hx)
  have e : (tk_f8 s x).toBitVec = (s.toBitVec <<< (8 : Nat)) ||| (x.toInt64).toBitVec := rfl
  rw [e, BitVec.toNat_or, BitVec.toNat_shiftLeft, e1, e2, Nat.mod_eq_of_lt (by rw [Nat.shiftLeft_eq]; omega), ← Nat.shiftLeft_add_eq_or_of_lt (by omega), Nat.shiftLeft_eq]
  omega
theorem nm_8 {b : Nat → Int32} {p : Nat} : ∀ k : Nat, k ≤ 8 → nm_L b p k → (tk_cd tk_f8 b p k).toInt = (nc 256 nm_g8 b p k : Nat) := by
  intro k
  induction k with
  | zero => intro _ _; rfl
  | succ k ih =>
    intro h8 hL
    have q := ih (by omega) (fun i hi => hL i (by omega))
    have r := hL k (by omega)
    have hd : ∀ i, i < k + 1 → nm_g8 (b (p + i)) < 128 := fun i hi => by have := hL i (by omega); unfold nm_g8; omega
    have l2 := nc_lt (B := 256) (D := 128) (g := nm_g8) (b := b) (p := p) (by decide) k hd
    have w2 : 128 * 256 ^ k ≤ 128 * 256 ^ 7 := Nat.mul_le_mul_left _ (Nat.pow_le_pow_right (by decide) (by omega))
    have v2 : 128 * 256 ^ 7 = (2 : Nat) ^ 63 := by decide
    rw [v2] at w2
    have e : nc 256 nm_g8 b p (k + 1) = 256 * nc 256 nm_g8 b p k + nm_g8 (b (p + k)) := rfl
    rw [e] at l2 ⊢
    exact nm_sh q (by omega) (by unfold nm_g8; omega) (hd k (by omega)) (by omega)
/-- both codings tell the same names apart -/
theorem nm_iff {b b' : Nat → Int32} {p p' k k' : Nat} (hk : k ≤ 8) (hk' : k' ≤ 8) (h : nm_L b p k) (h' : nm_L b' p' k') : (tk_cd tk_f8 b p k = tk_cd tk_f8 b' p' k' ↔ tk_cd mt_f27 b p k = tk_cd mt_f27 b' p' k') ∧ (tk_cd tk_f8 b p k = tk_cd tk_f8 b' p' k' → k = k') := by
  have A : tk_cd tk_f8 b p k = tk_cd tk_f8 b' p' k' → k = k' ∧ ∀ i, i < k → b (p + i) = b' (p' + i) := fun e => by
    have e2 : nc 256 nm_g8 b p k = nc 256 nm_g8 b' p' k' := by
      have := nm_8 k hk h
      rw [e, nm_8 k' hk' h'] at this
      omega
    obtain ⟨q1, q2⟩ := nc_inj k k' (fun i hi => by have := h i hi; unfold nm_g8; omega) (fun i hi => by have := h' i hi; unfold nm_g8; omega) e2
    exact ⟨q1, fun i hi => nm_up (h i hi).1 (h' i (by omega)).1 (Or.inl (q2 i hi))⟩
  have B : tk_cd mt_f27 b p k = tk_cd mt_f27 b' p' k' → k = k' ∧ ∀ i, i < k → b (p + i) = b' (p' + i) := fun e => by
    have e2 : nc 27 nm_g27 b p k = nc 27 nm_g27 b' p' k' := by
      have := nm_27 k hk h
      rw [e, nm_27 k' hk' h'] at this
      omega
    obtain ⟨q1, q2⟩ := nc_inj k k' (fun i hi => by have := h i hi; unfold nm_g27; omega) (fun i hi => by have := h' i hi; unfold nm_g27; omega) e2
    exact ⟨q1, fun i hi => nm_up (h i hi).1 (h' i (by omega)).1 (Or.inr (q2 i hi))⟩
  refine ⟨⟨fun e => ?_, fun e => ?_⟩, fun e => (A e).1⟩
  · obtain ⟨q1, q2⟩ := A e
    subst q1
    exact tk_cd_cg k q2
  · obtain ⟨q1, q2⟩ := B e
    subst q1
    exact tk_cd_cg k q2
/-! the words -/
def wd_l : List (List Int32) := [[119, 104, 111], [112, 108, 97, 99, 101], [119, 97, 121], [116, 105, 109, 101], [111, 102], [105, 110], [115, 97, 121], [116, 114, 117, 115, 116], [115, 117, 114, 101], [111, 114], [111, 112, 101, 110], [98, 101, 104, 105, 110, 100], [97, 115, 107], [97, 110, 100], [97, 116]]
def wd_b (i j : Nat) : Int32 := (wd_l.getD i []).getD j 0
def wd_n (i : Nat) : Nat := (wd_l.getD i []).length
def wd_m : List Nat := [0, 1, 2, 3, 4, 5, 6, 14, 7, 8, 12, 11, 13, 9, 10]
theorem wd_8 : ∀ i, i < 15 → sm_words.getD i 0 = tk_cd tk_f8 (wd_b i) 0 (wd_n i) := by decide +kernel
theorem wd_27 : ∀ i, i < 15 → pk_key.getD (wd_m.getD i 0) 0 = tk_cd mt_f27 (wd_b i) 0 (wd_n i) := by decide +kernel
theorem wd_L : ∀ i, i < 15 → ∀ j, j < wd_n i → 97 ≤ (wd_b i (0 + j)).toInt ∧ (wd_b i (0 + j)).toInt ≤ 122 := by decide +kernel
theorem wd_n6 : ∀ i, i < 15 → wd_n i ≤ 6 := by decide
theorem wd_on : ∀ j, j < 15 → ∃ i, i < 15 ∧ wd_m.getD i 0 = j := by decide
theorem wd_c : ∀ i, i < 15 → tk_wd (sm_words.getD i 0) 15 0 = Int32.ofNat i ∧ mt_ky (pk_key.getD (wd_m.getD i 0) 0) 15 0 1 = 20 + Int32.ofNat (wd_m.getD i 0) := by decide +kernel
theorem tk_wd_no {y : Int64} : ∀ m i : Nat, (∀ j, i ≤ j → j < i + m → ¬ sm_words.getD j 0 = y) → tk_wd y m i = 15 := by
  intro m
  induction m with
  | zero => intro i _; rfl
  | succ m ih =>
    intro i h
    show (if sm_words.getD i 0 = y then Int32.ofNat i else tk_wd y m (i + 1)) = 15
    rw [if_neg (h i (Nat.le_refl _) (by omega))]
    exact ih (i + 1) (fun j a b => h j (by omega) (by omega))
theorem mt_ky_no {y : Int64} {c : Int32} : ∀ m i : Nat, (∀ j, i ≤ j → j < i + m → ¬ pk_key.getD j 0 = y) → mt_ky y m i c = c := by
  intro m
  induction m with
  | zero => intro i _; rfl
  | succ m ih =>
    intro i h
    show mt_ky y m (i + 1) (if pk_key.getD i 0 = y then (20 : Int32) + Int32.ofNat i else c) = c
    rw [if_neg (h i (Nat.le_refl _) (by omega))]
    exact ih (i + 1) (fun j a b => h j (by omega) (by omega))
/-- the kinds: the reference's of the class's -/
def kd_m : List Int32 := [20, 21, 22, 23, 24, 25, 26, 34, 27, 28, 32, 31, 33, 29, 30, 1, 2, 4, 5, 9, 3, 0]
theorem kd_w : ∀ i, i < 15 → kd_m.getD (Int32.ofNat i).toNatClampNeg 0 = 20 + Int32.ofNat (wd_m.getD i 0) := by decide +kernel
theorem tk_run_t {f : Int32 → Bool} {b : Nat → Int32} {n : Nat} : ∀ (k p i : Nat), p ≤ i → i < tk_run f b n k p → f (b i) = true := by
  intro k
  induction k with
  | zero => intro p i h1 h2; have h2 : i < p := h2; omega
  | succ k ih =>
    intro p i h1 h2
    have h2 : i < (if p < n ∧ f (b p) = true then tk_run f b n k (p + 1) else p) := h2
    by_cases c : p < n ∧ f (b p) = true
    · rw [if_pos c] at h2
      by_cases e : i = p
      · subst e; exact c.2
      · exact ih (p + 1) i (by omega) h2
    · rw [if_neg c] at h2; omega
theorem nm_Lof {b : Nat → Int32} {n p : Nat} : nm_L b p (tk_end tk_le b n p - p) := fun i hi => tk_le_r (tk_run_t (n := n) (n - p) p (p + i) (by omega) (by unfold tk_end at hi; omega))
theorem kd_eq {b : Nat → Int32} {n p : Nat} : mt_kd b n p = kd_m.getD (tk_kd b n p).toNatClampNeg 0 := by
  unfold mt_kd tk_kd
  by_cases c : tk_le (b p) = true
  · rw [if_pos c, if_pos c]
    have hL := nm_Lof (b := b) (n := n) (p := p)
    generalize tk_end tk_le b n p - p = k at hL ⊢
    by_cases c8 : k ≤ 8
    · rw [if_pos c8, if_pos c8]
      have w : ∀ i, i < 15 → _ := fun i hi => nm_iff c8 (Nat.le_trans (wd_n6 i hi) (by decide)) hL (wd_L i hi)
      by_cases e : ∃ i, i < 15 ∧ tk_cd tk_f8 b p k = sm_words.getD i 0
      · obtain ⟨i, hi, e⟩ := e
        have e' := e
        rw [wd_8 i hi] at e'
        have k7 : k ≤ 7 := by have := (w i hi).2 e'; have := wd_n6 i hi; omega
        have e27 := (w i hi).1.mp e'
        rw [← wd_27 i hi] at e27
        rw [if_pos k7, e, e27, (wd_c i hi).1, (wd_c i hi).2, kd_w i hi]
      · have no8 : ∀ j, 0 ≤ j → j < 0 + 15 → ¬ sm_words.getD j 0 = tk_cd tk_f8 b p k := fun j _ hj q => e ⟨j, by omega, q.symm⟩
        have no27 : ∀ j, 0 ≤ j → j < 0 + 15 → ¬ pk_key.getD j 0 = tk_cd mt_f27 b p k := fun j _ hj q => by
          obtain ⟨i, hi, ei⟩ := wd_on j (by omega)
          subst ei
          rw [wd_27 i hi] at q
          exact e ⟨i, hi, by rw [wd_8 i hi]; exact (w i hi).1.mpr q.symm⟩
        rw [tk_wd_no 15 0 no8, mt_ky_no 15 0 no27]
        by_cases c7 : k ≤ 7
        · rw [if_pos c7]; decide
        · rw [if_neg c7]; decide
    · rw [if_neg c8, if_neg c8]; decide
  · rw [if_neg c, if_neg c]
    by_cases c2 : tk_di (b p) = true
    · rw [if_pos c2, if_pos c2]
      by_cases c4 : tk_end tk_di b n p - p ≤ 4
      · rw [if_pos c4, if_pos c4]; decide
      · rw [if_neg c4, if_neg c4]; decide
    · rw [if_neg c2, if_neg c2]
      unfold mt_sg tk_sg
      have i45 : (45 : Int32).toInt = 45 := by decide
      have i58 : (58 : Int32).toInt = 58 := by decide
      have i59 : (59 : Int32).toInt = 59 := by decide
      by_cases e1 : b p = 59
      · rw [if_pos e1, if_neg (by rw [e1, i59]; decide), if_neg (by rw [e1, i59]; decide), if_pos (by rw [e1, i59])]; decide
      · rw [if_neg e1]
        by_cases e2 : b p = 58
        · rw [if_pos e2, if_neg (by rw [e2, i58]; decide), if_pos (by rw [e2, i58])]; decide
        · rw [if_neg e2]
          by_cases e3 : b p = 45
          · rw [if_pos e3, if_pos (by rw [e3, i45])]; decide
          · rw [if_neg e3, if_neg (fun q => e3 (en_ofI (by rw [q, i45]))), if_neg (fun q => e2 (en_ofI (by rw [q, i58]))), if_neg (fun q => e1 (en_ofI (by rw [q, i59])))]; decide
