section
/-! the class's code of a name -/
theorem i64_nat {s : Int64} {N : Nat} (h : s.toInt = N) : s.toBitVec.toNat = N := by
  have h : s.toBitVec.toInt = N := h
  rw [BitVec.toInt_eq_toNat_cond] at h
  have := s.toBitVec.isLt
  split at h <;> omega
theorem i64_of {s : Int64} {N : Nat} (hN : N < 2 ^ 63) (h : s.toBitVec.toNat = N) : s.toInt = N := by
  show s.toBitVec.toInt = N
  rw [BitVec.toInt_eq_toNat_cond, h, if_pos (by omega)]
theorem nm_sh {s : Int64} {x : Int32} {N X : Nat} (hs : s.toInt = N) (hN : N < 2 ^ 55) (hx : x.toInt = X) (hX : X < 128) (hb : 256 * N + X < 2 ^ 63) : (tk_f8 s x).toInt = ((256 * N + X : Nat) : Int) := by
  apply i64_of hb
  have e1 := i64_nat hs
  have e2 : (x.toInt64).toBitVec.toNat = X := i64_nat (by rw [Int32.toInt_toInt64]; exact hx)
  have e : (tk_f8 s x).toBitVec = (s.toBitVec <<< (8 : Nat)) ||| (x.toInt64).toBitVec := rfl
  rw [e, BitVec.toNat_or, BitVec.toNat_shiftLeft, e1, e2, Nat.mod_eq_of_lt (by rw [Nat.shiftLeft_eq]; omega), ← Nat.shiftLeft_add_eq_or_of_lt (by omega), Nat.shiftLeft_eq]
  omega
theorem nm_8 {b : Nat → Int32} {p : Nat} : ∀ k : Nat, k ≤ 8 → nm_L b p k → (tk_cd tk_f8 b p k).toInt = (nc 256 nm_g8 b p k : Nat) := by
  intro k
  induction k with
  | zero => intro _ _; rfl
  | succ k ih =>
    intro h8 hL
    have q := ih (by omega) (fun i hi => hL i (by omega))
    have r := hL k (by omega)
    have hd : ∀ i, i < k + 1 → nm_g8 (b (p + i)) < 128 := fun i hi => by have := hL i (by omega); unfold nm_g8; omega
    have l2 := nc_lt (B := 256) (D := 128) (g := nm_g8) (b := b) (p := p) (by decide) k hd
    have w2 : 128 * 256 ^ k ≤ 128 * 256 ^ 7 := Nat.mul_le_mul_left _ (Nat.pow_le_pow_right (by decide) (by omega))
    have v2 : 128 * 256 ^ 7 = (2 : Nat) ^ 63 := by decide
    rw [v2] at w2
    have e : nc 256 nm_g8 b p (k + 1) = 256 * nc 256 nm_g8 b p k + nm_g8 (b (p + k)) := rfl
    rw [e] at l2 ⊢
    exact nm_sh q (by omega) (by unfold nm_g8; omega) (hd k (by omega)) (by omega)
/-- both codings tell the same names apart -/
theorem nm_iff {b b' : Nat → Int32} {p p' k k' : Nat} (hk : k ≤ 8) (hk' : k' ≤ 8) (h : nm_L b p k) (h' : nm_L b' p' k') : (tk_cd tk_f8 b p k = tk_cd tk_f8 b' p' k' ↔ tk_cd mt_f27 b p k = tk_cd mt_f27 b' p' k') ∧ (tk_cd tk_f8 b p k = tk_cd tk_f8 b' p' k' → k = k') := by
  have A : tk_cd tk_f8 b p k = tk_cd tk_f8 b' p' k' → k = k' ∧ ∀ i, i < k → b (p + i) = b' (p' + i) := fun e => by
    have e2 : nc 256 nm_g8 b p k = nc 256 nm_g8 b' p' k' := by
      have := nm_8 k hk h
      rw [e, nm_8 k' hk' h'] at this
      omega
    obtain ⟨q1, q2⟩ := nc_inj k k' (fun i hi => by have := h i hi; unfold nm_g8; omega) (fun i hi => by have := h' i hi; unfold nm_g8; omega) e2
    exact ⟨q1, fun i hi => nm_up (h i hi).1 (h' i (by omega)).1 (Or.inl (q2 i hi))⟩
  have B : tk_cd mt_f27 b p k = tk_cd mt_f27 b' p' k' → k = k' ∧ ∀ i, i < k → b (p + i) = b' (p' + i) := fun e => by
    have e2 : nc 27 nm_g27 b p k = nc 27 nm_g27 b' p' k' := by
      have := nm_27 k hk h
      rw [e, nm_27 k' hk' h'] at this
      omega
    obtain ⟨q1, q2⟩ := nc_inj k k' (fun i hi => by have := h i hi; unfold nm_g27; omega) (fun i hi => by have := h' i hi; unfold nm_g27; omega) e2
    exact ⟨q1, fun i hi => nm_up (h i hi).1 (h' i (by omega)).1 (Or.inr (q2 i hi))⟩
  refine ⟨⟨fun e => ?_, fun e => ?_⟩, fun e => (A e).1⟩
  · obtain ⟨q1, q2⟩ := A e
    subst q1
    exact tk_cd_cg k q2
  · obtain ⟨q1, q2⟩ := B e
    subst q1
    exact tk_cd_cg k q2
/-! the words -/
def wd_l : List (List Int32) := [[119, 104, 111], [112, 108, 97, 99, 101], [119, 97, 121], [116, 105, 109, 101], [111, 102], [105, 110], [115, 97, 121], [116, 114, 117, 115, 116], [115, 117, 114, 101], [111, 114], [111, 112, 101, 110], [98, 101, 104, 105, 110, 100], [97, 115, 107], [97, 110, 100], [97, 116]]
def wd_b (i j : Nat) : Int32 := (wd_l.getD i []).getD j 0
def wd_n (i : Nat) : Nat := (wd_l.getD i []).length
def wd_m : List Nat := [0, 1, 2, 3, 4, 5, 6, 14, 7, 8, 12, 11, 13, 9, 10]
theorem wd_8 : ∀ i, i < 15 → sm_words.getD i 0 = tk_cd tk_f8 (wd_b i) 0 (wd_n i) := by decide +kernel
theorem wd_27 : ∀ i, i < 15 → pk_key.getD (wd_m.getD i 0) 0 = tk_cd mt_f27 (wd_b i) 0 (wd_n i) := by decide +kernel
theorem wd_L : ∀ i, i < 15 → ∀ j, j < wd_n i → 97 ≤ (wd_b i (0 + j)).toInt ∧ (wd_b i (0 + j)).toInt ≤ 122 := by decide +kernel
theorem wd_n6 : ∀ i, i < 15 → wd_n i ≤ 6 := by decide
theorem wd_on : ∀ j, j < 15 → ∃ i, i < 15 ∧ wd_m.getD i 0 = j := by decide
theorem wd_c : ∀ i, i < 15 → tk_wd (sm_words.getD i 0) 15 0 = Int32.ofNat i ∧ mt_ky (pk_key.getD (wd_m.getD i 0) 0) 15 0 1 = 20 + Int32.ofNat (wd_m.getD i 0) := by decide +kernel
theorem tk_wd_no {y : Int64} : ∀ m i : Nat, (∀ j, i ≤ j → j < i + m → ¬ sm_words.getD j 0 = y) → tk_wd y m i = 15 := by
  intro m
  induction m with
  | zero => intro i _; rfl
  | succ m ih =>
    intro i h
    show (if sm_words.getD i 0 = y then Int32.ofNat i else tk_wd y m (i + 1)) = 15
    rw [if_neg (h i (Nat.le_refl _) (by omega))]
    exact ih (i + 1) (fun j a b => h j (by omega) (by omega))
theorem mt_ky_no {y : Int64} {c : Int32} : ∀ m i : Nat, (∀ j, i ≤ j → j < i + m → ¬ pk_key.getD j 0 = y) → mt_ky y m i c = c := by
  intro m
  induction m with
  | zero => intro i _; rfl
  | succ m ih =>
    intro i h
    show mt_ky y m (i + 1) (if pk_key.getD i 0 = y then (20 : Int32) + Int32.ofNat i else c) = c
    rw [if_neg (h i (Nat.le_refl _) (by omega))]
    exact ih (i + 1) (fun j a b => h j (by omega) (by omega))
/-- the kinds: the reference's of the class's -/
def kd_m : List Int32 := [20, 21, 22, 23, 24, 25, 26, 34, 27, 28, 32, 31, 33, 29, 30, 1, 2, 4, 5, 9, 3, 0]
theorem kd_w : ∀ i, i < 15 → kd_m.getD (Int32.ofNat i).toNatClampNeg 0 = 20 + Int32.ofNat (wd_m.getD i 0) := by decide +kernel
theorem tk_run_t {f : Int32 → Bool} {b : Nat → Int32} {n : Nat} : ∀ (k p i : Nat), p ≤ i → i < tk_run f b n k p → f (b i) = true := by
  intro k
  induction k with
  | zero => intro p i h1 h2; have h2 : i < p := h2; omega
  | succ k ih =>
    intro p i h1 h2
    have h2 : i < (if p < n ∧ f (b p) = true then tk_run f b n k (p + 1) else p) := h2
    by_cases c : p < n ∧ f (b p) = true
    · rw [if_pos c] at h2
      by_cases e : i = p
      · subst e; exact c.2
      · exact ih (p + 1) i (by omega) h2
    · rw [if_neg c] at h2; omega
theorem nm_Lof {b : Nat → Int32} {n p : Nat} : nm_L b p (tk_end tk_le b n p - p) := fun i hi => tk_le_r (tk_run_t (n := n) (n - p) p (p + i) (by omega) (by unfold tk_end at hi; omega))
theorem kd_eq {b : Nat → Int32} {n p : Nat} : mt_kd b n p = kd_m.getD (tk_kd b n p).toNatClampNeg 0 := by
  unfold mt_kd tk_kd
  by_cases c : tk_le (b p) = true
  · rw [if_pos c, if_pos c]
    have hL := nm_Lof (b := b) (n := n) (p := p)
    generalize tk_end tk_le b n p - p = k at hL ⊢
    by_cases c8 : k ≤ 8
    · rw [if_pos c8, if_pos c8]
      have w : ∀ i, i < 15 → _ := fun i hi => nm_iff c8 (Nat.le_trans (wd_n6 i hi) (by decide)) hL (wd_L i hi)
      by_cases e : ∃ i, i < 15 ∧ tk_cd tk_f8 b p k = sm_words.getD i 0
      · obtain ⟨i, hi, e⟩ := e
        have e' := e
        rw [wd_8 i hi] at e'
        have k7 : k ≤ 7 := by have := (w i hi).2 e'; have := wd_n6 i hi; omega
        have e27 := (w i hi).1.mp e'
        rw [← wd_27 i hi] at e27
        rw [if_pos k7, e, e27, (wd_c i hi).1, (wd_c i hi).2, kd_w i hi]
      · have no8 : ∀ j, 0 ≤ j → j < 0 + 15 → ¬ sm_words.getD j 0 = tk_cd tk_f8 b p k := fun j _ hj q => e ⟨j, by omega, q.symm⟩
        have no27 : ∀ j, 0 ≤ j → j < 0 + 15 → ¬ pk_key.getD j 0 = tk_cd mt_f27 b p k := fun j _ hj q => by
          obtain ⟨i, hi, ei⟩ := wd_on j (by omega)
          subst ei
          rw [wd_27 i hi] at q
          exact e ⟨i, hi, by rw [wd_8 i hi]; exact (w i hi).1.mpr q.symm⟩
        rw [tk_wd_no 15 0 no8, mt_ky_no 15 0 no27]
        by_cases c7 : k ≤ 7
        · rw [if_pos c7]; decide
        · rw [if_neg c7]; decide
    · rw [if_neg c8, if_neg c8]; decide
  · rw [if_neg c, if_neg c]
    by_cases c2 : tk_di (b p) = true
    · rw [if_pos c2, if_pos c2]
      by_cases c4 : tk_end tk_di b n p - p ≤ 4
      · rw [if_pos c4, if_pos c4]; decide
      · rw [if_neg c4, if_neg c4]; decide
    · rw [if_neg c2, if_neg c2]
      unfold mt_sg tk_sg
      have i45 : (45 : Int32).toInt = 45 := by decide
      have i58 : (58 : Int32).toInt = 58 := by decide
      have i59 : (59 : Int32).toInt = 59 := by decide
      by_cases e1 : b p = 59
      · rw [if_pos e1, if_neg (by rw [e1, i59]; decide), if_neg (by rw [e1, i59]; decide), if_pos (by rw [e1, i59])]; decide
      · rw [if_neg e1]
        by_cases e2 : b p = 58
        · rw [if_pos e2, if_neg (by rw [e2, i58]; decide), if_pos (by rw [e2, i58])]; decide
        · rw [if_neg e2]
          by_cases e3 : b p = 45
          · rw [if_pos e3, if_pos (by rw [e3, i45])]; decide
          · rw [if_neg e3, if_neg (fun q => e3 (en_ofI (by rw [q, i45]))), if_neg (fun q => e2 (en_ofI (by rw [q, i58]))), if_neg (fun q => e1 (en_ofI (by rw [q, i59])))]; decide
end
section
/-! INTs: the same number on both sides -/
def nm_D (b : Nat → Int32) (p k : Nat) : Prop := ∀ i, i < k → 48 ≤ (b (p + i)).toInt ∧ (b (p + i)).toInt ≤ 57
def nm_g10 (x : Int32) : Nat := x.toInt.toNat - 48
theorem nm_Dof {b : Nat → Int32} {n p : Nat} : nm_D b p (tk_end tk_di b n p - p) := fun i hi => tk_di_r (tk_run_t (n := n) (n - p) p (p + i) (by omega) (by unfold tk_end at hi; omega))
theorem nc10_lt {b : Nat → Int32} {p : Nat} : ∀ k : Nat, k ≤ 4 → nm_D b p k → nc 10 nm_g10 b p k < 10000 := by
  intro k h4 hD
  cases k with
  | zero => show 0 < 10000; decide
  | succ k =>
    have := nc_lt (B := 10) (D := 10) (g := nm_g10) (b := b) (p := p) (Nat.le_refl _) k (fun i hi => by have := hD i (by omega); unfold nm_g10; omega)
    have w : 10 * 10 ^ k ≤ 10 * 10 ^ 3 := Nat.mul_le_mul_left _ (Nat.pow_le_pow_right (by decide) (by omega))
    omega
theorem nm_10 {b : Nat → Int32} {p : Nat} : ∀ k : Nat, k ≤ 4 → nm_D b p k → (tk_cd tk_f10 b p k).toInt = (nc 10 nm_g10 b p k : Nat) ∧ (mt_cd mt_f10 b p k).toInt = (nc 10 nm_g10 b p k : Nat) := by
  intro k
  induction k with
  | zero => intro _ _; exact ⟨rfl, rfl⟩
  | succ k ih =>
    intro h4 hD
    have dk : nm_D b p k := fun i hi => hD i (by omega)
    obtain ⟨q1, q2⟩ := ih (by omega) dk
    have r := hD k (by omega)
    have lt := nc10_lt k (by omega) dk
    have e : nc 10 nm_g10 b p (k + 1) = 10 * nc 10 nm_g10 b p k + nm_g10 (b (p + k)) := rfl
    have ge : nm_g10 (b (p + k)) = ((b (p + k)).toInt.toNat - 48) := rfl
    have c10 : (10 : Int64).toInt = 10 := by decide
    have d10 : (10 : Int32).toInt = 10 := by decide
    have c48 : (48 : Int64).toInt = 48 := by decide
    have d48 : (48 : Int32).toInt = 48 := by decide
    refine ⟨?_, ?_⟩
    · have m : (tk_cd tk_f10 b p k * (10 : Int64)).toInt = (nc 10 nm_g10 b p k : Nat) * 10 := by
        rw [l64m (by rw [c10, q1]; omega) (by rw [c10, q1]; omega), c10, q1]
      have x : ((b (p + k)).toInt64).toInt = (b (p + k)).toInt := Int32.toInt_toInt64 _
      have s : (tk_cd tk_f10 b p k * (10 : Int64) + (b (p + k)).toInt64).toInt = (nc 10 nm_g10 b p k : Nat) * 10 + (b (p + k)).toInt := by
        rw [l64 (by rw [m, x]; omega) (by rw [m, x]; omega), m, x]
      show ((tk_cd tk_f10 b p k * (10 : Int64) + (b (p + k)).toInt64) - (48 : Int64)).toInt = _
      rw [Int64.toInt_sub, s, c48, Int.bmod_eq_of_le (by omega) (by omega), e, ge]
      omega
    · have m : ((10 : Int32) * mt_cd mt_f10 b p k).toInt = 10 * (nc 10 nm_g10 b p k : Nat) := by
        rw [kl_mul (by rw [d10, q2]; omega) (by rw [d10, q2]; omega), d10, q2]
      have s : ((10 : Int32) * mt_cd mt_f10 b p k + b (p + k)).toInt = 10 * (nc 10 nm_g10 b p k : Nat) + (b (p + k)).toInt := by
        rw [kl_add (by rw [m]; omega) (by rw [m]; omega), m]
      show (((10 : Int32) * mt_cd mt_f10 b p k + b (p + k)) - (48 : Int32)).toInt = _
      rw [Int32.toInt_sub, s, d48, en_bmod (by omega) (by omega) (Or.inl rfl), e, ge]
      omega
/-- an INT's number -/
theorem in_eq {b : Nat → Int32} {n p : Nat} (h : tk_kd b n p = 16) : ∃ v : Nat, v < 10000 ∧ (tk_vl b n p).toInt = v ∧ (mt_vl b n p).toInt = v := by
  unfold tk_kd at h
  unfold tk_vl mt_vl
  by_cases c : tk_le (b p) = true
  · exfalso
    rw [if_pos c] at h
    by_cases c8 : tk_end tk_le b n p - p ≤ 8
    · rw [if_pos c8] at h
      by_cases e : ∃ i, i < 15 ∧ sm_words.getD i 0 = tk_cd tk_f8 b p (tk_end tk_le b n p - p)
      · obtain ⟨i, hi, e⟩ := e
        rw [← e, (wd_c i hi).1] at h
        have h := congrArg Int32.toInt h
        rw [Int32.toInt_ofNat_of_lt (by omega)] at h
        have c16 : (16 : Int32).toInt = 16 := by decide
        omega
      · rw [tk_wd_no 15 0 (fun j _ hj q => e ⟨j, by omega, q⟩)] at h
        exact absurd h (by decide)
    · rw [if_neg c8] at h; exact absurd h (by decide)
  · rw [if_neg c] at h
    rw [if_neg c, if_neg c]
    by_cases c2 : tk_di (b p) = true
    · rw [if_pos c2] at h
      rw [if_pos c2, if_pos c2]
      by_cases c4 : tk_end tk_di b n p - p ≤ 4
      · have q := nm_10 _ c4 (nm_Dof (b := b) (n := n) (p := p))
        rw [Nat.min_eq_left c4]
        exact ⟨_, nc10_lt _ c4 nm_Dof, q.1, q.2⟩
      · rw [if_neg c4] at h; exact absurd h (by decide)
    · exfalso
      rw [if_neg c2] at h
      unfold tk_sg at h
      by_cases e1 : (b p).toInt = 45
      · rw [if_pos e1] at h; exact absurd h (by decide)
      · rw [if_neg e1] at h
        by_cases e2 : (b p).toInt = 58
        · rw [if_pos e2] at h; exact absurd h (by decide)
        · rw [if_neg e2] at h
          by_cases e3 : (b p).toInt = 59
          · rw [if_pos e3] at h; exact absurd h (by decide)
          · rw [if_neg e3] at h; exact absurd h (by decide)
/-- names: the same on one side, the same on the other -/
theorem na_eq {b : Nat → Int32} {n p p' : Nat} (h : tk_kd b n p = 15) (h' : tk_kd b n p' = 15) : tk_vl b n p = tk_vl b n p' ↔ mt_nm b n p = mt_nm b n p' := by
  have is : ∀ p, tk_kd b n p = 15 → tk_le (b p) = true ∧ tk_end tk_le b n p - p ≤ 8 := fun p h => by
    unfold tk_kd at h
    by_cases c : tk_le (b p) = true
    · rw [if_pos c] at h
      by_cases c8 : tk_end tk_le b n p - p ≤ 8
      · exact ⟨c, c8⟩
      · rw [if_neg c8] at h; exact absurd h (by decide)
    · exfalso
      rw [if_neg c] at h
      by_cases c2 : tk_di (b p) = true
      · rw [if_pos c2] at h
        by_cases c4 : tk_end tk_di b n p - p ≤ 4
        · rw [if_pos c4] at h; exact absurd h (by decide)
        · rw [if_neg c4] at h; exact absurd h (by decide)
      · rw [if_neg c2] at h
        unfold tk_sg at h
        by_cases e1 : (b p).toInt = 45
        · rw [if_pos e1] at h; exact absurd h (by decide)
        · rw [if_neg e1] at h
          by_cases e2 : (b p).toInt = 58
          · rw [if_pos e2] at h; exact absurd h (by decide)
          · rw [if_neg e2] at h
            by_cases e3 : (b p).toInt = 59
            · rw [if_pos e3] at h; exact absurd h (by decide)
            · rw [if_neg e3] at h; exact absurd h (by decide)
  obtain ⟨a, a8⟩ := is p h
  obtain ⟨a', a8'⟩ := is p' h'
  unfold tk_vl mt_nm
  rw [if_pos a, if_pos a', if_pos a, if_pos a', Nat.min_eq_left a8, Nat.min_eq_left a8']
  exact (nm_iff a8 a8' nm_Lof nm_Lof).1
end
section
/-! THE GRAMMAR: what follows what -/
def fwl : List Int32 → Int32 → Int32 → Int32
  | a :: b :: c :: r, s, k => if a = s then (if b = k then c else fwl r s k) else fwl r s k
  | _, _, _ => -1
def fw (s k : Int32) : Int32 := fwl sm_steps s k
theorem dr3 {l : List Int32} {j : Nat} (h : j + 2 < l.length) : l.drop j = l.getD j 0 :: l.getD (j + 1) 0 :: l.getD (j + 2) 0 :: l.drop (j + 3) := by
  have g : ∀ i, i < l.length → l.drop i = l.getD i 0 :: l.drop (i + 1) := fun i hi => by
    rw [List.drop_eq_getElem_cons hi, List.getD_eq_getElem?_getD, List.getElem?_eq_getElem hi]; rfl
  rw [g j (by omega), g (j + 1) (by omega), g (j + 2) (by omega)]
theorem st_len : sm_steps.length = 138 := by decide +kernel
theorem ks_follow1 {S : sm_C} {d q : Nat} {Φ : sm_Z → Prop} {I : sm_I} {L : sm_L} {R : sm_R} {x0 x1 : Int32} : ∀ (m i : Nat) (x2 : Int32), x2.toInt = i → i + 3 * m = 138 → Φ (some (.int (fwl (sm_steps.drop i) x0 x1)), (xLay, I, L, kT q R)) → sm_wp sm_P S d 241 1 [.int x0, .int x1, .int x2] [] (xLay, I, L, kT q R) (0, 0) Φ := by
  have l : (Int32.ofNat sm_steps.length).toInt = 138 := by rw [st_len]; decide
  have c1 : (1 : Int32).toInt = (1 : Nat) := by decide
  have c2 : (2 : Int32).toInt = (2 : Nat) := by decide
  have c3 : (3 : Int32).toInt = (3 : Nat) := by decide
  intro m
  induction m with
  | zero =>
    intro i x2 hx hm h
    have s2 := tk_add hx c2 (by omega)
    refine t_X3_follow_1 ⟨fun _ => ?_, fun a => ?_⟩
    · rw [List.drop_eq_nil_of_le (by rw [st_len]; omega)] at h; exact h
    · have := kl_nle a
      omega
  | succ m ih =>
    intro i x2 hx hm h
    have s1 := tk_add hx c1 (by omega)
    have s2 := tk_add hx c2 (by omega)
    have s3 := tk_add hx c3 (by omega)
    have n0 := tk_nat hx
    have n1 := tk_nat s1
    have n2 := tk_nat s2
    rw [dr3 (by rw [st_len]; omega)] at h
    have h : Φ (some (.int (if sm_steps.getD i 0 = x0 then (if sm_steps.getD (i + 1) 0 = x1 then sm_steps.getD (i + 2) 0 else fwl (sm_steps.drop (i + 3)) x0 x1) else fwl (sm_steps.drop (i + 3)) x0 x1)), (xLay, I, L, kT q R)) := h
    have v0 : vp_in x2 sm_steps.length := kl_in (by omega) (by rw [st_len]; omega)
    have v1 : vp_in (x2 + 1) sm_steps.length := kl_in (by omega) (by rw [st_len]; omega)
    have v2 : vp_in (x2 + 2) sm_steps.length := kl_in (by omega) (by rw [st_len]; omega)
    refine t_X3_follow_1 ⟨fun a => ?_, fun a => ⟨v0, fun e => ⟨v1, fun e1 => ⟨v2, ?_⟩, fun e1 => ?_⟩, fun e => ?_⟩⟩
    · have := kl_le.mp a
      omega
    · rw [n0] at e
      rw [n1] at e1
      rw [if_pos e, if_pos e1] at h
      rw [n2]; exact h
    · rw [n0] at e
      rw [n1] at e1
      rw [if_pos e, if_neg e1] at h
      exact ih (i + 3) _ s3 (by omega) h
    · rw [n0] at e
      rw [if_neg e] at h
      exact ih (i + 3) _ s3 (by omega) h
theorem ks_follow {S : sm_C} {d q : Nat} {Φ : sm_Z → Prop} {I : sm_I} {L : sm_L} {R : sm_R} {x0 x1 : Int32} (h : Φ (some (.int (fw x0 x1)), (xLay, I, L, kT q R))) : sm_wp sm_P S d 241 0 [.int x0, .int x1] [] (xLay, I, L, kT q R) (0, 0) Φ := t_X3_follow_0 (ks_follow1 46 0 0 (by decide) (by decide) h)
/-- what is counted while a text is read: its tell, alls, parts, tells of each word -/
abbrev gc : Type := Int32 × Nat × Nat × (Nat → Nat)
abbrev gc.tell (g : gc) : Int32 := g.1
abbrev gc.alls (g : gc) : Nat := g.2.1
abbrev gc.parts (g : gc) : Nat := g.2.2.1
abbrev gc.tells (g : gc) : Nat → Nat := g.2.2.2
def gc0 : gc := ⟨0, 0, 0, fun _ => 0⟩
/-- the word that is counted for a tell -/
def gw (k : Int32) : Nat := if k = 8 then 6 else k.toNatClampNeg
def gc_st (s k : Int32) (g : gc) : gc := if s = 0 ∧ k.toInt < 15 then ⟨k, 1, 1, fun j => if j = gw k then g.tells j + 1 else g.tells j⟩ else if k = 9 then ⟨g.tell, g.alls + 1, 1, g.tells⟩ else if k = 13 then ⟨g.tell, g.alls, g.parts + 1, g.tells⟩ else g
def gc_ok (s k : Int32) (g : gc) : Bool := if s = 0 ∧ k.toInt < 15 then decide ((g.tells (gw k) : Int) + 1 ≤ (sm_room.getD (gw k) 0).toInt) else decide ((gc_st s k g).alls ≤ 4) && decide ((gc_st s k g).parts ≤ 3)
/-- SYNTAX (1), ROOM (2) or 0 of the TOKEN t -/
def gf (s k : Int32) (t : Nat) (g : gc) : Int32 := if fw s k = -1 ∨ ((k = 9 ∨ k = 13) ∧ g.tell = 12) then 1 else if k = 21 then 0 else if 500 ≤ t then 2 else if gc_ok s k g = true then 0 else 2
/-- the first fault of the grammar, from the TOKEN t on -/
def SY (K : Nat → Int32) : Nat → Nat → Int32 → gc → Option (Int32 × Nat)
  | 0, _, _, _ => none
  | m + 1, t, s, g => if gf s (K t) t g = 0 then (if K t = 21 then none else SY K m (t + 1) (fw s (K t)) (gc_st s (K t) g)) else some (gf s (K t) t g, t)
/-- the class's counts -/
def gr (s : Int32) (I : sm_I) (g : gc) : Prop := I 7 1 = g.tell ∧ (∀ j, j < 15 → (I 8 j).toInt = g.tells j ∧ g.tells j ≤ 20) ∧ (s ≠ 0 → (I 7 2).toInt = g.alls ∧ (I 7 3).toInt = g.parts ∧ g.alls ≤ 4 ∧ g.parts ≤ 3)
end
section
/-! the class's grammar, exact -/
def gfr (I J : sm_I) : Prop := ∀ a j, a ≠ 7 → a ≠ 8 → J a j = I a j
theorem ks_room13 {S : sm_C} {d q : Nat} {Φ : sm_Z → Prop} {J : sm_I} {L : sm_L} {R : sm_R} {A P : Nat} (hA : (J 7 2).toInt = A) (hP : (J 7 3).toInt = P) (h : Φ (some (.int (if (decide (A ≤ 4) && decide (P ≤ 3)) = true then 1 else 0)), (xLay, J, L, kT q R))) : sm_wp sm_P S d 242 13 [.ref 7] [] (xLay, J, L, kT q R) (0, 0) Φ := by
  have c4 : (4 : Int32).toInt = 4 := by decide
  have c3 : (3 : Int32).toInt = 3 := by decide
  refine t_X3_hasRoom_13 ⟨fun a => t_X3_hasRoom_17 ⟨Or.inl rfl, ?_⟩, fun a => ⟨fun b => t_X3_hasRoom_17 ⟨Or.inl rfl, ?_⟩, fun b => t_X3_hasRoom_17 ⟨Or.inr rfl, ?_⟩⟩⟩
  · rw [kl_lt, c4] at a
    rw [if_neg (by simp; omega)] at h; exact h
  · rw [kl_lt, c3] at b
    rw [if_neg (by simp; omega)] at h; exact h
  · have a := kl_nlt a
    have b := kl_nlt b
    rw [if_pos (by simp; omega)] at h; exact h
theorem ks_room {S : sm_C} {d q : Nat} {Φ : sm_Z → Prop} {I : sm_I} {L : sm_L} {R : sm_R} {x1 x2 : Int32} {g : gc} (h0 : 0 ≤ x2.toInt) (h15 : x1 = 0 → x2.toInt < 15) (hg : gr x1 I g) (h : ∀ J : sm_I, gfr I J → (gc_ok x1 x2 g = true → gr 1 J (gc_st x1 x2 g)) → Φ (some (.int (if gc_ok x1 x2 g = true then 1 else 0)), (xLay, J, L, kT q R))) : sm_wp sm_P S d 242 0 [.ref 7, .int x1, .int x2] [] (xLay, I, L, kT q R) (0, 0) Φ := by
  have c15 : (Int32.ofNat 15).toInt = 15 := by decide
  have one : (1 : Int32).toInt = 1 := by decide
  have n6 : (6 : Int32).toNatClampNeg = 6 := by decide
  have r15 : sm_room.length = 15 := by decide
  have rm : ∀ j, j < 15 → (sm_room.getD j 0).toInt ≤ 12 := by decide
  -- a tell begins
  have start : ∀ (w : Nat) (J : sm_I), x1 = 0 → w < 15 → w = gw x2 → J = sm_up (sm_up (sm_up (sm_up I 7 1 x2) 7 2 1) 7 3 1) 8 w (I 8 w + 1) → ((sm_room.getD w 0 < J 8 w → Φ (some (.int (0 : Int32)), (xLay, J, L, kT q R))) ∧ (¬ sm_room.getD w 0 < J 8 w → Φ (some (.int (1 : Int32)), (xLay, J, L, kT q R)))) := by
    intro w J e1 hw ew eJ
    have b := hg.2.1 w hw
    have s := ml_in1 (x := I 8 w) (by omega)
    have j8 : (J 8 w).toInt = (g.tells w : Int) + 1 := by rw [eJ, en_up_eq, s]; omega
    have fr : gfr I J := fun a j a1 a2 => by rw [eJ, en_up_ne _ _ _ _ (by omega), en_up_ne _ _ _ _ (by omega), en_up_ne _ _ _ _ (by omega), en_up_ne _ _ _ _ (by omega)]
    have ok : gc_ok x1 x2 g = decide ((g.tells w : Int) + 1 ≤ (sm_room.getD w 0).toInt) := by
      unfold gc_ok; rw [if_pos ⟨e1, h15 e1⟩, ew]
    have st : gc_st x1 x2 g = ⟨x2, 1, 1, fun j => if j = gw x2 then g.tells j + 1 else g.tells j⟩ := by
      unfold gc_st; rw [if_pos ⟨e1, h15 e1⟩]
    have k := h J fr (fun o => by
      rw [ok] at o
      have o := of_decide_eq_true o
      have := rm w hw
      rw [st]
      refine ⟨?_, fun j hj => ?_, fun _ => ⟨?_, ?_, (by decide : (1 : Nat) ≤ 4), (by decide : (1 : Nat) ≤ 3)⟩⟩
      · rw [eJ, en_up_ne _ _ _ _ (by omega), en_up_ne _ _ _ _ (by omega), en_up_ne _ _ _ _ (by omega), en_up_eq]
      · show (J 8 j).toInt = ((if j = gw x2 then g.tells j + 1 else g.tells j : Nat) : Int) ∧ (if j = gw x2 then g.tells j + 1 else g.tells j) ≤ 20
        by_cases c : j = gw x2
        · rw [if_pos c, c, ← ew, j8]; omega
        · rw [if_neg c]
          have bj := hg.2.1 j hj
          rw [eJ, en_up_ne _ _ _ _ (by omega), en_up_ne _ _ _ _ (by omega), en_up_ne _ _ _ _ (by omega), en_up_ne _ _ _ _ (by omega)]
          exact bj
      · rw [eJ, en_up_ne _ _ _ _ (by omega), en_up_ne _ _ _ _ (by omega), en_up_eq]; rfl
      · rw [eJ, en_up_ne _ _ _ _ (by omega), en_up_eq]; rfl)
    rw [ok] at k
    refine ⟨fun a => ?_, fun a => ?_⟩
    · rw [kl_lt] at a
      rw [if_neg (fun q => by have q := of_decide_eq_true q; omega)] at k; exact k
    · have a := kl_nlt a
      rw [if_pos (decide_eq_true (by omega))] at k; exact k
  -- within a tell
  have inside : ¬ x1 = 0 → ((x2 = (9 : Int32) → ∀ I3 : sm_I, I3 = (sm_up I 7 2 ((I 7 2) + (1 : Int32))) → sm_wp sm_P S d 242 13 [.ref 7] [] (xLay, (sm_up I3 7 3 (1 : Int32)), L, (kT q R)) (0, 0) Φ) ∧ (¬ x2 = (9 : Int32) → ((x2 = (13 : Int32) → ∀ I1 : sm_I, I1 = (sm_up I 7 3 ((I 7 3) + (1 : Int32))) → sm_wp sm_P S d 242 13 [.ref 7] [] (xLay, I1, L, (kT q R)) (0, 0) Φ) ∧ (¬ x2 = (13 : Int32) → sm_wp sm_P S d 242 13 [.ref 7] [] (xLay, I, L, (kT q R)) (0, 0) Φ)))) := by
    intro n0
    obtain ⟨a1, a2, a3, a4⟩ := hg.2.2 n0
    have ns : ¬ (x1 = 0 ∧ x2.toInt < 15) := fun q => n0 q.1
    have ok : gc_ok x1 x2 g = (decide ((gc_st x1 x2 g).alls ≤ 4) && decide ((gc_st x1 x2 g).parts ≤ 3)) := by
      unfold gc_ok; rw [if_neg ns]
    have fin : ∀ J : sm_I, gfr I J → J 7 1 = I 7 1 → (∀ j, J 8 j = I 8 j) → (gc_st x1 x2 g).tell = g.tell → (gc_st x1 x2 g).tells = g.tells → (J 7 2).toInt = (gc_st x1 x2 g).alls → (J 7 3).toInt = (gc_st x1 x2 g).parts → sm_wp sm_P S d 242 13 [.ref 7] [] (xLay, J, L, (kT q R)) (0, 0) Φ := by
      intro J fr e1 e8 t1 t2 eA eP
      refine ks_room13 eA eP ?_
      rw [← ok]
      refine h J fr (fun o => ⟨by rw [e1, hg.1, t1], fun j hj => by rw [e8, t2]; exact hg.2.1 j hj, fun _ => ⟨eA, eP, ?_, ?_⟩⟩)
      · rw [ok] at o
        exact of_decide_eq_true (Bool.and_eq_true_iff.mp o).1
      · rw [ok] at o
        exact of_decide_eq_true (Bool.and_eq_true_iff.mp o).2
    refine ⟨fun c I3 e3 => ?_, fun c => ⟨fun c2 I3 e3 => ?_, fun c2 => ?_⟩⟩
    · have st : gc_st x1 x2 g = ⟨g.tell, g.alls + 1, 1, g.tells⟩ := by unfold gc_st; rw [if_neg ns, if_pos c]
      have s := ml_in1 (x := I 7 2) (by omega)
      refine fin _ (fun a j q1 q2 => ?_) ?_ (fun j => ?_) (by rw [st]) (by rw [st]) ?_ ?_
      · rw [en_up_ne _ _ _ _ (by omega), e3, en_up_ne _ _ _ _ (by omega)]
      · rw [en_up_ne _ _ _ _ (by omega), e3, en_up_ne _ _ _ _ (by omega)]
      · rw [en_up_ne _ _ _ _ (by omega), e3, en_up_ne _ _ _ _ (by omega)]
      · rw [en_up_ne _ _ _ _ (by omega), e3, en_up_eq, st, s]; show _ = ((g.alls + 1 : Nat) : Int); omega
      · rw [en_up_eq, st]; rfl
    · have st : gc_st x1 x2 g = ⟨g.tell, g.alls, g.parts + 1, g.tells⟩ := by unfold gc_st; rw [if_neg ns, if_neg c, if_pos c2]
      have s := ml_in1 (x := I 7 3) (by omega)
      refine fin _ (fun a j q1 q2 => ?_) ?_ (fun j => ?_) (by rw [st]) (by rw [st]) ?_ ?_
      · rw [e3, en_up_ne _ _ _ _ (by omega)]
      · rw [e3, en_up_ne _ _ _ _ (by omega)]
      · rw [e3, en_up_ne _ _ _ _ (by omega)]
      · rw [e3, en_up_ne _ _ _ _ (by omega), st]; exact a1
      · rw [e3, en_up_eq, st, s]; show _ = ((g.parts + 1 : Nat) : Int); omega
    · have st : gc_st x1 x2 g = g := by unfold gc_st; rw [if_neg ns, if_neg c, if_neg c2]
      exact fin I (fun _ _ _ _ => rfl) rfl (fun _ => rfl) (by rw [st]) (by rw [st]) (by rw [st]; exact a1) (by rw [st]; exact a2)
  refine t_X3_hasRoom_0 ⟨fun e1 => ⟨fun a => ?_, fun a => ?_⟩, fun n0 => inside n0⟩
  · have := kl_le.mp a
    have := h15 e1
    omega
  · have k15 := h15 e1
    have nn := kl_nat h0
    refine ⟨fun e8 I13 e13 => ?_, fun n8 I9 e9 => ?_⟩
    · have v6 : vp_in (6 : Int32) 15 := by rw [show (6 : Int32) = 6 from rfl]; exact kl_in (by decide) (by decide)
      refine ⟨v6, fun n14 e14 => ⟨v6, fun I15 e15 => ⟨v6, v6, ?_⟩⟩⟩
      rw [n6] at e14 e15 ⊢
      refine start 6 I15 e1 (by decide) (by unfold gw; rw [if_pos e8]) ?_
      rw [e15, e14, e13, en_up_ne _ _ _ _ (by omega), en_up_ne _ _ _ _ (by omega), en_up_ne _ _ _ _ (by omega)]
    · have v : vp_in x2 15 := kl_in h0 (by omega)
      refine ⟨v, fun n10 e10 => ⟨v, fun I11 e11 => ⟨v, v, ?_⟩⟩⟩
      refine start x2.toNatClampNeg I11 e1 (by omega) (by unfold gw; rw [if_neg n8]) ?_
      rw [e11, e10, e9, en_up_ne _ _ _ _ (by omega), en_up_ne _ _ _ _ (by omega), en_up_ne _ _ _ _ (by omega)]
end
section
/-! the class's syntax fault is the grammar's first one -/
theorem fwl_mem : ∀ (n : Nat) (l : List Int32) (s k : Int32), l.length ≤ 3 * n → fwl l s k ≠ -1 → ∃ i, i < n ∧ l.getD (3 * i) 0 = s ∧ l.getD (3 * i + 1) 0 = k ∧ fwl l s k = l.getD (3 * i + 2) 0 := by
  intro n
  induction n with
  | zero =>
    intro l s k hl h
    have : l = [] := List.eq_nil_of_length_eq_zero (by omega)
    subst this
    exact absurd rfl h
  | succ n ih =>
    intro l s k hl h
    match l, hl, h with
    | [], _, h => exact absurd rfl h
    | [_], _, h => exact absurd rfl h
    | [_, _], _, h => exact absurd rfl h
    | a :: b :: c :: r, hl, h =>
      have hr : r.length ≤ 3 * n := by simp at hl; omega
      have un : fwl (a :: b :: c :: r) s k = if a = s then (if b = k then c else fwl r s k) else fwl r s k := rfl
      rw [un] at h ⊢
      have rc : fwl r s k ≠ -1 → ∃ i, i < n + 1 ∧ (a :: b :: c :: r).getD (3 * i) 0 = s ∧ (a :: b :: c :: r).getD (3 * i + 1) 0 = k ∧ fwl r s k = (a :: b :: c :: r).getD (3 * i + 2) 0 := fun g => by
        obtain ⟨i, i1, i2, i3, i4⟩ := ih r s k hr g
        refine ⟨i + 1, by omega, ?_, ?_, ?_⟩
        · rw [show 3 * (i + 1) = 3 * i + 1 + 1 + 1 by omega]; exact i2
        · rw [show 3 * (i + 1) + 1 = 3 * i + 1 + 1 + 1 + 1 by omega]; exact i3
        · rw [show 3 * (i + 1) + 2 = 3 * i + 2 + 1 + 1 + 1 by omega]; exact i4
      by_cases c1 : a = s
      · rw [if_pos c1] at h ⊢
        by_cases c2 : b = k
        · rw [if_pos c2] at h ⊢
          exact ⟨0, by omega, c1, c2, rfl⟩
        · rw [if_neg c2] at h ⊢; exact rc h
      · rw [if_neg c1] at h ⊢; exact rc h
theorem fw_mem {s k : Int32} (h : fw s k ≠ -1) : ∃ i, i < 46 ∧ sm_steps.getD (3 * i) 0 = s ∧ sm_steps.getD (3 * i + 1) 0 = k ∧ fw s k = sm_steps.getD (3 * i + 2) 0 := fwl_mem 46 sm_steps s k (by rw [st_len]; decide) h
theorem st_0 : ∀ i, i < 46 → sm_steps.getD (3 * i) 0 = 0 → sm_steps.getD (3 * i + 1) 0 = 21 ∨ (sm_steps.getD (3 * i + 1) 0).toInt < 15 := by decide +kernel
theorem st_k : ∀ i, i < 46 → 0 ≤ (sm_steps.getD (3 * i + 1) 0).toInt := by decide +kernel
theorem fw_0 {k : Int32} (h : fw 0 k ≠ -1) (h21 : k ≠ 21) : k.toInt < 15 := by
  obtain ⟨i, i1, i2, i3, -⟩ := fw_mem h
  rcases st_0 i i1 i2 with q | q
  · exact absurd (i3.symm.trans q) h21
  · rw [i3] at q; exact q
theorem fw_k {s k : Int32} (h : fw s k ≠ -1) : 0 ≤ k.toInt := by
  obtain ⟨i, i1, -, i3, -⟩ := fw_mem h
  rw [← i3]; exact st_k i i1
theorem ks_fault {S : sm_C} {d q : Nat} {Φ : sm_Z → Prop} {I : sm_I} {L : sm_L} {R : sm_R} {x1 x2 x3 : Int32} {t : Nat} {g : gc} (ht : x3.toInt = t) (hg : gr x1 I g) (h : ∀ J : sm_I, gfr I J → (gf x1 x2 t g = 0 → x2 ≠ 21 → gr 1 J (gc_st x1 x2 g)) → Φ (some (.int (gf x1 x2 t g)), (xLay, J, L, kT q R))) : sm_wp sm_P S (d + 1) 240 0 [.ref 7, .int x1, .int x2, .int x3] [] (xLay, I, L, kT q R) (0, 0) Φ := by
  have c500 : (500 : Int32).toInt = 500 := by decide
  have rf : gfr I I := fun _ _ _ _ => rfl
  have last : ¬ (fw x1 x2 = -1 ∨ ((x2 = 9 ∨ x2 = 13) ∧ g.tell = 12)) → ((x2 = (21 : Int32) → Φ (some (.int (0 : Int32)), (xLay, I, L, (kT q R)))) ∧ (¬ x2 = (21 : Int32) → (((500 : Int32) ≤ x3 → Φ (some (.int (2 : Int32)), (xLay, I, L, (kT q R)))) ∧ (¬ (500 : Int32) ≤ x3 → sm_wp sm_P S d 242 0 [.ref 7, .int x1, .int x2] [] (xLay, I, L, (kT q R)) (0, 0) (fun z => ∃ (r6 : Int32) (I4 : sm_I) (L5 : sm_L), z = (some (.int r6), (xLay, I4, L5, (kT q R))) ∧ ((r6 = 0 → Φ (some (.int (2 : Int32)), (xLay, I4, L5, (kT q R)))) ∧ (¬ r6 = 0 → Φ (some (.int (0 : Int32)), (xLay, I4, L5, (kT q R)))))))))) := by
    intro n1
    have e0 : gf x1 x2 t g = if x2 = 21 then 0 else if 500 ≤ t then 2 else if gc_ok x1 x2 g = true then 0 else 2 := by unfold gf; rw [if_neg n1]
    refine ⟨fun c => ?_, fun c => ⟨fun c2 => ?_, fun c2 => ?_⟩⟩
    · rw [if_pos c] at e0
      have := h I rf (fun _ z => absurd c z)
      rw [e0] at this; exact this
    · have c2 := kl_le.mp c2
      rw [if_neg c, if_pos (by omega)] at e0
      have := h I rf (fun z => by rw [e0] at z; exact absurd z (by decide))
      rw [e0] at this; exact this
    · have c2 := kl_nle c2
      rw [if_neg c, if_neg (by omega)] at e0
      have nf : fw x1 x2 ≠ -1 := fun z => n1 (Or.inl z)
      refine ks_room (fw_k nf) (fun e1 => fw_0 (by rw [← e1]; exact nf) c) hg (fun J fr k => ⟨_, J, L, rfl, fun z => ?_, fun z => ?_⟩)
      · have z := (tk_if _).mp z
        rw [z] at e0
        have := h J fr (fun w => by rw [e0] at w; exact absurd w (by decide))
        rw [e0] at this; exact this
      · have z := (tk_if1 _).mp z
        rw [z] at e0
        have := h J fr (fun _ _ => k z)
        rw [e0] at this; exact this
  have bad : (fw x1 x2 = -1 ∨ ((x2 = 9 ∨ x2 = 13) ∧ g.tell = 12)) → Φ (some (.int (1 : Int32)), (xLay, I, L, (kT q R))) := fun b => by
    have e0 : gf x1 x2 t g = 1 := by unfold gf; rw [if_pos b]
    have := h I rf (fun z => by rw [e0] at z; exact absurd z (by decide))
    rw [e0] at this; exact this
  have joins : ∀ s0 : Int32, (¬ s0 = 0 ↔ (x2 = 9 ∨ x2 = 13)) → sm_wp sm_P S (d + 1) 240 4 [.ref 7, .int x1, .int x2, .int x3] [.int s0] (xLay, I, L, (kT q R)) (0, 0) Φ := by
    intro s0 hs
    refine t_X3_faultOf_4 (ks_follow ⟨_, I, L, rfl, fun a => bad (Or.inl a), fun a => ⟨fun b => last (fun z => ?_), fun b => ⟨fun c => bad (Or.inr ⟨hs.mp b, by rw [← hg.1]; exact c⟩), fun c => last (fun z => ?_)⟩⟩⟩)
    · rcases z with z | z
      · exact a z
      · exact hs.mpr z.1 b
    · rcases z with z | z
      · exact a z
      · exact c (by rw [hg.1]; exact z.2)
  refine t_X3_faultOf_0 ⟨fun a => joins 1 ⟨fun _ => Or.inl a, fun _ => by decide⟩, fun a => ⟨fun b => joins 1 ⟨fun _ => Or.inr b, fun _ => by decide⟩, fun b => joins 0 ⟨fun z => absurd rfl z, fun z => by rcases z with z | z; exact absurd z a; exact absurd z b⟩⟩⟩
/-- the kinds of the TOKENS, the end's behind the last -/
def tk_K (b : Nat → Int32) (n i : Nat) : Int32 := if tk_at b n i < n then tk_kd b n (tk_at b n i) else 21
theorem ks_syn1 {S : sm_C} {d q : Nat} {Φ : sm_Z → Prop} {I0 : sm_I} {L : sm_L} {R : sm_R} {K : Nat → Int32} {c : Nat} {R0 : Option (Int32 × Nat)} (hc : (I0 3 3).toInt = c) (c5 : c ≤ 501) (hK : ∀ i, i ≤ c → i ≤ 500 → I0 4 i = K i) (hE : c ≤ 500 → K c = 21) (hN : ∀ i, i < c → K i ≠ 21) (h : ∀ (r : Int32) (J : sm_I), (∀ a j, a ≠ 7 → a ≠ 8 → ¬ (a = 2 ∧ j = 11) → J a j = I0 a j) → (R0 = none → r = 0) → (∀ f j, R0 = some (f, j) → r = f ∧ f ≠ 0 ∧ J 2 11 = I0 5 j ∧ j ≤ 500) → Φ (some (.int r), (xLay, J, L, kT q R))) : ∀ (m t : Nat) (I : sm_I) (x1 x2 : Int32) (g : gc), x2.toInt = t → t + m = 501 → t ≤ 500 → t ≤ c → gr x1 I g → gfr I0 I → SY K m t x1 g = R0 → sm_wp sm_P S (d + 2) 277 1 [.ref 2, .int x1, .int x2] [] (xLay, I, L, kT q R) (0, 0) Φ := by
  intro m
  induction m with
  | zero => intro t I x1 x2 g hx hm t50 tc hg fr hR; omega
  | succ m ih =>
    intro t I x1 x2 g hx hm t50 tc hg fr hR
    have nt := tk_nat hx
    have e33 : I 3 3 = I0 3 3 := fr 3 3 (by decide) (by decide)
    have s := ml_in1 (x := x2) (by omega)
    have v : vp_in x2 502 := kl_in (by omega) (by omega)
    have kt : I 4 x2.toNatClampNeg = K t := by rw [nt, fr 4 t (by decide) (by decide)]; exact hK t tc (by omega)
    have hR : (if gf x1 (K t) t g = 0 then (if K t = 21 then none else SY K m (t + 1) (fw x1 (K t)) (gc_st x1 (K t) g)) else some (gf x1 (K t) t g, t)) = R0 := hR
    refine t_X7_syntaxFault_1 ⟨fun a => ?_, fun a => ⟨v, ?_⟩⟩
    · rw [kl_lt, e33] at a; omega
    · rw [kt]
      refine ks_fault hx hg (fun J fJ k => ⟨_, J, L, rfl, fun z => ⟨v, ?_⟩, fun z => ⟨v, fun I8 e8 => ?_⟩⟩)
      · rw [if_pos z] at hR
        have kJ : J 4 x2.toNatClampNeg = K t := by rw [fJ 4 _ (by decide) (by decide)]; exact kt
        rw [kJ]
        refine ks_follow ⟨_, J, L, rfl, ?_⟩
        have frJ : gfr I0 J := fun a j a1 a2 => (fJ a j a1 a2).trans (fr a j a1 a2)
        by_cases e : K t = 21
        · rw [if_pos e] at hR
          have tc2 : t = c := by
            rcases Nat.lt_or_ge t c with q | q
            · exact absurd e (hN t q)
            · omega
          refine t_X7_syntaxFault_1 ⟨fun _ => h 0 J (fun a j a1 a2 _ => frJ a j a1 a2) (fun _ => rfl) (fun f j q => by rw [← hR] at q; cases q), fun a => ?_⟩
          have a := kl_nlt a
          rw [fJ 3 3 (by decide) (by decide), e33] at a
          omega
        · rw [if_neg e] at hR
          have gk := k z e
          have t5 : t < 500 := by
            rcases Nat.lt_or_ge t 500 with q | q
            · exact q
            · exfalso
              unfold gf at z
              by_cases b : fw x1 (K t) = -1 ∨ ((K t = 9 ∨ K t = 13) ∧ g.tell = 12)
              · rw [if_pos b] at z; exact absurd z (by decide)
              · rw [if_neg b, if_neg e, if_pos q] at z; exact absurd z (by decide)
          have tc2 : t < c := by
            rcases Nat.lt_or_ge t c with q | q
            · exact q
            · have : t = c := by omega
              subst this
              exact absurd (hE (by omega)) e
          exact ih (t + 1) J _ _ _ (by omega) (by omega) (by omega) (by omega) ⟨gk.1, gk.2.1, fun _ => gk.2.2 (by decide)⟩ frJ hR
      · rw [if_neg z] at hR
        refine h _ I8 (fun a j a1 a2 a3 => ?_) (fun q => by rw [← hR] at q; cases q) (fun f j q => ?_)
        · rw [e8, en_up_ne _ _ _ _ (by omega), fJ a j a1 a2]; exact fr a j a1 a2
        · rw [← hR] at q
          have q := Option.some.inj q
          have q1 : gf x1 (K t) t g = f := congrArg Prod.fst q
          have q2 : t = j := congrArg Prod.snd q
          subst q1
          subst q2
          refine ⟨rfl, z, ?_, by omega⟩
          rw [e8, en_up_eq, nt, fJ 5 t (by decide) (by decide)]
          exact fr 5 t (by decide) (by decide)
end
section
/-! the counts are cleared, and the whole syntax fault of the class -/
theorem t8_J7_fill_53178_0 {S : sm_C} {d : Nat} {Φ : sm_Z → Prop} {I : sm_I} {L : sm_L} {R : sm_R} {q : Nat} {x1 : Int32} (h : sm_wp sm_P S d 306 1 [.ref 8, .int x1, .int (0 : Int32), .int (Int32.ofNat 15)] [] (xLay, I, L, (kT q R)) (0, 0) Φ) : sm_wp sm_P S d 306 0 [.ref 8, .int x1] [] (xLay, I, L, (kT q R)) (0, 0) Φ := sm_wp_step (h)
theorem t8_J7_fill_53178_1 {S : sm_C} {d : Nat} {Φ : sm_Z → Prop} {I : sm_I} {L : sm_L} {R : sm_R} {q : Nat} {x1 : Int32} {x2 : Int32} {x3 : Int32} (h : ((x3 ≤ x2 → Φ (none, (xLay, I, L, (kT q R)))) ∧ (¬ x3 ≤ x2 → (vp_in x2 15) ∧ ∀ I1 : sm_I, I1 = (sm_up I 8 x2.toNatClampNeg x1) → sm_wp sm_P S d 306 1 [.ref 8, .int x1, .int (x2 + (1 : Int32)), .int x3] [] (xLay, I1, L, (kT q R)) (0, 0) Φ))) : sm_wp sm_P S d 306 1 [.ref 8, .int x1, .int x2, .int x3] [] (xLay, I, L, (kT q R)) (0, 0) Φ := sm_wp_step (⟨fun q2 => ((h).1 q2), fun q2 => ⟨(((h).2 q2)).1, ((((h).2 q2)).2 _ rfl)⟩⟩)
theorem ks_fill8 {S : sm_C} {d q : Nat} {Φ : sm_Z → Prop} {I0 : sm_I} {L : sm_L} {R : sm_R} {x1 : Int32} (h : ∀ J : sm_I, (∀ j, j < 15 → J 8 j = x1) → (∀ a j, a ≠ 8 → J a j = I0 a j) → Φ (none, (xLay, J, L, kT q R))) : ∀ (m i : Nat) (I : sm_I) (x2 : Int32), x2.toInt = i → i + m = 15 → (∀ j, j < i → I 8 j = x1) → (∀ a j, a ≠ 8 → I a j = I0 a j) → sm_wp sm_P S d 306 1 [.ref 8, .int x1, .int x2, .int (Int32.ofNat 15)] [] (xLay, I, L, kT q R) (0, 0) Φ := by
  have c15 : (Int32.ofNat 15).toInt = 15 := by decide
  intro m
  induction m with
  | zero =>
    intro i I x2 hx hm h1 h2
    refine t8_J7_fill_53178_1 ⟨fun _ => h I (fun j hj => h1 j (by omega)) h2, fun a => ?_⟩
    have := kl_nle a
    omega
  | succ m ih =>
    intro i I x2 hx hm h1 h2
    have nn := tk_nat hx
    have s := ml_in1 (x := x2) (by omega)
    refine t8_J7_fill_53178_1 ⟨fun a => ?_, fun _ => ⟨kl_in (by omega) (by omega), fun I1 e1 => ?_⟩⟩
    · have := kl_le.mp a
      omega
    · rw [nn] at e1
      refine ih (i + 1) I1 _ (by omega) (by omega) (fun j hj => ?_) (fun a j ha => ?_)
      · by_cases c : j = i
        · subst c; rw [e1, en_up_eq]
        · rw [e1, en_up_ne _ _ _ _ (by omega)]; exact h1 j (by omega)
      · rw [e1, en_up_ne _ _ _ _ (by omega)]; exact h2 a j ha
/-- the class's syntax fault: the grammar's first one -/
theorem ks_syn {S : sm_C} {d q : Nat} {Φ : sm_Z → Prop} {I : sm_I} {L : sm_L} {R : sm_R} {K : Nat → Int32} {c : Nat} (hc : (I 3 3).toInt = c) (c5 : c ≤ 501) (hK : ∀ i, i ≤ c → i ≤ 500 → I 4 i = K i) (hE : c ≤ 500 → K c = 21) (hN : ∀ i, i < c → K i ≠ 21) (h : ∀ (r : Int32) (J : sm_I), (∀ a j, a ≠ 7 → a ≠ 8 → ¬ (a = 2 ∧ j = 11) → J a j = I a j) → (SY K 501 0 0 gc0 = none → r = 0) → (∀ f j, SY K 501 0 0 gc0 = some (f, j) → r = f ∧ f ≠ 0 ∧ J 2 11 = I 5 j ∧ j ≤ 500) → Φ (some (.int r), (xLay, J, L, kT q R))) : sm_wp sm_P S (d + 2) 277 0 [.ref 2] [] (xLay, I, L, kT q R) (0, 0) Φ := by
  refine t_X7_syntaxFault_0 (t_X3_clear_0 (t8_J7_fill_53178_0 (ks_fill8 (I0 := I) (fun J h1 h2 => ⟨J, L, rfl, _, L, rfl, ?_⟩) 15 0 I 0 (by decide) (by decide) (fun j hj => absurd hj (Nat.not_lt_zero j)) (fun _ _ _ => rfl))))
  have fr : gfr I (sm_up J 7 1 (0 : Int32)) := fun a j a1 a2 => by rw [en_up_ne _ _ _ _ (by omega)]; exact h2 a j a2
  refine ks_syn1 (I0 := I) (K := K) (c := c) hc c5 hK hE hN h 501 0 _ 0 0 gc0 (by decide) (by decide) (by decide) (by omega) ⟨?_, fun j hj => ?_, fun z => absurd rfl z⟩ fr rfl
  · rw [en_up_eq]; rfl
  · rw [en_up_ne _ _ _ _ (by omega), h1 j hj]
    exact ⟨rfl, Nat.zero_le _⟩
/-- the rows that the scanner leaves are the stream's kinds -/
theorem tk_rK {b : Nat → Int32} {n c : Nat} {J : sm_I} {K : sm_L} (c5 : c ≤ 501) (hr : tk_rows b n c J K) (h21 : J 4 c = 21) (he : c ≤ 500 → tk_at b n c = n) : (∀ i, i ≤ c → i ≤ 500 → J 4 i = tk_K b n i) ∧ (c ≤ 500 → tk_K b n c = 21) := by
  have e : c ≤ 500 → tk_K b n c = 21 := fun q => by
    unfold tk_K; rw [he q, if_neg (by omega)]
  refine ⟨fun i hi h5 => ?_, e⟩
  rcases Nat.lt_or_ge i c with q | q
  · have := hr i q
    unfold tk_K; rw [if_pos this.1]; exact this.2.1
  · have : i = c := by omega
    subst this
    rw [h21, e (by omega)]
end
section
/-! two conditions of one run hold together -/
theorem sm_wp_and {P : Nat → sm_M} {S : sm_C} {d f b : Nat} {vs st : List Value} {w : sm_W} {cs : Nat × Nat} {Φ Ψ : sm_Z → Prop} (h : sm_wp P S d f b vs st w cs Φ) (g : sm_wp P S d f b vs st w cs Ψ) : sm_wp P S d f b vs st w cs (fun z => Φ z ∧ Ψ z) := by
  obtain ⟨n, z, h1, h2⟩ := h
  obtain ⟨m, y, g1, g2⟩ := g
  have a := sm_run_mono (Nat.le_max_left n m) h1
  have b := sm_run_mono (Nat.le_max_right n m) g1
  rw [a] at b
  have e : z = y := Option.some.inj b
  subst e
  exact ⟨n, z, h1, h2, g2⟩
/-- a TOKEN's kind is none of the end's -/
theorem tk_wd_r {y : Int64} : ∀ m i : Nat, i + m = 15 → 0 ≤ (tk_wd y m i).toInt ∧ (tk_wd y m i).toInt ≤ 15 := by
  intro m
  induction m with
  | zero => intro i _; exact (by decide : 0 ≤ (15 : Int32).toInt ∧ (15 : Int32).toInt ≤ 15)
  | succ m ih =>
    intro i h
    show 0 ≤ (if sm_words.getD i 0 = y then Int32.ofNat i else tk_wd y m (i + 1)).toInt ∧ (if sm_words.getD i 0 = y then Int32.ofNat i else tk_wd y m (i + 1)).toInt ≤ 15
    by_cases c : sm_words.getD i 0 = y
    · rw [if_pos c, Int32.toInt_ofNat_of_lt (by omega)]; omega
    · rw [if_neg c]; exact ih (i + 1) (by omega)
theorem tk_kd_r {b : Nat → Int32} {n p : Nat} : 0 ≤ (tk_kd b n p).toInt ∧ (tk_kd b n p).toInt ≤ 20 := by
  have c20 : 0 ≤ (20 : Int32).toInt ∧ (20 : Int32).toInt ≤ 20 := by decide
  have c16 : 0 ≤ (16 : Int32).toInt ∧ (16 : Int32).toInt ≤ 20 := by decide
  unfold tk_kd
  by_cases c : tk_le (b p) = true
  · rw [if_pos c]
    by_cases c8 : tk_end tk_le b n p - p ≤ 8
    · rw [if_pos c8]
      have := tk_wd_r (y := tk_cd tk_f8 b p (tk_end tk_le b n p - p)) 15 0 (by decide)
      omega
    · rw [if_neg c8]; exact c20
  · rw [if_neg c]
    by_cases c2 : tk_di (b p) = true
    · rw [if_pos c2]
      by_cases c4 : tk_end tk_di b n p - p ≤ 4
      · rw [if_pos c4]; exact c16
      · rw [if_neg c4]; exact c20
    · rw [if_neg c2]
      unfold tk_sg
      by_cases e1 : (b p).toInt = 45
      · rw [if_pos e1]; decide
      · rw [if_neg e1]
        by_cases e2 : (b p).toInt = 58
        · rw [if_pos e2]; decide
        · rw [if_neg e2]
          by_cases e3 : (b p).toInt = 59
          · rw [if_pos e3]; decide
          · rw [if_neg e3]; exact c20
theorem tk_K_21 {b : Nat → Int32} {n i : Nat} : tk_K b n i = 21 ↔ n ≤ tk_at b n i := by
  unfold tk_K
  by_cases c : tk_at b n i < n
  · rw [if_pos c]
    refine ⟨fun e => ?_, fun e => absurd c (by omega)⟩
    have := tk_kd_r (b := b) (n := n) (p := tk_at b n i)
    rw [e] at this
    exact absurd this.2 (by decide)
  · rw [if_neg c]
    exact ⟨fun _ => by omega, fun _ => rfl⟩
/-- the reference's kinds are those of the stream -/
theorem mt_K {b : Nat → Int32} {n c : Nat} {J : sm_I} {K : sm_L} (hr : mt_rows b n c J K) (hf : mt_fin b n c J) : ∀ i, i ≤ c → i ≤ 500 → J 110 i = kd_m.getD (tk_K b n i).toNatClampNeg 0 ∧ (J 111 i).toInt = tk_at b n i := by
  intro i hi h5
  rcases Nat.lt_or_ge i c with q | q
  · have r := hr i q
    unfold tk_K
    rw [if_pos r.1, ← kd_eq]
    exact ⟨r.2.1, r.2.2.1⟩
  · have e : i = c := by omega
    subst e
    rcases hf with f | f
    · omega
    · rw [tk_K_21.mpr (by omega), f.2.2.2.1, f.2.2.2.2, f.2.2.1]
      exact ⟨by decide, rfl⟩
end
section
/-! conditions of the class's reader, into = 12 (wip/pe/symq.py) -/
def kQ12l : List (Nat × Nat × Nat) := [(2, 0, 3), (2, 1, 7), (2, 2, 9), (2, 3, 10), (2, 4, 11), (2, 6, 12), (3, 0, 4), (3, 1, 5), (3, 2, 6), (7, 0, 8), (12, 7, 13), (12, 8, 14), (12, 9, 15), (12, 10, 16), (12, 11, 21), (12, 12, 22), (12, 13, 23), (12, 14, 24), (12, 15, 29), (12, 16, 34), (12, 17, 35), (12, 18, 36), (16, 0, 17), (16, 1, 18), (16, 2, 19), (16, 3, 20), (24, 0, 25), (24, 1, 26), (24, 2, 27), (24, 3, 28), (29, 0, 30), (29, 1, 31), (29, 2, 32), (29, 3, 33)]
def kQ12 (R : sm_R) : sm_R := fun x j => match kQ12l.find? (fun t => Nat.beq t.1 x && Nat.beq t.2.1 j) with
  | some t => some t.2.2
  | none => R x j
theorem s12_X7_find_0 {S : sm_C} {d : Nat} {Φ : sm_Z → Prop} {I : sm_I} {L : sm_L} {R : sm_R} {y1 : Int64} {x3 : Int32} (h : sm_wp sm_P S d 272 1 [.ref 2, .long y1, .int x3, .int (0 : Int32)] [] (xLay, I, L, (kQ12 R)) (0, 0) Φ) : sm_wp sm_P S d 272 0 [.ref 2, .long y1, .int x3] [] (xLay, I, L, (kQ12 R)) (0, 0) Φ := sm_wp_step (h)
theorem s12_X7_find_1 {S : sm_C} {d : Nat} {Φ : sm_Z → Prop} {I : sm_I} {L : sm_L} {R : sm_R} {y1 : Int64} {x3 : Int32} {x4 : Int32} (h : (((I 2 5) ≤ x4 → Φ (some (.int (-1 : Int32)), (xLay, I, L, (kQ12 R)))) ∧ (¬ (I 2 5) ≤ x4 → (vp_in x4 35) ∧ (((lg_cmp (L 9 x4.toNatClampNeg) y1) = 0 → (vp_in x4 35) ∧ (((I 10 x4.toNatClampNeg) = x3 → (vp_in x4 35) ∧ Φ (some (.int (I 11 x4.toNatClampNeg)), (xLay, I, L, (kQ12 R)))) ∧ (¬ (I 10 x4.toNatClampNeg) = x3 → sm_wp sm_P S d 272 1 [.ref 2, .long y1, .int x3, .int (x4 + (1 : Int32))] [] (xLay, I, L, (kQ12 R)) (0, 0) Φ))) ∧ (¬ (lg_cmp (L 9 x4.toNatClampNeg) y1) = 0 → sm_wp sm_P S d 272 1 [.ref 2, .long y1, .int x3, .int (x4 + (1 : Int32))] [] (xLay, I, L, (kQ12 R)) (0, 0) Φ))))) : sm_wp sm_P S d 272 1 [.ref 2, .long y1, .int x3, .int x4] [] (xLay, I, L, (kQ12 R)) (0, 0) Φ := sm_wp_step (⟨fun q3 => ((h).1 q3), fun q3 => ⟨(((h).2 q3)).1, ⟨fun q2 => ⟨((((((h).2 q3)).2).1 q2)).1, ⟨fun q1 => ⟨(((((((((h).2 q3)).2).1 q2)).2).1 q1)).1, (((((((((h).2 q3)).2).1 q2)).2).1 q1)).2⟩, fun q1 => ((((((((h).2 q3)).2).1 q2)).2).2 q1)⟩⟩, fun q2 => (((((h).2 q3)).2).2 q2)⟩⟩⟩)
theorem s12_X7_takeNew_0 {S : sm_C} {d : Nat} {Φ : sm_Z → Prop} {I : sm_I} {L : sm_L} {R : sm_R} {y1 : Int64} (h : sm_wp sm_P S (d + 1) 280 1 [.ref 2, .long y1, .int (0 : Int32)] [] (xLay, I, L, (kQ12 R)) (0, 0) Φ) : sm_wp sm_P S (d + 1) 280 0 [.ref 2, .long y1] [] (xLay, I, L, (kQ12 R)) (0, 0) Φ := sm_wp_step (h)
theorem s12_X7_takeNew_1 {S : sm_C} {d : Nat} {Φ : sm_Z → Prop} {I : sm_I} {L : sm_L} {R : sm_R} {y1 : Int64} {x3 : Int32} (h : (((I 2 5) ≤ x3 → (((I 2 7) = (8 : Int32) → (((35 : Int32) ≤ (I 2 5) → Φ (some (.int (0 : Int32)), (xLay, I, L, (kQ12 R)))) ∧ (¬ (35 : Int32) ≤ (I 2 5) → (vp_in (I 2 5) 35) ∧ ∀ L10 : sm_L, L10 = (sm_up L 9 (I 2 5).toNatClampNeg y1) → (vp_in (I 2 5) 35) ∧ ∀ I11 : sm_I, I11 = (sm_up I 10 (I 2 5).toNatClampNeg (6 : Int32)) → sm_wp sm_P S d 275 0 [.ref 2, .int (6 : Int32)] [] (xLay, I11, L10, (kQ12 R)) (0, 0) (fun z => ∃ (r14 : Int32) (I12 : sm_I) (L13 : sm_L), z = (some (.int r14), (xLay, I12, L13, (kQ12 R))) ∧ (vp_in (I11 2 5) 35) ∧ ∀ I15 : sm_I, I15 = (sm_up I12 11 (I11 2 5).toNatClampNeg r14) → ∀ I16 : sm_I, I16 = (sm_up I15 2 5 ((I15 2 5) + (1 : Int32))) → Φ (some (.int (0 : Int32)), (xLay, I16, L13, (kQ12 R))))))) ∧ (¬ (I 2 7) = (8 : Int32) → (((35 : Int32) ≤ (I 2 5) → Φ (some (.int (0 : Int32)), (xLay, I, L, (kQ12 R)))) ∧ (¬ (35 : Int32) ≤ (I 2 5) → (vp_in (I 2 5) 35) ∧ ∀ L1 : sm_L, L1 = (sm_up L 9 (I 2 5).toNatClampNeg y1) → (vp_in (I 2 5) 35) ∧ ∀ I2 : sm_I, I2 = (sm_up I 10 (I 2 5).toNatClampNeg (I 2 7)) → sm_wp sm_P S d 275 0 [.ref 2, .int (I 2 7)] [] (xLay, I2, L1, (kQ12 R)) (0, 0) (fun z => ∃ (r5 : Int32) (I3 : sm_I) (L4 : sm_L), z = (some (.int r5), (xLay, I3, L4, (kQ12 R))) ∧ (vp_in (I2 2 5) 35) ∧ ∀ I6 : sm_I, I6 = (sm_up I3 11 (I2 2 5).toNatClampNeg r5) → ∀ I7 : sm_I, I7 = (sm_up I6 2 5 ((I6 2 5) + (1 : Int32))) → Φ (some (.int (0 : Int32)), (xLay, I7, L4, (kQ12 R))))))))) ∧ (¬ (I 2 5) ≤ x3 → (vp_in x3 35) ∧ (((lg_cmp (L 9 x3.toNatClampNeg) y1) = 0 → Φ (some (.int (3 : Int32)), (xLay, I, L, (kQ12 R)))) ∧ (¬ (lg_cmp (L 9 x3.toNatClampNeg) y1) = 0 → sm_wp sm_P S (d + 1) 280 1 [.ref 2, .long y1, .int (x3 + (1 : Int32))] [] (xLay, I, L, (kQ12 R)) (0, 0) Φ))))) : sm_wp sm_P S (d + 1) 280 1 [.ref 2, .long y1, .int x3] [] (xLay, I, L, (kQ12 R)) (0, 0) Φ := sm_wp_step (⟨fun q21 => ⟨fun q19 => ⟨fun q18 => ((((((h).1 q21)).1 q19)).1 q18), fun q18 => ⟨(((((((h).1 q21)).1 q19)).2 q18)).1, ⟨(((((((((h).1 q21)).1 q19)).2 q18)).2 _ rfl)).1, sm_ci0 (((((((((((h).1 q21)).1 q19)).2 q18)).2 _ rfl)).2 _ rfl)) (fun r14 I12 L13 q17 => ⟨(q17).1, (((q17).2 _ rfl) _ rfl)⟩)⟩⟩⟩, fun q19 => ⟨fun q9 => ((((((h).1 q21)).2 q19)).1 q9), fun q9 => ⟨(((((((h).1 q21)).2 q19)).2 q9)).1, ⟨(((((((((h).1 q21)).2 q19)).2 q9)).2 _ rfl)).1, sm_ci0 (((((((((((h).1 q21)).2 q19)).2 q9)).2 _ rfl)).2 _ rfl)) (fun r5 I3 L4 q8 => ⟨(q8).1, (((q8).2 _ rfl) _ rfl)⟩)⟩⟩⟩⟩, fun q21 => ⟨(((h).2 q21)).1, ⟨fun q20 => (((((h).2 q21)).2).1 q20), fun q20 => (((((h).2 q21)).2).2 q20)⟩⟩⟩)
theorem s12_X7_numberNew_0 {S : sm_C} {d : Nat} {Φ : sm_Z → Prop} {I : sm_I} {L : sm_L} {R : sm_R} {x1 : Int32} (h : (((x1).toInt = 0 → ∀ n16 : Int32, n16 = (if (4 : Int32) < ((I 12 0) + (1 : Int32)) then (4 : Int32) else ((I 12 0) + (1 : Int32))) → Φ (some (.int (((sm_up I 12 0 n16) 12 0) - (1 : Int32))), (xLay, (sm_up I 12 0 n16), L, (kQ12 R)))) ∧ (¬ (x1).toInt = 0 → (((x1).toInt = 1 → ∀ n14 : Int32, n14 = (if (6 : Int32) < ((I 12 1) + (1 : Int32)) then (6 : Int32) else ((I 12 1) + (1 : Int32))) → Φ (some (.int (((sm_up I 12 1 n14) 12 1) - (1 : Int32))), (xLay, (sm_up I 12 1 n14), L, (kQ12 R)))) ∧ (¬ (x1).toInt = 1 → (((x1).toInt = 3 → ∀ n12 : Int32, n12 = (if (10 : Int32) < ((I 12 2) + (1 : Int32)) then (10 : Int32) else ((I 12 2) + (1 : Int32))) → Φ (some (.int (((sm_up I 12 2 n12) 12 2) - (1 : Int32))), (xLay, (sm_up I 12 2 n12), L, (kQ12 R)))) ∧ (¬ (x1).toInt = 3 → (((x1).toInt = 12 → ∀ n10 : Int32, n10 = (if (5 : Int32) < ((I 12 4) + (1 : Int32)) then (5 : Int32) else ((I 12 4) + (1 : Int32))) → Φ (some (.int (((sm_up I 12 4 n10) 12 4) - (1 : Int32))), (xLay, (sm_up I 12 4 n10), L, (kQ12 R)))) ∧ (¬ (x1).toInt = 12 → (((I 2 7) = (8 : Int32) → sm_wp sm_P S d 14 0 [.ref 12, .int (1 : Int32)] [] (xLay, I, L, (kQ12 R)) (0, 0) (fun z => ∃ (I5 : sm_I) (L6 : sm_L), z = (none, (xLay, I5, L6, (kQ12 R))) ∧ Φ (some (.int ((I5 12 3) - (1 : Int32))), (xLay, I5, L6, (kQ12 R))))) ∧ (¬ (I 2 7) = (8 : Int32) → sm_wp sm_P S d 14 0 [.ref 12, .int (0 : Int32)] [] (xLay, I, L, (kQ12 R)) (0, 0) (fun z => ∃ (I1 : sm_I) (L2 : sm_L), z = (none, (xLay, I1, L2, (kQ12 R))) ∧ Φ (some (.int ((I1 12 3) - (1 : Int32))), (xLay, I1, L2, (kQ12 R))))))))))))))) : sm_wp sm_P S (d + 1) 275 0 [.ref 2, .int x1] [] (xLay, I, L, (kQ12 R)) (0, 0) Φ := sm_wp_step (⟨fun q17 => (((h).1 q17) _ rfl), fun q17 => ⟨fun q15 => (((((h).2 q17)).1 q15) _ rfl), fun q15 => ⟨fun q13 => (((((((h).2 q17)).2 q15)).1 q13) _ rfl), fun q13 => ⟨fun q11 => (((((((((h).2 q17)).2 q15)).2 q13)).1 q11) _ rfl), fun q11 => ⟨fun q9 => sm_cv0 (((((((((((h).2 q17)).2 q15)).2 q13)).2 q11)).1 q9)) (fun I5 L6 q8 => q8), fun q9 => sm_cv0 (((((((((((h).2 q17)).2 q15)).2 q13)).2 q11)).2 q9)) (fun I1 L2 q4 => q4)⟩⟩⟩⟩⟩)
theorem s12_X7_takePath_0 {S : sm_C} {d : Nat} {Φ : sm_Z → Prop} {I : sm_I} {L : sm_L} {R : sm_R} {x1 : Int32} {y2 : Int64} (h : sm_wp sm_P S d 272 0 [.ref 2, .long y2, .int (1 : Int32)] [] (xLay, I, L, (kQ12 R)) (0, 0) (fun z => ∃ (r3 : Int32) (I1 : sm_I) (L2 : sm_L), z = (some (.int r3), (xLay, I1, L2, (kQ12 R))) ∧ ((r3 = (-1 : Int32) → Φ (some (.int (4 : Int32)), (xLay, I1, L2, (kQ12 R)))) ∧ (¬ r3 = (-1 : Int32) → ((x1 = (3 : Int32) → Φ (some (.int (0 : Int32)), (xLay, (sm_up I1 2 8 r3), L2, (kQ12 R)))) ∧ (¬ x1 = (3 : Int32) → ((((sm_up I1 2 9 r3) 2 8) = ((sm_up I1 2 9 r3) 2 9) → Φ (some (.int (5 : Int32)), (xLay, (sm_up I1 2 9 r3), L2, (kQ12 R)))) ∧ (¬ ((sm_up I1 2 9 r3) 2 8) = ((sm_up I1 2 9 r3) 2 9) → Φ (some (.int (0 : Int32)), (xLay, (sm_up I1 2 9 r3), L2, (kQ12 R))))))))))) : sm_wp sm_P S (d + 1) 282 0 [.ref 2, .int x1, .long y2] [] (xLay, I, L, (kQ12 R)) (0, 0) Φ := sm_wp_step (sm_ci0 (h) (fun r3 I1 L2 q7 => ⟨fun q6 => ((q7).1 q6), fun q6 => ⟨fun q5 => ((((q7).2 q6)).1 q5), fun q5 => ⟨fun q4 => ((((((q7).2 q6)).2 q5)).1 q4), fun q4 => ((((((q7).2 q6)).2 q5)).2 q4)⟩⟩⟩))
theorem s12_X7_takeOpen_0 {S : sm_C} {d : Nat} {Φ : sm_Z → Prop} {I : sm_I} {L : sm_L} {R : sm_R} {x1 : Int32} {y2 : Int64} (h : sm_wp sm_P S d 272 0 [.ref 2, .long y2, .int (3 : Int32)] [] (xLay, I, L, (kQ12 R)) (0, 0) (fun z => ∃ (r3 : Int32) (I1 : sm_I) (L2 : sm_L), z = (some (.int r3), (xLay, I1, L2, (kQ12 R))) ∧ ((r3 = (-1 : Int32) → Φ (some (.int (4 : Int32)), (xLay, I1, L2, (kQ12 R)))) ∧ (¬ r3 = (-1 : Int32) → ((x1 = (27 : Int32) → sm_wp sm_P S d 21 0 [.ref 12, .int ((sm_up I1 2 8 r3) 2 8)] [] (xLay, (sm_up I1 2 8 r3), L2, (kQ12 R)) (0, 0) (fun z => ∃ (r12 : Int32) (I10 : sm_I) (L11 : sm_L), z = (some (.int r12), (xLay, I10, L11, (kQ12 R))) ∧ ((r12 = 0 → Φ (some (.int (0 : Int32)), (xLay, I10, L11, (kQ12 R)))) ∧ (¬ r12 = 0 → Φ (some (.int (5 : Int32)), (xLay, I10, L11, (kQ12 R))))))) ∧ (¬ x1 = (27 : Int32) → ((((sm_up I1 2 9 r3) 2 8) = ((sm_up I1 2 9 r3) 2 9) → Φ (some (.int (5 : Int32)), (xLay, (sm_up I1 2 9 r3), L2, (kQ12 R)))) ∧ (¬ ((sm_up I1 2 9 r3) 2 8) = ((sm_up I1 2 9 r3) 2 9) → sm_wp sm_P S d 21 0 [.ref 12, .int ((sm_up I1 2 9 r3) 2 9)] [] (xLay, (sm_up I1 2 9 r3), L2, (kQ12 R)) (0, 0) (fun z => ∃ (r6 : Int32) (I4 : sm_I) (L5 : sm_L), z = (some (.int r6), (xLay, I4, L5, (kQ12 R))) ∧ ((r6 = 0 → sm_wp sm_P S (d + 1) 281 11 [.ref 2, .int (0 : Int32)] [] (xLay, I4, L5, (kQ12 R)) (0, 0) Φ) ∧ (¬ r6 = 0 → Φ (some (.int (5 : Int32)), (xLay, I4, L5, (kQ12 R)))))))))))))) : sm_wp sm_P S (d + 1) 281 0 [.ref 2, .int x1, .long y2] [] (xLay, I, L, (kQ12 R)) (0, 0) Φ := sm_wp_step (sm_ci0 (h) (fun r3 I1 L2 q17 => ⟨fun q16 => ((q17).1 q16), fun q16 => ⟨fun q15 => sm_ci0 (((((q17).2 q16)).1 q15)) (fun r12 I10 L11 q14 => ⟨fun q13 => ((q14).1 q13), fun q13 => ((q14).2 q13)⟩), fun q15 => ⟨fun q9 => ((((((q17).2 q16)).2 q15)).1 q9), fun q9 => sm_ci0 (((((((q17).2 q16)).2 q15)).2 q9)) (fun r6 I4 L5 q8 => ⟨fun q7 => ((q8).1 q7), fun q7 => ((q8).2 q7)⟩)⟩⟩⟩))
theorem s12_X7_takeOpen_11 {S : sm_C} {d : Nat} {Φ : sm_Z → Prop} {I : sm_I} {L : sm_L} {R : sm_R} {x5 : Int32} (h : (((I 12 2) ≤ x5 → Φ (some (.int (0 : Int32)), (xLay, I, L, (kQ12 R)))) ∧ (¬ (I 12 2) ≤ x5 → (vp_in x5 10) ∧ (((I 18 x5.toNatClampNeg) = (I 2 8) → Φ (some (.int (5 : Int32)), (xLay, I, L, (kQ12 R)))) ∧ (¬ (I 18 x5.toNatClampNeg) = (I 2 8) → sm_wp sm_P S (d + 1) 281 11 [.ref 2, .int (x5 + (1 : Int32))] [] (xLay, I, L, (kQ12 R)) (0, 0) Φ))))) : sm_wp sm_P S (d + 1) 281 11 [.ref 2, .int x5] [] (xLay, I, L, (kQ12 R)) (0, 0) Φ := sm_wp_step (⟨fun q2 => ((h).1 q2), fun q2 => ⟨(((h).2 q2)).1, ⟨fun q1 => (((((h).2 q2)).2).1 q1), fun q1 => (((((h).2 q2)).2).2 q1)⟩⟩⟩)
theorem s12_X7_takeSpanTime_0 {S : sm_C} {d : Nat} {Φ : sm_Z → Prop} {I : sm_I} {L : sm_L} {R : sm_R} {x1 : Int32} {y2 : Int64} (h : sm_wp sm_P S d 272 0 [.ref 2, .long y2, .int (3 : Int32)] [] (xLay, I, L, (kQ12 R)) (0, 0) (fun z => ∃ (r3 : Int32) (I1 : sm_I) (L2 : sm_L), z = (some (.int r3), (xLay, I1, L2, (kQ12 R))) ∧ ((r3 = (-1 : Int32) → Φ (some (.int (4 : Int32)), (xLay, I1, L2, (kQ12 R)))) ∧ (¬ r3 = (-1 : Int32) → ((x1 = (17 : Int32) → ∀ I4 : sm_I, I4 = (sm_up (sm_up I1 2 8 r3) 2 9 (-1 : Int32)) → Φ (some (.int (0 : Int32)), (xLay, I4, L2, (kQ12 R)))) ∧ (¬ x1 = (17 : Int32) → Φ (some (.int (0 : Int32)), (xLay, (sm_up I1 2 9 r3), L2, (kQ12 R))))))))) : sm_wp sm_P S (d + 1) 283 0 [.ref 2, .int x1, .long y2] [] (xLay, I, L, (kQ12 R)) (0, 0) Φ := sm_wp_step (sm_ci0 (h) (fun r3 I1 L2 q7 => ⟨fun q6 => ((q7).1 q6), fun q6 => ⟨fun q5 => (((((q7).2 q6)).1 q5) _ rfl), fun q5 => ((((q7).2 q6)).2 q5)⟩⟩))
theorem s12_X7_takeTrust_0 {S : sm_C} {d : Nat} {Φ : sm_Z → Prop} {I : sm_I} {L : sm_L} {R : sm_R} {x1 : Int32} (h : ((x1 = 0 → Φ (some (.int (5 : Int32)), (xLay, I, L, (kQ12 R)))) ∧ (¬ x1 = 0 → ((x1 ≤ (100 : Int32) → sm_wp sm_P S d 25 0 [.ref 12, .int x1] [] (xLay, I, L, (kQ12 R)) (0, 0) (fun z => ∃ (I1 : sm_I) (L2 : sm_L), z = (none, (xLay, I1, L2, (kQ12 R))) ∧ Φ (some (.int (0 : Int32)), (xLay, I1, L2, (kQ12 R))))) ∧ (¬ x1 ≤ (100 : Int32) → Φ (some (.int (5 : Int32)), (xLay, I, L, (kQ12 R)))))))) : sm_wp sm_P S (d + 1) 284 0 [.ref 2, .int x1] [] (xLay, I, L, (kQ12 R)) (0, 0) Φ := sm_wp_step (⟨fun q6 => ((h).1 q6), fun q6 => ⟨fun q5 => sm_cv0 (((((h).2 q6)).1 q5)) (fun I1 L2 q4 => q4), fun q5 => ((((h).2 q6)).2 q5)⟩⟩)
theorem s12_X7_takeWhere_0 {S : sm_C} {d : Nat} {Φ : sm_Z → Prop} {I : sm_I} {L : sm_L} {R : sm_R} {x1 : Int32} {y2 : Int64} (h : ((x1 = (8 : Int32) → (((1 : Int32) = 0 → sm_wp sm_P S d 272 0 [.ref 2, .long y2, .int (1 : Int32)] [] (xLay, I, L, (kQ12 R)) (0, 0) (fun z => ∃ (r32 : Int32) (I30 : sm_I) (L31 : sm_L), z = (some (.int r32), (xLay, I30, L31, (kQ12 R))) ∧ ((r32 = (-1 : Int32) → Φ (some (.int (4 : Int32)), (xLay, I30, L31, (kQ12 R)))) ∧ (¬ r32 = (-1 : Int32) → (((1 : Int32) = 0 → sm_wp sm_P S d 24 0 [.ref 12, .ref 15, .int r32] [] (xLay, I30, L31, (kQ12 R)) (0, 0) (fun z => ∃ (I33 : sm_I) (L34 : sm_L), z = (none, (xLay, I33, L34, (kQ12 R))) ∧ Φ (some (.int (0 : Int32)), (xLay, I33, L34, (kQ12 R))))) ∧ (¬ (1 : Int32) = 0 → sm_wp sm_P S d 24 0 [.ref 12, .ref 14, .int r32] [] (xLay, I30, L31, (kQ12 R)) (0, 0) (fun z => ∃ (I37 : sm_I) (L38 : sm_L), z = (none, (xLay, I37, L38, (kQ12 R))) ∧ Φ (some (.int (0 : Int32)), (xLay, I37, L38, (kQ12 R)))))))))) ∧ (¬ (1 : Int32) = 0 → sm_wp sm_P S d 272 0 [.ref 2, .long y2, .int (0 : Int32)] [] (xLay, I, L, (kQ12 R)) (0, 0) (fun z => ∃ (r46 : Int32) (I44 : sm_I) (L45 : sm_L), z = (some (.int r46), (xLay, I44, L45, (kQ12 R))) ∧ ((r46 = (-1 : Int32) → Φ (some (.int (4 : Int32)), (xLay, I44, L45, (kQ12 R)))) ∧ (¬ r46 = (-1 : Int32) → (((1 : Int32) = 0 → sm_wp sm_P S d 24 0 [.ref 12, .ref 15, .int r46] [] (xLay, I44, L45, (kQ12 R)) (0, 0) (fun z => ∃ (I47 : sm_I) (L48 : sm_L), z = (none, (xLay, I47, L48, (kQ12 R))) ∧ Φ (some (.int (0 : Int32)), (xLay, I47, L48, (kQ12 R))))) ∧ (¬ (1 : Int32) = 0 → sm_wp sm_P S d 24 0 [.ref 12, .ref 14, .int r46] [] (xLay, I44, L45, (kQ12 R)) (0, 0) (fun z => ∃ (I51 : sm_I) (L52 : sm_L), z = (none, (xLay, I51, L52, (kQ12 R))) ∧ Φ (some (.int (0 : Int32)), (xLay, I51, L52, (kQ12 R)))))))))))) ∧ (¬ x1 = (8 : Int32) → (((0 : Int32) = 0 → sm_wp sm_P S d 272 0 [.ref 2, .long y2, .int (1 : Int32)] [] (xLay, I, L, (kQ12 R)) (0, 0) (fun z => ∃ (r3 : Int32) (I1 : sm_I) (L2 : sm_L), z = (some (.int r3), (xLay, I1, L2, (kQ12 R))) ∧ ((r3 = (-1 : Int32) → Φ (some (.int (4 : Int32)), (xLay, I1, L2, (kQ12 R)))) ∧ (¬ r3 = (-1 : Int32) → (((0 : Int32) = 0 → sm_wp sm_P S d 24 0 [.ref 12, .ref 15, .int r3] [] (xLay, I1, L2, (kQ12 R)) (0, 0) (fun z => ∃ (I4 : sm_I) (L5 : sm_L), z = (none, (xLay, I4, L5, (kQ12 R))) ∧ Φ (some (.int (0 : Int32)), (xLay, I4, L5, (kQ12 R))))) ∧ (¬ (0 : Int32) = 0 → sm_wp sm_P S d 24 0 [.ref 12, .ref 14, .int r3] [] (xLay, I1, L2, (kQ12 R)) (0, 0) (fun z => ∃ (I8 : sm_I) (L9 : sm_L), z = (none, (xLay, I8, L9, (kQ12 R))) ∧ Φ (some (.int (0 : Int32)), (xLay, I8, L9, (kQ12 R)))))))))) ∧ (¬ (0 : Int32) = 0 → sm_wp sm_P S d 272 0 [.ref 2, .long y2, .int (0 : Int32)] [] (xLay, I, L, (kQ12 R)) (0, 0) (fun z => ∃ (r17 : Int32) (I15 : sm_I) (L16 : sm_L), z = (some (.int r17), (xLay, I15, L16, (kQ12 R))) ∧ ((r17 = (-1 : Int32) → Φ (some (.int (4 : Int32)), (xLay, I15, L16, (kQ12 R)))) ∧ (¬ r17 = (-1 : Int32) → (((0 : Int32) = 0 → sm_wp sm_P S d 24 0 [.ref 12, .ref 15, .int r17] [] (xLay, I15, L16, (kQ12 R)) (0, 0) (fun z => ∃ (I18 : sm_I) (L19 : sm_L), z = (none, (xLay, I18, L19, (kQ12 R))) ∧ Φ (some (.int (0 : Int32)), (xLay, I18, L19, (kQ12 R))))) ∧ (¬ (0 : Int32) = 0 → sm_wp sm_P S d 24 0 [.ref 12, .ref 14, .int r17] [] (xLay, I15, L16, (kQ12 R)) (0, 0) (fun z => ∃ (I22 : sm_I) (L23 : sm_L), z = (none, (xLay, I22, L23, (kQ12 R))) ∧ Φ (some (.int (0 : Int32)), (xLay, I22, L23, (kQ12 R)))))))))))))) : sm_wp sm_P S (d + 1) 285 0 [.ref 2, .int x1, .long y2] [] (xLay, I, L, (kQ12 R)) (0, 0) Φ := sm_wp_step (⟨fun q59 => ⟨fun q58 => sm_ci0 (((((h).1 q59)).1 q58)) (fun r32 I30 L31 q43 => ⟨fun q42 => ((q43).1 q42), fun q42 => ⟨fun q41 => sm_cv0 (((((q43).2 q42)).1 q41)) (fun I33 L34 q36 => q36), fun q41 => sm_cv0 (((((q43).2 q42)).2 q41)) (fun I37 L38 q40 => q40)⟩⟩), fun q58 => sm_ci0 (((((h).1 q59)).2 q58)) (fun r46 I44 L45 q57 => ⟨fun q56 => ((q57).1 q56), fun q56 => ⟨fun q55 => sm_cv0 (((((q57).2 q56)).1 q55)) (fun I47 L48 q50 => q50), fun q55 => sm_cv0 (((((q57).2 q56)).2 q55)) (fun I51 L52 q54 => q54)⟩⟩)⟩, fun q59 => ⟨fun q29 => sm_ci0 (((((h).2 q59)).1 q29)) (fun r3 I1 L2 q14 => ⟨fun q13 => ((q14).1 q13), fun q13 => ⟨fun q12 => sm_cv0 (((((q14).2 q13)).1 q12)) (fun I4 L5 q7 => q7), fun q12 => sm_cv0 (((((q14).2 q13)).2 q12)) (fun I8 L9 q11 => q11)⟩⟩), fun q29 => sm_ci0 (((((h).2 q59)).2 q29)) (fun r17 I15 L16 q28 => ⟨fun q27 => ((q28).1 q27), fun q27 => ⟨fun q26 => sm_cv0 (((((q28).2 q27)).1 q26)) (fun I18 L19 q21 => q21), fun q26 => sm_cv0 (((((q28).2 q27)).2 q26)) (fun I22 L23 q25 => q25)⟩⟩)⟩⟩)
theorem s12_X7_takeInt_0 {S : sm_C} {d : Nat} {Φ : sm_Z → Prop} {I : sm_I} {L : sm_L} {R : sm_R} {x1 : Int32} {x2 : Int32} {x3 : Int32} (h : ((x2 = (16 : Int32) → sm_wp sm_P S d 244 0 [.int x1] [] (xLay, I, L, (kQ12 R)) (0, 0) (fun z => ∃ (r3 : Int32) (I1 : sm_I) (L2 : sm_L), z = (some (.int r3), (xLay, I1, L2, (kQ12 R))) ∧ ((r3 = 0 → ((x1 = (5 : Int32) → sm_wp sm_P S d 270 0 [.ref 2, .int x3] [] (xLay, I1, L2, (kQ12 R)) (0, 0) (fun z => ∃ (I13 : sm_I) (L14 : sm_L), z = (none, (xLay, I13, L14, (kQ12 R))) ∧ Φ (some (.int (0 : Int32)), (xLay, I13, L14, (kQ12 R))))) ∧ (¬ x1 = (5 : Int32) → sm_wp sm_P S d 241 0 [.int x1, .int x2] [] (xLay, I1, L2, (kQ12 R)) (0, 0) (fun z => ∃ (r6 : Int32) (I4 : sm_I) (L5 : sm_L), z = (some (.int r6), (xLay, I4, L5, (kQ12 R))) ∧ ((r6 = (26 : Int32) → sm_wp sm_P S d 271 0 [.ref 2, .int x3] [] (xLay, I4, L5, (kQ12 R)) (0, 0) (fun z => ∃ (I7 : sm_I) (L8 : sm_L), z = (none, (xLay, I7, L8, (kQ12 R))) ∧ Φ (some (.int (0 : Int32)), (xLay, I7, L8, (kQ12 R))))) ∧ (¬ r6 = (26 : Int32) → Φ (some (.int (0 : Int32)), (xLay, (sm_up I4 2 10 x3), L5, (kQ12 R))))))))) ∧ (¬ r3 = 0 → ((x1 = (5 : Int32) → sm_wp sm_P S d 270 0 [.ref 2, .int (-x3)] [] (xLay, I1, L2, (kQ12 R)) (0, 0) (fun z => ∃ (I27 : sm_I) (L28 : sm_L), z = (none, (xLay, I27, L28, (kQ12 R))) ∧ Φ (some (.int (0 : Int32)), (xLay, I27, L28, (kQ12 R))))) ∧ (¬ x1 = (5 : Int32) → sm_wp sm_P S d 241 0 [.int x1, .int x2] [] (xLay, I1, L2, (kQ12 R)) (0, 0) (fun z => ∃ (r20 : Int32) (I18 : sm_I) (L19 : sm_L), z = (some (.int r20), (xLay, I18, L19, (kQ12 R))) ∧ ((r20 = (26 : Int32) → sm_wp sm_P S d 271 0 [.ref 2, .int (-x3)] [] (xLay, I18, L19, (kQ12 R)) (0, 0) (fun z => ∃ (I21 : sm_I) (L22 : sm_L), z = (none, (xLay, I21, L22, (kQ12 R))) ∧ Φ (some (.int (0 : Int32)), (xLay, I21, L22, (kQ12 R))))) ∧ (¬ r20 = (26 : Int32) → Φ (some (.int (0 : Int32)), (xLay, (sm_up I18 2 10 (-x3)), L19, (kQ12 R)))))))))))) ∧ (¬ x2 = (16 : Int32) → Φ (some (.int (0 : Int32)), (xLay, I, L, (kQ12 R)))))) : sm_wp sm_P S (d + 1) 279 0 [.ref 2, .int x1, .int x2, .int x3] [] (xLay, I, L, (kQ12 R)) (0, 0) Φ := sm_wp_step (⟨fun q34 => sm_ci0 (((h).1 q34)) (fun r3 I1 L2 q33 => ⟨fun q32 => ⟨fun q17 => sm_cv0 (((((q33).1 q32)).1 q17)) (fun I13 L14 q16 => q16), fun q17 => sm_ci0 (((((q33).1 q32)).2 q17)) (fun r6 I4 L5 q12 => ⟨fun q11 => sm_cv0 (((q12).1 q11)) (fun I7 L8 q10 => q10), fun q11 => ((q12).2 q11)⟩)⟩, fun q32 => ⟨fun q31 => sm_cv0 (((((q33).2 q32)).1 q31)) (fun I27 L28 q30 => q30), fun q31 => sm_ci0 (((((q33).2 q32)).2 q31)) (fun r20 I18 L19 q26 => ⟨fun q25 => sm_cv0 (((q26).1 q25)) (fun I21 L22 q24 => q24), fun q25 => ((q26).2 q25)⟩)⟩⟩), fun q34 => ((h).2 q34)⟩)
theorem s12_X7_endPathOrOpen_0 {S : sm_C} {d : Nat} {Φ : sm_Z → Prop} {I : sm_I} {L : sm_L} {R : sm_R} {x1 : Int32} (h : (((I 2 7) = (2 : Int32) → sm_wp sm_P S d 13 0 [.ref 12, .int (I 2 8), .int (I 2 9), .int x1] [] (xLay, I, L, (kQ12 R)) (0, 0) (fun z => ∃ (I9 : sm_I) (L10 : sm_L), z = (none, (xLay, I9, L10, (kQ12 R))) ∧ Φ (none, (xLay, I9, L10, (kQ12 R))))) ∧ (¬ (I 2 7) = (2 : Int32) → sm_wp sm_P S d 294 0 [.ref 16, .int (I 2 8), .int (I 2 8), .int (I 2 9)] [] (xLay, I, L, (kQ12 R)) (0, 0) (fun z => ∃ (I1 : sm_I) (L2 : sm_L), z = (none, (xLay, I1, L2, (kQ12 R))) ∧ sm_wp sm_P S d 286 0 [.ref 16, .int (I1 2 8), .int (I1 2 10), .int x1] [] (xLay, I1, L2, (kQ12 R)) (0, 0) (fun z => ∃ (I4 : sm_I) (L5 : sm_L), z = (none, (xLay, I4, L5, (kQ12 R))) ∧ Φ (none, (xLay, I4, L5, (kQ12 R)))))))) : sm_wp sm_P S (d + 1) 270 0 [.ref 2, .int x1] [] (xLay, I, L, (kQ12 R)) (0, 0) Φ := sm_wp_step (⟨fun q13 => sm_cv0 (((h).1 q13)) (fun I9 L10 q12 => q12), fun q13 => sm_cv0 (((h).2 q13)) (fun I1 L2 q8 => sm_cv0 (q8) (fun I4 L5 q7 => q7))⟩)
theorem s12_X7_endSpan_0 {S : sm_C} {d : Nat} {Φ : sm_Z → Prop} {I : sm_I} {L : sm_L} {R : sm_R} {x1 : Int32} (h : (((I 2 7) = (12 : Int32) → (((1 : Int32) = 0 → (((1 : Int32) = 0 → sm_wp sm_P S d 22 0 [.ref 12] [] (xLay, I, L, (kQ12 R)) (0, 0) (fun z => ∃ (r46 : Int32) (I44 : sm_I) (L45 : sm_L), z = (some (.int r46), (xLay, I44, L45, (kQ12 R))) ∧ sm_wp sm_P S d 294 0 [.ref 24, .int r46, .int (I44 2 8), .int (I44 2 9)] [] (xLay, I44, L45, (kQ12 R)) (0, 0) (fun z => ∃ (I47 : sm_I) (L48 : sm_L), z = (none, (xLay, I47, L48, (kQ12 R))) ∧ sm_wp sm_P S d 286 0 [.ref 24, .int r46, .int (I47 2 10), .int x1] [] (xLay, I47, L48, (kQ12 R)) (0, 0) (fun z => ∃ (I50 : sm_I) (L51 : sm_L), z = (none, (xLay, I50, L51, (kQ12 R))) ∧ Φ (none, (xLay, I50, L51, (kQ12 R))))))) ∧ (¬ (1 : Int32) = 0 → sm_wp sm_P S d 294 0 [.ref 24, .int ((I 12 4) - (1 : Int32)), .int (I 2 8), .int (I 2 9)] [] (xLay, I, L, (kQ12 R)) (0, 0) (fun z => ∃ (I56 : sm_I) (L57 : sm_L), z = (none, (xLay, I56, L57, (kQ12 R))) ∧ sm_wp sm_P S d 286 0 [.ref 24, .int ((I 12 4) - (1 : Int32)), .int (I56 2 10), .int x1] [] (xLay, I56, L57, (kQ12 R)) (0, 0) (fun z => ∃ (I59 : sm_I) (L60 : sm_L), z = (none, (xLay, I59, L60, (kQ12 R))) ∧ Φ (none, (xLay, I59, L60, (kQ12 R)))))))) ∧ (¬ (1 : Int32) = 0 → (((1 : Int32) = 0 → sm_wp sm_P S d 22 0 [.ref 12] [] (xLay, I, L, (kQ12 R)) (0, 0) (fun z => ∃ (r67 : Int32) (I65 : sm_I) (L66 : sm_L), z = (some (.int r67), (xLay, I65, L66, (kQ12 R))) ∧ sm_wp sm_P S d 294 0 [.ref 29, .int r67, .int (I65 2 8), .int (I65 2 9)] [] (xLay, I65, L66, (kQ12 R)) (0, 0) (fun z => ∃ (I68 : sm_I) (L69 : sm_L), z = (none, (xLay, I68, L69, (kQ12 R))) ∧ sm_wp sm_P S d 286 0 [.ref 29, .int r67, .int (I68 2 10), .int x1] [] (xLay, I68, L69, (kQ12 R)) (0, 0) (fun z => ∃ (I71 : sm_I) (L72 : sm_L), z = (none, (xLay, I71, L72, (kQ12 R))) ∧ Φ (none, (xLay, I71, L72, (kQ12 R))))))) ∧ (¬ (1 : Int32) = 0 → sm_wp sm_P S d 294 0 [.ref 29, .int ((I 12 4) - (1 : Int32)), .int (I 2 8), .int (I 2 9)] [] (xLay, I, L, (kQ12 R)) (0, 0) (fun z => ∃ (I77 : sm_I) (L78 : sm_L), z = (none, (xLay, I77, L78, (kQ12 R))) ∧ sm_wp sm_P S d 286 0 [.ref 29, .int ((I 12 4) - (1 : Int32)), .int (I77 2 10), .int x1] [] (xLay, I77, L78, (kQ12 R)) (0, 0) (fun z => ∃ (I80 : sm_I) (L81 : sm_L), z = (none, (xLay, I80, L81, (kQ12 R))) ∧ Φ (none, (xLay, I80, L81, (kQ12 R)))))))))) ∧ (¬ (I 2 7) = (12 : Int32) → (((0 : Int32) = 0 → (((0 : Int32) = 0 → sm_wp sm_P S d 22 0 [.ref 12] [] (xLay, I, L, (kQ12 R)) (0, 0) (fun z => ∃ (r3 : Int32) (I1 : sm_I) (L2 : sm_L), z = (some (.int r3), (xLay, I1, L2, (kQ12 R))) ∧ sm_wp sm_P S d 294 0 [.ref 24, .int r3, .int (I1 2 8), .int (I1 2 9)] [] (xLay, I1, L2, (kQ12 R)) (0, 0) (fun z => ∃ (I4 : sm_I) (L5 : sm_L), z = (none, (xLay, I4, L5, (kQ12 R))) ∧ sm_wp sm_P S d 286 0 [.ref 24, .int r3, .int (I4 2 10), .int x1] [] (xLay, I4, L5, (kQ12 R)) (0, 0) (fun z => ∃ (I7 : sm_I) (L8 : sm_L), z = (none, (xLay, I7, L8, (kQ12 R))) ∧ Φ (none, (xLay, I7, L8, (kQ12 R))))))) ∧ (¬ (0 : Int32) = 0 → sm_wp sm_P S d 294 0 [.ref 24, .int ((I 12 4) - (1 : Int32)), .int (I 2 8), .int (I 2 9)] [] (xLay, I, L, (kQ12 R)) (0, 0) (fun z => ∃ (I13 : sm_I) (L14 : sm_L), z = (none, (xLay, I13, L14, (kQ12 R))) ∧ sm_wp sm_P S d 286 0 [.ref 24, .int ((I 12 4) - (1 : Int32)), .int (I13 2 10), .int x1] [] (xLay, I13, L14, (kQ12 R)) (0, 0) (fun z => ∃ (I16 : sm_I) (L17 : sm_L), z = (none, (xLay, I16, L17, (kQ12 R))) ∧ Φ (none, (xLay, I16, L17, (kQ12 R)))))))) ∧ (¬ (0 : Int32) = 0 → (((0 : Int32) = 0 → sm_wp sm_P S d 22 0 [.ref 12] [] (xLay, I, L, (kQ12 R)) (0, 0) (fun z => ∃ (r24 : Int32) (I22 : sm_I) (L23 : sm_L), z = (some (.int r24), (xLay, I22, L23, (kQ12 R))) ∧ sm_wp sm_P S d 294 0 [.ref 29, .int r24, .int (I22 2 8), .int (I22 2 9)] [] (xLay, I22, L23, (kQ12 R)) (0, 0) (fun z => ∃ (I25 : sm_I) (L26 : sm_L), z = (none, (xLay, I25, L26, (kQ12 R))) ∧ sm_wp sm_P S d 286 0 [.ref 29, .int r24, .int (I25 2 10), .int x1] [] (xLay, I25, L26, (kQ12 R)) (0, 0) (fun z => ∃ (I28 : sm_I) (L29 : sm_L), z = (none, (xLay, I28, L29, (kQ12 R))) ∧ Φ (none, (xLay, I28, L29, (kQ12 R))))))) ∧ (¬ (0 : Int32) = 0 → sm_wp sm_P S d 294 0 [.ref 29, .int ((I 12 4) - (1 : Int32)), .int (I 2 8), .int (I 2 9)] [] (xLay, I, L, (kQ12 R)) (0, 0) (fun z => ∃ (I34 : sm_I) (L35 : sm_L), z = (none, (xLay, I34, L35, (kQ12 R))) ∧ sm_wp sm_P S d 286 0 [.ref 29, .int ((I 12 4) - (1 : Int32)), .int (I34 2 10), .int x1] [] (xLay, I34, L35, (kQ12 R)) (0, 0) (fun z => ∃ (I37 : sm_I) (L38 : sm_L), z = (none, (xLay, I37, L38, (kQ12 R))) ∧ Φ (none, (xLay, I37, L38, (kQ12 R)))))))))))) : sm_wp sm_P S (d + 1) 271 0 [.ref 2, .int x1] [] (xLay, I, L, (kQ12 R)) (0, 0) Φ := sm_wp_step (⟨fun q87 => ⟨fun q86 => ⟨fun q64 => sm_ci0 (((((((h).1 q87)).1 q86)).1 q64)) (fun r46 I44 L45 q55 => sm_cv0 (q55) (fun I47 L48 q54 => sm_cv0 (q54) (fun I50 L51 q53 => q53))), fun q64 => sm_cv0 (((((((h).1 q87)).1 q86)).2 q64)) (fun I56 L57 q63 => sm_cv0 (q63) (fun I59 L60 q62 => q62))⟩, fun q86 => ⟨fun q85 => sm_ci0 (((((((h).1 q87)).2 q86)).1 q85)) (fun r67 I65 L66 q76 => sm_cv0 (q76) (fun I68 L69 q75 => sm_cv0 (q75) (fun I71 L72 q74 => q74))), fun q85 => sm_cv0 (((((((h).1 q87)).2 q86)).2 q85)) (fun I77 L78 q84 => sm_cv0 (q84) (fun I80 L81 q83 => q83))⟩⟩, fun q87 => ⟨fun q43 => ⟨fun q21 => sm_ci0 (((((((h).2 q87)).1 q43)).1 q21)) (fun r3 I1 L2 q12 => sm_cv0 (q12) (fun I4 L5 q11 => sm_cv0 (q11) (fun I7 L8 q10 => q10))), fun q21 => sm_cv0 (((((((h).2 q87)).1 q43)).2 q21)) (fun I13 L14 q20 => sm_cv0 (q20) (fun I16 L17 q19 => q19))⟩, fun q43 => ⟨fun q42 => sm_ci0 (((((((h).2 q87)).2 q43)).1 q42)) (fun r24 I22 L23 q33 => sm_cv0 (q33) (fun I25 L26 q32 => sm_cv0 (q32) (fun I28 L29 q31 => q31))), fun q42 => sm_cv0 (((((((h).2 q87)).2 q43)).2 q42)) (fun I34 L35 q41 => sm_cv0 (q41) (fun I37 L38 q40 => q40))⟩⟩⟩)
theorem s12_X7_take_0 {S : sm_C} {d : Nat} {Φ : sm_Z → Prop} {I : sm_I} {L : sm_L} {R : sm_R} {x1 : Int32} {x2 : Int32} {y3 : Int64} (h : (((x1).toInt = 0 → Φ (some (.int (0 : Int32)), (xLay, (sm_up I 2 7 x2), L, (kQ12 R)))) ∧ (¬ (x1).toInt = 0 → (((x1).toInt = 1 → sm_wp sm_P S d 280 0 [.ref 2, .long y3] [] (xLay, I, L, (kQ12 R)) (0, 0) (fun z => ∃ (r145 : Int32) (I143 : sm_I) (L144 : sm_L), z = (some (.int r145), (xLay, I143, L144, (kQ12 R))) ∧ Φ (some (.int r145), (xLay, I143, L144, (kQ12 R))))) ∧ (¬ (x1).toInt = 1 → (((x1).toInt = 2 → sm_wp sm_P S d 279 0 [.ref 2, .int x1, .int x2, .int (y3).toInt32] [] (xLay, I, L, (kQ12 R)) (0, 0) (fun z => ∃ (r140 : Int32) (I138 : sm_I) (L139 : sm_L), z = (some (.int r140), (xLay, I138, L139, (kQ12 R))) ∧ Φ (some (.int r140), (xLay, I138, L139, (kQ12 R))))) ∧ (¬ (x1).toInt = 2 → (((x1).toInt = 3 → sm_wp sm_P S d 282 0 [.ref 2, .int x1, .long y3] [] (xLay, I, L, (kQ12 R)) (0, 0) (fun z => ∃ (r135 : Int32) (I133 : sm_I) (L134 : sm_L), z = (some (.int r135), (xLay, I133, L134, (kQ12 R))) ∧ Φ (some (.int r135), (xLay, I133, L134, (kQ12 R))))) ∧ (¬ (x1).toInt = 3 → (((x1).toInt = 4 → sm_wp sm_P S d 282 0 [.ref 2, .int x1, .long y3] [] (xLay, I, L, (kQ12 R)) (0, 0) (fun z => ∃ (r130 : Int32) (I128 : sm_I) (L129 : sm_L), z = (some (.int r130), (xLay, I128, L129, (kQ12 R))) ∧ Φ (some (.int r130), (xLay, I128, L129, (kQ12 R))))) ∧ (¬ (x1).toInt = 4 → (((x1).toInt = 5 → sm_wp sm_P S d 279 0 [.ref 2, .int x1, .int x2, .int (y3).toInt32] [] (xLay, I, L, (kQ12 R)) (0, 0) (fun z => ∃ (r125 : Int32) (I123 : sm_I) (L124 : sm_L), z = (some (.int r125), (xLay, I123, L124, (kQ12 R))) ∧ Φ (some (.int r125), (xLay, I123, L124, (kQ12 R))))) ∧ (¬ (x1).toInt = 5 → (((x1).toInt = 6 → sm_wp sm_P S d 280 0 [.ref 2, .long y3] [] (xLay, I, L, (kQ12 R)) (0, 0) (fun z => ∃ (r120 : Int32) (I118 : sm_I) (L119 : sm_L), z = (some (.int r120), (xLay, I118, L119, (kQ12 R))) ∧ Φ (some (.int r120), (xLay, I118, L119, (kQ12 R))))) ∧ (¬ (x1).toInt = 6 → (((x1).toInt = 7 → sm_wp sm_P S d 279 0 [.ref 2, .int x1, .int x2, .int (y3).toInt32] [] (xLay, I, L, (kQ12 R)) (0, 0) (fun z => ∃ (r115 : Int32) (I113 : sm_I) (L114 : sm_L), z = (some (.int r115), (xLay, I113, L114, (kQ12 R))) ∧ Φ (some (.int r115), (xLay, I113, L114, (kQ12 R))))) ∧ (¬ (x1).toInt = 7 → (((x1).toInt = 8 → sm_wp sm_P S d 285 0 [.ref 2, .int x1, .long y3] [] (xLay, I, L, (kQ12 R)) (0, 0) (fun z => ∃ (r110 : Int32) (I108 : sm_I) (L109 : sm_L), z = (some (.int r110), (xLay, I108, L109, (kQ12 R))) ∧ Φ (some (.int r110), (xLay, I108, L109, (kQ12 R))))) ∧ (¬ (x1).toInt = 8 → (((x1).toInt = 9 → sm_wp sm_P S d 279 0 [.ref 2, .int x1, .int x2, .int (y3).toInt32] [] (xLay, I, L, (kQ12 R)) (0, 0) (fun z => ∃ (r105 : Int32) (I103 : sm_I) (L104 : sm_L), z = (some (.int r105), (xLay, I103, L104, (kQ12 R))) ∧ Φ (some (.int r105), (xLay, I103, L104, (kQ12 R))))) ∧ (¬ (x1).toInt = 9 → (((x1).toInt = 10 → sm_wp sm_P S d 285 0 [.ref 2, .int x1, .long y3] [] (xLay, I, L, (kQ12 R)) (0, 0) (fun z => ∃ (r100 : Int32) (I98 : sm_I) (L99 : sm_L), z = (some (.int r100), (xLay, I98, L99, (kQ12 R))) ∧ Φ (some (.int r100), (xLay, I98, L99, (kQ12 R))))) ∧ (¬ (x1).toInt = 10 → (((x1).toInt = 11 → sm_wp sm_P S d 280 0 [.ref 2, .long y3] [] (xLay, I, L, (kQ12 R)) (0, 0) (fun z => ∃ (r95 : Int32) (I93 : sm_I) (L94 : sm_L), z = (some (.int r95), (xLay, I93, L94, (kQ12 R))) ∧ Φ (some (.int r95), (xLay, I93, L94, (kQ12 R))))) ∧ (¬ (x1).toInt = 11 → (((x1).toInt = 12 → sm_wp sm_P S d 279 0 [.ref 2, .int x1, .int x2, .int (y3).toInt32] [] (xLay, I, L, (kQ12 R)) (0, 0) (fun z => ∃ (r90 : Int32) (I88 : sm_I) (L89 : sm_L), z = (some (.int r90), (xLay, I88, L89, (kQ12 R))) ∧ Φ (some (.int r90), (xLay, I88, L89, (kQ12 R))))) ∧ (¬ (x1).toInt = 12 → (((x1).toInt = 13 → sm_wp sm_P S d 284 0 [.ref 2, .int (y3).toInt32] [] (xLay, I, L, (kQ12 R)) (0, 0) (fun z => ∃ (r85 : Int32) (I83 : sm_I) (L84 : sm_L), z = (some (.int r85), (xLay, I83, L84, (kQ12 R))) ∧ Φ (some (.int r85), (xLay, I83, L84, (kQ12 R))))) ∧ (¬ (x1).toInt = 13 → (((x1).toInt = 14 → sm_wp sm_P S d 280 0 [.ref 2, .long y3] [] (xLay, I, L, (kQ12 R)) (0, 0) (fun z => ∃ (r80 : Int32) (I78 : sm_I) (L79 : sm_L), z = (some (.int r80), (xLay, I78, L79, (kQ12 R))) ∧ Φ (some (.int r80), (xLay, I78, L79, (kQ12 R))))) ∧ (¬ (x1).toInt = 14 → (((x1).toInt = 15 → sm_wp sm_P S d 280 0 [.ref 2, .long y3] [] (xLay, I, L, (kQ12 R)) (0, 0) (fun z => ∃ (r75 : Int32) (I73 : sm_I) (L74 : sm_L), z = (some (.int r75), (xLay, I73, L74, (kQ12 R))) ∧ Φ (some (.int r75), (xLay, I73, L74, (kQ12 R))))) ∧ (¬ (x1).toInt = 15 → (((x1).toInt = 16 → sm_wp sm_P S d 279 0 [.ref 2, .int x1, .int x2, .int (y3).toInt32] [] (xLay, I, L, (kQ12 R)) (0, 0) (fun z => ∃ (r70 : Int32) (I68 : sm_I) (L69 : sm_L), z = (some (.int r70), (xLay, I68, L69, (kQ12 R))) ∧ Φ (some (.int r70), (xLay, I68, L69, (kQ12 R))))) ∧ (¬ (x1).toInt = 16 → (((x1).toInt = 17 → sm_wp sm_P S d 283 0 [.ref 2, .int x1, .long y3] [] (xLay, I, L, (kQ12 R)) (0, 0) (fun z => ∃ (r65 : Int32) (I63 : sm_I) (L64 : sm_L), z = (some (.int r65), (xLay, I63, L64, (kQ12 R))) ∧ Φ (some (.int r65), (xLay, I63, L64, (kQ12 R))))) ∧ (¬ (x1).toInt = 17 → (((x1).toInt = 18 → sm_wp sm_P S d 279 0 [.ref 2, .int x1, .int x2, .int (y3).toInt32] [] (xLay, I, L, (kQ12 R)) (0, 0) (fun z => ∃ (r60 : Int32) (I58 : sm_I) (L59 : sm_L), z = (some (.int r60), (xLay, I58, L59, (kQ12 R))) ∧ Φ (some (.int r60), (xLay, I58, L59, (kQ12 R))))) ∧ (¬ (x1).toInt = 18 → (((x1).toInt = 19 → sm_wp sm_P S d 279 0 [.ref 2, .int x1, .int x2, .int (y3).toInt32] [] (xLay, I, L, (kQ12 R)) (0, 0) (fun z => ∃ (r55 : Int32) (I53 : sm_I) (L54 : sm_L), z = (some (.int r55), (xLay, I53, L54, (kQ12 R))) ∧ Φ (some (.int r55), (xLay, I53, L54, (kQ12 R))))) ∧ (¬ (x1).toInt = 19 → (((x1).toInt = 20 → sm_wp sm_P S d 283 0 [.ref 2, .int x1, .long y3] [] (xLay, I, L, (kQ12 R)) (0, 0) (fun z => ∃ (r50 : Int32) (I48 : sm_I) (L49 : sm_L), z = (some (.int r50), (xLay, I48, L49, (kQ12 R))) ∧ Φ (some (.int r50), (xLay, I48, L49, (kQ12 R))))) ∧ (¬ (x1).toInt = 20 → (((x1).toInt = 21 → sm_wp sm_P S d 279 0 [.ref 2, .int x1, .int x2, .int (y3).toInt32] [] (xLay, I, L, (kQ12 R)) (0, 0) (fun z => ∃ (r45 : Int32) (I43 : sm_I) (L44 : sm_L), z = (some (.int r45), (xLay, I43, L44, (kQ12 R))) ∧ Φ (some (.int r45), (xLay, I43, L44, (kQ12 R))))) ∧ (¬ (x1).toInt = 21 → (((x1).toInt = 22 → sm_wp sm_P S d 279 0 [.ref 2, .int x1, .int x2, .int (y3).toInt32] [] (xLay, I, L, (kQ12 R)) (0, 0) (fun z => ∃ (r40 : Int32) (I38 : sm_I) (L39 : sm_L), z = (some (.int r40), (xLay, I38, L39, (kQ12 R))) ∧ Φ (some (.int r40), (xLay, I38, L39, (kQ12 R))))) ∧ (¬ (x1).toInt = 22 → (((x1).toInt = 23 → sm_wp sm_P S d 279 0 [.ref 2, .int x1, .int x2, .int (y3).toInt32] [] (xLay, I, L, (kQ12 R)) (0, 0) (fun z => ∃ (r35 : Int32) (I33 : sm_I) (L34 : sm_L), z = (some (.int r35), (xLay, I33, L34, (kQ12 R))) ∧ Φ (some (.int r35), (xLay, I33, L34, (kQ12 R))))) ∧ (¬ (x1).toInt = 23 → (((x1).toInt = 24 → sm_wp sm_P S d 279 0 [.ref 2, .int x1, .int x2, .int (y3).toInt32] [] (xLay, I, L, (kQ12 R)) (0, 0) (fun z => ∃ (r30 : Int32) (I28 : sm_I) (L29 : sm_L), z = (some (.int r30), (xLay, I28, L29, (kQ12 R))) ∧ Φ (some (.int r30), (xLay, I28, L29, (kQ12 R))))) ∧ (¬ (x1).toInt = 24 → (((x1).toInt = 25 → sm_wp sm_P S d 279 0 [.ref 2, .int x1, .int x2, .int (y3).toInt32] [] (xLay, I, L, (kQ12 R)) (0, 0) (fun z => ∃ (r25 : Int32) (I23 : sm_I) (L24 : sm_L), z = (some (.int r25), (xLay, I23, L24, (kQ12 R))) ∧ Φ (some (.int r25), (xLay, I23, L24, (kQ12 R))))) ∧ (¬ (x1).toInt = 25 → (((x1).toInt = 26 → ((x2 = (9 : Int32) → sm_wp sm_P S (d + 1) 278 9 [.ref 2, .int x2] [] (xLay, I, L, (kQ12 R)) (0, 0) Φ) ∧ (¬ x2 = (9 : Int32) → ((x2 = (13 : Int32) → sm_wp sm_P S (d + 1) 278 9 [.ref 2, .int x2] [] (xLay, I, L, (kQ12 R)) (0, 0) Φ) ∧ (¬ x2 = (13 : Int32) → sm_wp sm_P S (d + 1) 278 13 [] [] (xLay, I, L, (kQ12 R)) (0, 0) Φ))))) ∧ (¬ (x1).toInt = 26 → (((x1).toInt = 27 → sm_wp sm_P S d 281 0 [.ref 2, .int x1, .long y3] [] (xLay, I, L, (kQ12 R)) (0, 0) (fun z => ∃ (r17 : Int32) (I15 : sm_I) (L16 : sm_L), z = (some (.int r17), (xLay, I15, L16, (kQ12 R))) ∧ Φ (some (.int r17), (xLay, I15, L16, (kQ12 R))))) ∧ (¬ (x1).toInt = 27 → (((x1).toInt = 28 → sm_wp sm_P S d 279 0 [.ref 2, .int x1, .int x2, .int (y3).toInt32] [] (xLay, I, L, (kQ12 R)) (0, 0) (fun z => ∃ (r12 : Int32) (I10 : sm_I) (L11 : sm_L), z = (some (.int r12), (xLay, I10, L11, (kQ12 R))) ∧ Φ (some (.int r12), (xLay, I10, L11, (kQ12 R))))) ∧ (¬ (x1).toInt = 28 → (((x1).toInt = 29 → sm_wp sm_P S d 281 0 [.ref 2, .int x1, .long y3] [] (xLay, I, L, (kQ12 R)) (0, 0) (fun z => ∃ (r7 : Int32) (I5 : sm_I) (L6 : sm_L), z = (some (.int r7), (xLay, I5, L6, (kQ12 R))) ∧ Φ (some (.int r7), (xLay, I5, L6, (kQ12 R))))) ∧ (¬ (x1).toInt = 29 → sm_wp sm_P S d 279 0 [.ref 2, .int x1, .int x2, .int (y3).toInt32] [] (xLay, I, L, (kQ12 R)) (0, 0) (fun z => ∃ (r3 : Int32) (I1 : sm_I) (L2 : sm_L), z = (some (.int r3), (xLay, I1, L2, (kQ12 R))) ∧ Φ (some (.int r3), (xLay, I1, L2, (kQ12 R))))))))))))))))))))))))))))))))))))))))))))))))))))))))))))))))) : sm_wp sm_P S (d + 1) 278 0 [.ref 2, .int x1, .int x2, .long y3] [] (xLay, I, L, (kQ12 R)) (0, 0) Φ := sm_wp_step (⟨fun q148 => ((h).1 q148), fun q148 => ⟨fun q147 => sm_ci0 (((((h).2 q148)).1 q147)) (fun r145 I143 L144 q146 => q146), fun q147 => ⟨fun q142 => sm_ci0 (((((((h).2 q148)).2 q147)).1 q142)) (fun r140 I138 L139 q141 => q141), fun q142 => ⟨fun q137 => sm_ci0 (((((((((h).2 q148)).2 q147)).2 q142)).1 q137)) (fun r135 I133 L134 q136 => q136), fun q137 => ⟨fun q132 => sm_ci0 (((((((((((h).2 q148)).2 q147)).2 q142)).2 q137)).1 q132)) (fun r130 I128 L129 q131 => q131), fun q132 => ⟨fun q127 => sm_ci0 (((((((((((((h).2 q148)).2 q147)).2 q142)).2 q137)).2 q132)).1 q127)) (fun r125 I123 L124 q126 => q126), fun q127 => ⟨fun q122 => sm_ci0 (((((((((((((((h).2 q148)).2 q147)).2 q142)).2 q137)).2 q132)).2 q127)).1 q122)) (fun r120 I118 L119 q121 => q121), fun q122 => ⟨fun q117 => sm_ci0 (((((((((((((((((h).2 q148)).2 q147)).2 q142)).2 q137)).2 q132)).2 q127)).2 q122)).1 q117)) (fun r115 I113 L114 q116 => q116), fun q117 => ⟨fun q112 => sm_ci0 (((((((((((((((((((h).2 q148)).2 q147)).2 q142)).2 q137)).2 q132)).2 q127)).2 q122)).2 q117)).1 q112)) (fun r110 I108 L109 q111 => q111), fun q112 => ⟨fun q107 => sm_ci0 (((((((((((((((((((((h).2 q148)).2 q147)).2 q142)).2 q137)).2 q132)).2 q127)).2 q122)).2 q117)).2 q112)).1 q107)) (fun r105 I103 L104 q106 => q106), fun q107 => ⟨fun q102 => sm_ci0 (((((((((((((((((((((((h).2 q148)).2 q147)).2 q142)).2 q137)).2 q132)).2 q127)).2 q122)).2 q117)).2 q112)).2 q107)).1 q102)) (fun r100 I98 L99 q101 => q101), fun q102 => ⟨fun q97 => sm_ci0 (((((((((((((((((((((((((h).2 q148)).2 q147)).2 q142)).2 q137)).2 q132)).2 q127)).2 q122)).2 q117)).2 q112)).2 q107)).2 q102)).1 q97)) (fun r95 I93 L94 q96 => q96), fun q97 => ⟨fun q92 => sm_ci0 (((((((((((((((((((((((((((h).2 q148)).2 q147)).2 q142)).2 q137)).2 q132)).2 q127)).2 q122)).2 q117)).2 q112)).2 q107)).2 q102)).2 q97)).1 q92)) (fun r90 I88 L89 q91 => q91), fun q92 => ⟨fun q87 => sm_ci0 (((((((((((((((((((((((((((((h).2 q148)).2 q147)).2 q142)).2 q137)).2 q132)).2 q127)).2 q122)).2 q117)).2 q112)).2 q107)).2 q102)).2 q97)).2 q92)).1 q87)) (fun r85 I83 L84 q86 => q86), fun q87 => ⟨fun q82 => sm_ci0 (((((((((((((((((((((((((((((((h).2 q148)).2 q147)).2 q142)).2 q137)).2 q132)).2 q127)).2 q122)).2 q117)).2 q112)).2 q107)).2 q102)).2 q97)).2 q92)).2 q87)).1 q82)) (fun r80 I78 L79 q81 => q81), fun q82 => ⟨fun q77 => sm_ci0 (((((((((((((((((((((((((((((((((h).2 q148)).2 q147)).2 q142)).2 q137)).2 q132)).2 q127)).2 q122)).2 q117)).2 q112)).2 q107)).2 q102)).2 q97)).2 q92)).2 q87)).2 q82)).1 q77)) (fun r75 I73 L74 q76 => q76), fun q77 => ⟨fun q72 => sm_ci0 (((((((((((((((((((((((((((((((((((h).2 q148)).2 q147)).2 q142)).2 q137)).2 q132)).2 q127)).2 q122)).2 q117)).2 q112)).2 q107)).2 q102)).2 q97)).2 q92)).2 q87)).2 q82)).2 q77)).1 q72)) (fun r70 I68 L69 q71 => q71), fun q72 => ⟨fun q67 => sm_ci0 (((((((((((((((((((((((((((((((((((((h).2 q148)).2 q147)).2 q142)).2 q137)).2 q132)).2 q127)).2 q122)).2 q117)).2 q112)).2 q107)).2 q102)).2 q97)).2 q92)).2 q87)).2 q82)).2 q77)).2 q72)).1 q67)) (fun r65 I63 L64 q66 => q66), fun q67 => ⟨fun q62 => sm_ci0 (((((((((((((((((((((((((((((((((((((((h).2 q148)).2 q147)).2 q142)).2 q137)).2 q132)).2 q127)).2 q122)).2 q117)).2 q112)).2 q107)).2 q102)).2 q97)).2 q92)).2 q87)).2 q82)).2 q77)).2 q72)).2 q67)).1 q62)) (fun r60 I58 L59 q61 => q61), fun q62 => ⟨fun q57 => sm_ci0 (((((((((((((((((((((((((((((((((((((((((h).2 q148)).2 q147)).2 q142)).2 q137)).2 q132)).2 q127)).2 q122)).2 q117)).2 q112)).2 q107)).2 q102)).2 q97)).2 q92)).2 q87)).2 q82)).2 q77)).2 q72)).2 q67)).2 q62)).1 q57)) (fun r55 I53 L54 q56 => q56), fun q57 => ⟨fun q52 => sm_ci0 (((((((((((((((((((((((((((((((((((((((((((h).2 q148)).2 q147)).2 q142)).2 q137)).2 q132)).2 q127)).2 q122)).2 q117)).2 q112)).2 q107)).2 q102)).2 q97)).2 q92)).2 q87)).2 q82)).2 q77)).2 q72)).2 q67)).2 q62)).2 q57)).1 q52)) (fun r50 I48 L49 q51 => q51), fun q52 => ⟨fun q47 => sm_ci0 (((((((((((((((((((((((((((((((((((((((((((((h).2 q148)).2 q147)).2 q142)).2 q137)).2 q132)).2 q127)).2 q122)).2 q117)).2 q112)).2 q107)).2 q102)).2 q97)).2 q92)).2 q87)).2 q82)).2 q77)).2 q72)).2 q67)).2 q62)).2 q57)).2 q52)).1 q47)) (fun r45 I43 L44 q46 => q46), fun q47 => ⟨fun q42 => sm_ci0 (((((((((((((((((((((((((((((((((((((((((((((((h).2 q148)).2 q147)).2 q142)).2 q137)).2 q132)).2 q127)).2 q122)).2 q117)).2 q112)).2 q107)).2 q102)).2 q97)).2 q92)).2 q87)).2 q82)).2 q77)).2 q72)).2 q67)).2 q62)).2 q57)).2 q52)).2 q47)).1 q42)) (fun r40 I38 L39 q41 => q41), fun q42 => ⟨fun q37 => sm_ci0 (((((((((((((((((((((((((((((((((((((((((((((((((h).2 q148)).2 q147)).2 q142)).2 q137)).2 q132)).2 q127)).2 q122)).2 q117)).2 q112)).2 q107)).2 q102)).2 q97)).2 q92)).2 q87)).2 q82)).2 q77)).2 q72)).2 q67)).2 q62)).2 q57)).2 q52)).2 q47)).2 q42)).1 q37)) (fun r35 I33 L34 q36 => q36), fun q37 => ⟨fun q32 => sm_ci0 (((((((((((((((((((((((((((((((((((((((((((((((((((h).2 q148)).2 q147)).2 q142)).2 q137)).2 q132)).2 q127)).2 q122)).2 q117)).2 q112)).2 q107)).2 q102)).2 q97)).2 q92)).2 q87)).2 q82)).2 q77)).2 q72)).2 q67)).2 q62)).2 q57)).2 q52)).2 q47)).2 q42)).2 q37)).1 q32)) (fun r30 I28 L29 q31 => q31), fun q32 => ⟨fun q27 => sm_ci0 (((((((((((((((((((((((((((((((((((((((((((((((((((((h).2 q148)).2 q147)).2 q142)).2 q137)).2 q132)).2 q127)).2 q122)).2 q117)).2 q112)).2 q107)).2 q102)).2 q97)).2 q92)).2 q87)).2 q82)).2 q77)).2 q72)).2 q67)).2 q62)).2 q57)).2 q52)).2 q47)).2 q42)).2 q37)).2 q32)).1 q27)) (fun r25 I23 L24 q26 => q26), fun q27 => ⟨fun q22 => ⟨fun q21 => ((((((((((((((((((((((((((((((((((((((((((((((((((((((((h).2 q148)).2 q147)).2 q142)).2 q137)).2 q132)).2 q127)).2 q122)).2 q117)).2 q112)).2 q107)).2 q102)).2 q97)).2 q92)).2 q87)).2 q82)).2 q77)).2 q72)).2 q67)).2 q62)).2 q57)).2 q52)).2 q47)).2 q42)).2 q37)).2 q32)).2 q27)).1 q22)).1 q21), fun q21 => ⟨fun q20 => ((((((((((((((((((((((((((((((((((((((((((((((((((((((((((h).2 q148)).2 q147)).2 q142)).2 q137)).2 q132)).2 q127)).2 q122)).2 q117)).2 q112)).2 q107)).2 q102)).2 q97)).2 q92)).2 q87)).2 q82)).2 q77)).2 q72)).2 q67)).2 q62)).2 q57)).2 q52)).2 q47)).2 q42)).2 q37)).2 q32)).2 q27)).1 q22)).2 q21)).1 q20), fun q20 => ((((((((((((((((((((((((((((((((((((((((((((((((((((((((((h).2 q148)).2 q147)).2 q142)).2 q137)).2 q132)).2 q127)).2 q122)).2 q117)).2 q112)).2 q107)).2 q102)).2 q97)).2 q92)).2 q87)).2 q82)).2 q77)).2 q72)).2 q67)).2 q62)).2 q57)).2 q52)).2 q47)).2 q42)).2 q37)).2 q32)).2 q27)).1 q22)).2 q21)).2 q20)⟩⟩, fun q22 => ⟨fun q19 => sm_ci0 (((((((((((((((((((((((((((((((((((((((((((((((((((((((((h).2 q148)).2 q147)).2 q142)).2 q137)).2 q132)).2 q127)).2 q122)).2 q117)).2 q112)).2 q107)).2 q102)).2 q97)).2 q92)).2 q87)).2 q82)).2 q77)).2 q72)).2 q67)).2 q62)).2 q57)).2 q52)).2 q47)).2 q42)).2 q37)).2 q32)).2 q27)).2 q22)).1 q19)) (fun r17 I15 L16 q18 => q18), fun q19 => ⟨fun q14 => sm_ci0 (((((((((((((((((((((((((((((((((((((((((((((((((((((((((((h).2 q148)).2 q147)).2 q142)).2 q137)).2 q132)).2 q127)).2 q122)).2 q117)).2 q112)).2 q107)).2 q102)).2 q97)).2 q92)).2 q87)).2 q82)).2 q77)).2 q72)).2 q67)).2 q62)).2 q57)).2 q52)).2 q47)).2 q42)).2 q37)).2 q32)).2 q27)).2 q22)).2 q19)).1 q14)) (fun r12 I10 L11 q13 => q13), fun q14 => ⟨fun q9 => sm_ci0 (((((((((((((((((((((((((((((((((((((((((((((((((((((((((((((h).2 q148)).2 q147)).2 q142)).2 q137)).2 q132)).2 q127)).2 q122)).2 q117)).2 q112)).2 q107)).2 q102)).2 q97)).2 q92)).2 q87)).2 q82)).2 q77)).2 q72)).2 q67)).2 q62)).2 q57)).2 q52)).2 q47)).2 q42)).2 q37)).2 q32)).2 q27)).2 q22)).2 q19)).2 q14)).1 q9)) (fun r7 I5 L6 q8 => q8), fun q9 => sm_ci0 (((((((((((((((((((((((((((((((((((((((((((((((((((((((((((((h).2 q148)).2 q147)).2 q142)).2 q137)).2 q132)).2 q127)).2 q122)).2 q117)).2 q112)).2 q107)).2 q102)).2 q97)).2 q92)).2 q87)).2 q82)).2 q77)).2 q72)).2 q67)).2 q62)).2 q57)).2 q52)).2 q47)).2 q42)).2 q37)).2 q32)).2 q27)).2 q22)).2 q19)).2 q14)).2 q9)) (fun r3 I1 L2 q4 => q4)⟩⟩⟩⟩⟩⟩⟩⟩⟩⟩⟩⟩⟩⟩⟩⟩⟩⟩⟩⟩⟩⟩⟩⟩⟩⟩⟩⟩⟩⟩)
theorem s12_X7_take_9 {S : sm_C} {d : Nat} {Φ : sm_Z → Prop} {I : sm_I} {L : sm_L} {R : sm_R} {x2 : Int32} (h : ((x2 = (9 : Int32) → sm_wp sm_P S (d + 1) 278 12 [] [.int (1 : Int32), .ref 12] (xLay, I, L, (kQ12 R)) (0, 0) Φ) ∧ (¬ x2 = (9 : Int32) → sm_wp sm_P S (d + 1) 278 12 [] [.int (0 : Int32), .ref 12] (xLay, I, L, (kQ12 R)) (0, 0) Φ))) : sm_wp sm_P S (d + 1) 278 9 [.ref 2, .int x2] [] (xLay, I, L, (kQ12 R)) (0, 0) Φ := sm_wp_step (⟨fun q1 => ((h).1 q1), fun q1 => ((h).2 q1)⟩)
theorem s12_X7_take_12 {S : sm_C} {d : Nat} {Φ : sm_Z → Prop} {I : sm_I} {L : sm_L} {R : sm_R} {s1 : Int32} (h : sm_wp sm_P S d 12 0 [.ref 12, .int s1] [] (xLay, I, L, (kQ12 R)) (0, 0) (fun z => ∃ (I1 : sm_I) (L2 : sm_L), z = (none, (xLay, I1, L2, (kQ12 R))) ∧ sm_wp sm_P S (d + 1) 278 13 [] [] (xLay, I1, L2, (kQ12 R)) (0, 0) Φ)) : sm_wp sm_P S (d + 1) 278 12 [] [.int s1, .ref 12] (xLay, I, L, (kQ12 R)) (0, 0) Φ := sm_wp_step (sm_cv0 (h) (fun I1 L2 q4 => q4))
theorem s12_X7_take_13 {S : sm_C} {d : Nat} {Φ : sm_Z → Prop} {I : sm_I} {L : sm_L} {R : sm_R} (h : Φ (some (.int (0 : Int32)), (xLay, I, L, (kQ12 R)))) : sm_wp sm_P S (d + 1) 278 13 [] [] (xLay, I, L, (kQ12 R)) (0, 0) Φ := sm_wp_step (h)
theorem s12_X7_meaningFault_0 {S : sm_C} {d : Nat} {Φ : sm_Z → Prop} {I : sm_I} {L : sm_L} {R : sm_R} (h : sm_wp sm_P S (d + 1) 274 1 [.ref 2, .int (0 : Int32), .int (0 : Int32)] [] (xLay, I, L, (kQ12 R)) (0, 0) Φ) : sm_wp sm_P S (d + 1) 274 0 [.ref 2] [] (xLay, I, L, (kQ12 R)) (0, 0) Φ := sm_wp_step (h)
theorem s12_X7_meaningFault_1 {S : sm_C} {d : Nat} {Φ : sm_Z → Prop} {I : sm_I} {L : sm_L} {R : sm_R} {x1 : Int32} {x2 : Int32} (h : (((I 3 3) ≤ x2 → Φ (some (.int (0 : Int32)), (xLay, I, L, (kQ12 R)))) ∧ (¬ (I 3 3) ≤ x2 → (vp_in x2 502) ∧ (((I 4 x2.toNatClampNeg) = (16 : Int32) → (vp_in x2 502) ∧ (((lg_cmp (L 6 x2.toNatClampNeg) (1440 : Int64)) ≤ 0 → (((0 : Int32) = 0 → (vp_in x2 502) ∧ sm_wp sm_P S d 278 0 [.ref 2, .int x1, .int (I 4 x2.toNatClampNeg), .long (L 6 x2.toNatClampNeg)] [] (xLay, I, L, (kQ12 R)) (0, 0) (fun z => ∃ (r8 : Int32) (I6 : sm_I) (L7 : sm_L), z = (some (.int r8), (xLay, I6, L7, (kQ12 R))) ∧ sm_wp sm_P S (d + 1) 274 8 [.ref 2, .int x1, .int x2, .int (I 4 x2.toNatClampNeg), .int r8] [] (xLay, I6, L7, (kQ12 R)) (0, 0) Φ)) ∧ (¬ (0 : Int32) = 0 → sm_wp sm_P S (d + 1) 274 8 [.ref 2, .int x1, .int x2, .int (I 4 x2.toNatClampNeg), .int (0 : Int32)] [] (xLay, I, L, (kQ12 R)) (0, 0) Φ))) ∧ (¬ (lg_cmp (L 6 x2.toNatClampNeg) (1440 : Int64)) ≤ 0 → (((5 : Int32) = 0 → (vp_in x2 502) ∧ sm_wp sm_P S d 278 0 [.ref 2, .int x1, .int (I 4 x2.toNatClampNeg), .long (L 6 x2.toNatClampNeg)] [] (xLay, I, L, (kQ12 R)) (0, 0) (fun z => ∃ (r13 : Int32) (I11 : sm_I) (L12 : sm_L), z = (some (.int r13), (xLay, I11, L12, (kQ12 R))) ∧ sm_wp sm_P S (d + 1) 274 8 [.ref 2, .int x1, .int x2, .int (I 4 x2.toNatClampNeg), .int r13] [] (xLay, I11, L12, (kQ12 R)) (0, 0) Φ)) ∧ (¬ (5 : Int32) = 0 → sm_wp sm_P S (d + 1) 274 8 [.ref 2, .int x1, .int x2, .int (I 4 x2.toNatClampNeg), .int (5 : Int32)] [] (xLay, I, L, (kQ12 R)) (0, 0) Φ))))) ∧ (¬ (I 4 x2.toNatClampNeg) = (16 : Int32) → (((0 : Int32) = 0 → (vp_in x2 502) ∧ sm_wp sm_P S d 278 0 [.ref 2, .int x1, .int (I 4 x2.toNatClampNeg), .long (L 6 x2.toNatClampNeg)] [] (xLay, I, L, (kQ12 R)) (0, 0) (fun z => ∃ (r3 : Int32) (I1 : sm_I) (L2 : sm_L), z = (some (.int r3), (xLay, I1, L2, (kQ12 R))) ∧ sm_wp sm_P S (d + 1) 274 8 [.ref 2, .int x1, .int x2, .int (I 4 x2.toNatClampNeg), .int r3] [] (xLay, I1, L2, (kQ12 R)) (0, 0) Φ)) ∧ (¬ (0 : Int32) = 0 → sm_wp sm_P S (d + 1) 274 8 [.ref 2, .int x1, .int x2, .int (I 4 x2.toNatClampNeg), .int (0 : Int32)] [] (xLay, I, L, (kQ12 R)) (0, 0) Φ))))))) : sm_wp sm_P S (d + 1) 274 1 [.ref 2, .int x1, .int x2] [] (xLay, I, L, (kQ12 R)) (0, 0) Φ := sm_wp_step (⟨fun q18 => ((h).1 q18), fun q18 => ⟨(((h).2 q18)).1, ⟨fun q17 => ⟨((((((h).2 q18)).2).1 q17)).1, ⟨fun q16 => ⟨fun q10 => ⟨(((((((((((h).2 q18)).2).1 q17)).2).1 q16)).1 q10)).1, sm_ci0 ((((((((((((h).2 q18)).2).1 q17)).2).1 q16)).1 q10)).2) (fun r8 I6 L7 q9 => q9)⟩, fun q10 => ((((((((((h).2 q18)).2).1 q17)).2).1 q16)).2 q10)⟩, fun q16 => ⟨fun q15 => ⟨(((((((((((h).2 q18)).2).1 q17)).2).2 q16)).1 q15)).1, sm_ci0 ((((((((((((h).2 q18)).2).1 q17)).2).2 q16)).1 q15)).2) (fun r13 I11 L12 q14 => q14)⟩, fun q15 => ((((((((((h).2 q18)).2).1 q17)).2).2 q16)).2 q15)⟩⟩⟩, fun q17 => ⟨fun q5 => ⟨((((((((h).2 q18)).2).2 q17)).1 q5)).1, sm_ci0 (((((((((h).2 q18)).2).2 q17)).1 q5)).2) (fun r3 I1 L2 q4 => q4)⟩, fun q5 => (((((((h).2 q18)).2).2 q17)).2 q5)⟩⟩⟩⟩)
theorem s12_X7_meaningFault_8 {S : sm_C} {d : Nat} {Φ : sm_Z → Prop} {I : sm_I} {L : sm_L} {R : sm_R} {x1 : Int32} {x2 : Int32} {x3 : Int32} {x4 : Int32} (h : ((x4 = 0 → sm_wp sm_P S d 241 0 [.int x1, .int x3] [] (xLay, I, L, (kQ12 R)) (0, 0) (fun z => ∃ (r3 : Int32) (I1 : sm_I) (L2 : sm_L), z = (some (.int r3), (xLay, I1, L2, (kQ12 R))) ∧ sm_wp sm_P S (d + 1) 274 1 [.ref 2, .int r3, .int (x2 + (1 : Int32))] [] (xLay, I1, L2, (kQ12 R)) (0, 0) Φ)) ∧ (¬ x4 = 0 → (vp_in x2 502) ∧ ∀ I5 : sm_I, I5 = (sm_up I 2 11 (I 5 x2.toNatClampNeg)) → Φ (some (.int x4), (xLay, I5, L, (kQ12 R)))))) : sm_wp sm_P S (d + 1) 274 8 [.ref 2, .int x1, .int x2, .int x3, .int x4] [] (xLay, I, L, (kQ12 R)) (0, 0) Φ := sm_wp_step (⟨fun q6 => sm_ci0 (((h).1 q6)) (fun r3 I1 L2 q4 => q4), fun q6 => ⟨(((h).2 q6)).1, ((((h).2 q6)).2 _ rfl)⟩⟩)
theorem s12_X10_isOpen_0 {S : sm_C} {d : Nat} {Φ : sm_Z → Prop} {I : sm_I} {L : sm_L} {R : sm_R} {x1 : Int32} (h : sm_wp sm_P S d 89 0 [.ref 18, .int x1, .int (-1 : Int32)] [] (xLay, I, L, (kQ12 R)) (0, 0) (fun z => ∃ (r3 : Int32) (I1 : sm_I) (L2 : sm_L), z = (some (.int r3), (xLay, I1, L2, (kQ12 R))) ∧ ((r3 = (-1 : Int32) → Φ (some (.int (0 : Int32)), (xLay, I1, L2, (kQ12 R)))) ∧ (¬ r3 = (-1 : Int32) → Φ (some (.int (1 : Int32)), (xLay, I1, L2, (kQ12 R))))))) : sm_wp sm_P S (d + 1) 21 0 [.ref 12, .int x1] [] (xLay, I, L, (kQ12 R)) (0, 0) Φ := sm_wp_step (sm_ci0 (h) (fun r3 I1 L2 q5 => ⟨fun q4 => ⟨Or.inl rfl, ((q5).1 q4)⟩, fun q4 => ⟨Or.inr rfl, ((q5).2 q4)⟩⟩))
theorem s12_X10_addSaying_0 {S : sm_C} {d : Nat} {Φ : sm_Z → Prop} {I : sm_I} {L : sm_L} {R : sm_R} {x1 : Int32} (h : (((I 12 3) < (10 : Int32) → ((x1 = 0 → (vp_in (I 12 3) 10) ∧ ∀ I1 : sm_I, I1 = (sm_up I 22 (I 12 3).toNatClampNeg (1 : Int32)) → (vp_in ((I1 12 3) * (4 : Int32)) 40) ∧ ∀ I2 : sm_I, I2 = (sm_up I1 23 ((I1 12 3) * (4 : Int32)).toNatClampNeg (1 : Int32)) → ∀ I3 : sm_I, I3 = (sm_up I2 12 3 ((I2 12 3) + (1 : Int32))) → Φ (none, (xLay, I3, L, (kQ12 R)))) ∧ (¬ x1 = 0 → ∀ n4 : Int32, n4 = ((I 12 6) ||| ((1 : Int32) <<< ((I 12 3) &&& 31))) → (vp_in ((sm_up I 12 6 n4) 12 3) 10) ∧ ∀ I5 : sm_I, I5 = (sm_up (sm_up I 12 6 n4) 22 ((sm_up I 12 6 n4) 12 3).toNatClampNeg (1 : Int32)) → (vp_in ((I5 12 3) * (4 : Int32)) 40) ∧ ∀ I6 : sm_I, I6 = (sm_up I5 23 ((I5 12 3) * (4 : Int32)).toNatClampNeg (1 : Int32)) → ∀ I7 : sm_I, I7 = (sm_up I6 12 3 ((I6 12 3) + (1 : Int32))) → Φ (none, (xLay, I7, L, (kQ12 R)))))) ∧ (¬ (I 12 3) < (10 : Int32) → Φ (none, (xLay, I, L, (kQ12 R)))))) : sm_wp sm_P S d 14 0 [.ref 12, .int x1] [] (xLay, I, L, (kQ12 R)) (0, 0) Φ := sm_wp_step (⟨fun q9 => ⟨fun q8 => ⟨(((((h).1 q9)).1 q8)).1, ⟨(((((((h).1 q9)).1 q8)).2 _ rfl)).1, (((((((((h).1 q9)).1 q8)).2 _ rfl)).2 _ rfl) _ rfl)⟩⟩, fun q8 => ⟨((((((h).1 q9)).2 q8) _ rfl)).1, ⟨((((((((h).1 q9)).2 q8) _ rfl)).2 _ rfl)).1, ((((((((((h).1 q9)).2 q8) _ rfl)).2 _ rfl)).2 _ rfl) _ rfl)⟩⟩⟩, fun q9 => ((h).2 q9)⟩)
theorem s12_X10_addPart_0 {S : sm_C} {d : Nat} {Φ : sm_Z → Prop} {I : sm_I} {L : sm_L} {R : sm_R} {x1 : Int32} (h : ((((I 12 3) - (1 : Int32)) < 0 → Φ (none, (xLay, I, L, (kQ12 R)))) ∧ (¬ ((I 12 3) - (1 : Int32)) < 0 → ((((I 12 3) - (1 : Int32)) < (10 : Int32) → ((x1 = 0 → sm_wp sm_P S d 12 6 [.ref 12, .int ((I 12 3) - (1 : Int32))] [] (xLay, I, L, (kQ12 R)) (0, 0) Φ) ∧ (¬ x1 = 0 → (vp_in ((I 12 3) - (1 : Int32)) 10) ∧ (((4 : Int32) ≤ (I 22 ((I 12 3) - (1 : Int32)).toNatClampNeg) → sm_wp sm_P S d 12 6 [.ref 12, .int ((I 12 3) - (1 : Int32))] [] (xLay, I, L, (kQ12 R)) (0, 0) Φ) ∧ (¬ (4 : Int32) ≤ (I 22 ((I 12 3) - (1 : Int32)).toNatClampNeg) → (vp_in ((I 12 3) - (1 : Int32)) 10) ∧ ∀ n1 : Int32, n1 = ((I 22 ((I 12 3) - (1 : Int32)).toNatClampNeg) + (1 : Int32)) → (vp_in ((I 12 3) - (1 : Int32)) 10) ∧ ∀ I2 : sm_I, I2 = (sm_up I 22 ((I 12 3) - (1 : Int32)).toNatClampNeg n1) → sm_wp sm_P S d 12 6 [.ref 12, .int ((I 12 3) - (1 : Int32))] [] (xLay, I2, L, (kQ12 R)) (0, 0) Φ))))) ∧ (¬ ((I 12 3) - (1 : Int32)) < (10 : Int32) → Φ (none, (xLay, I, L, (kQ12 R)))))))) : sm_wp sm_P S d 12 0 [.ref 12, .int x1] [] (xLay, I, L, (kQ12 R)) (0, 0) Φ := sm_wp_step (⟨fun q6 => ((h).1 q6), fun q6 => ⟨fun q5 => ⟨fun q4 => ((((((h).2 q6)).1 q5)).1 q4), fun q4 => ⟨(((((((h).2 q6)).1 q5)).2 q4)).1, ⟨fun q3 => (((((((((h).2 q6)).1 q5)).2 q4)).2).1 q3), fun q3 => ⟨((((((((((h).2 q6)).1 q5)).2 q4)).2).2 q3)).1, ⟨((((((((((((h).2 q6)).1 q5)).2 q4)).2).2 q3)).2 _ rfl)).1, (((((((((((((h).2 q6)).1 q5)).2 q4)).2).2 q3)).2 _ rfl)).2 _ rfl)⟩⟩⟩⟩⟩, fun q5 => ((((h).2 q6)).2 q5)⟩⟩)
theorem s12_X10_addPart_6 {S : sm_C} {d : Nat} {Φ : sm_Z → Prop} {I : sm_I} {L : sm_L} {R : sm_R} {x2 : Int32} (h : (vp_in x2 10) ∧ ∀ n1 : Int32, n1 = (((x2 * (4 : Int32)) + (I 22 x2.toNatClampNeg)) - (1 : Int32)) → ((n1 < 0 → sm_wp sm_P S d 12 10 [] [] (xLay, I, L, (kQ12 R)) (0, 0) Φ) ∧ (¬ n1 < 0 → (((Int32.ofNat 40) ≤ n1 → sm_wp sm_P S d 12 10 [] [] (xLay, I, L, (kQ12 R)) (0, 0) Φ) ∧ (¬ (Int32.ofNat 40) ≤ n1 → (vp_in n1 40) ∧ (((3 : Int32) ≤ (I 23 n1.toNatClampNeg) → sm_wp sm_P S d 12 10 [] [] (xLay, I, L, (kQ12 R)) (0, 0) Φ) ∧ (¬ (3 : Int32) ≤ (I 23 n1.toNatClampNeg) → (vp_in n1 40) ∧ ∀ n2 : Int32, n2 = ((I 23 n1.toNatClampNeg) + (1 : Int32)) → (vp_in n1 40) ∧ ∀ I3 : sm_I, I3 = (sm_up I 23 n1.toNatClampNeg n2) → sm_wp sm_P S d 12 10 [] [] (xLay, I3, L, (kQ12 R)) (0, 0) Φ))))))) : sm_wp sm_P S d 12 6 [.ref 12, .int x2] [] (xLay, I, L, (kQ12 R)) (0, 0) Φ := sm_wp_step (⟨(h).1, ⟨fun q6 => ((((h).2 _ rfl)).1 q6), fun q6 => ⟨fun q5 => ((((((h).2 _ rfl)).2 q6)).1 q5), fun q5 => ⟨(((((((h).2 _ rfl)).2 q6)).2 q5)).1, ⟨fun q4 => (((((((((h).2 _ rfl)).2 q6)).2 q5)).2).1 q4), fun q4 => ⟨((((((((((h).2 _ rfl)).2 q6)).2 q5)).2).2 q4)).1, ⟨((((((((((((h).2 _ rfl)).2 q6)).2 q5)).2).2 q4)).2 _ rfl)).1, (((((((((((((h).2 _ rfl)).2 q6)).2 q5)).2).2 q4)).2 _ rfl)).2 _ rfl)⟩⟩⟩⟩⟩⟩⟩)
theorem s12_X10_addPart_10 {S : sm_C} {d : Nat} {Φ : sm_Z → Prop} {I : sm_I} {L : sm_L} {R : sm_R} (h : Φ (none, (xLay, I, L, (kQ12 R)))) : sm_wp sm_P S d 12 10 [] [] (xLay, I, L, (kQ12 R)) (0, 0) Φ := sm_wp_step (h)
theorem s12_X10_trustLast_0 {S : sm_C} {d : Nat} {Φ : sm_Z → Prop} {I : sm_I} {L : sm_L} {R : sm_R} {x1 : Int32} (h : (((I 12 3) ≤ 0 → Φ (none, (xLay, I, L, (kQ12 R)))) ∧ (¬ (I 12 3) ≤ 0 → (((10 : Int32) < (I 12 3) → Φ (none, (xLay, I, L, (kQ12 R)))) ∧ (¬ (10 : Int32) < (I 12 3) → (vp_in ((I 12 3) - (1 : Int32)) 10) ∧ ∀ I1 : sm_I, I1 = (sm_up I 21 ((I 12 3) - (1 : Int32)).toNatClampNeg x1) → Φ (none, (xLay, I1, L, (kQ12 R)))))))) : sm_wp sm_P S d 25 0 [.ref 12, .int x1] [] (xLay, I, L, (kQ12 R)) (0, 0) Φ := sm_wp_step (⟨fun q3 => ((h).1 q3), fun q3 => ⟨fun q2 => ((((h).2 q3)).1 q2), fun q2 => ⟨(((((h).2 q3)).2 q2)).1, ((((((h).2 q3)).2 q2)).2 _ rfl)⟩⟩⟩)
theorem s12_X10_lastSpan_0 {S : sm_C} {d : Nat} {Φ : sm_Z → Prop} {I : sm_I} {L : sm_L} {R : sm_R} (h : sm_wp sm_P S d 89 0 [.ref 22, .int ((I 12 3) - (1 : Int32)), .int (0 : Int32)] [] (xLay, I, L, (kQ12 R)) (0, 0) (fun z => ∃ (r3 : Int32) (I1 : sm_I) (L2 : sm_L), z = (some (.int r3), (xLay, I1, L2, (kQ12 R))) ∧ sm_wp sm_P S d 19 0 [.ref 12, .int ((I 12 3) - (1 : Int32)), .int (r3 - (1 : Int32))] [] (xLay, I1, L2, (kQ12 R)) (0, 0) (fun z => ∃ (r6 : Int32) (I4 : sm_I) (L5 : sm_L), z = (some (.int r6), (xLay, I4, L5, (kQ12 R))) ∧ sm_wp sm_P S d 23 0 [.ref 12, .int ((I 12 3) - (1 : Int32)), .int (r3 - (1 : Int32))] [] (xLay, I4, L5, (kQ12 R)) (0, 0) (fun z => ∃ (r9 : Int32) (I7 : sm_I) (L8 : sm_L), z = (some (.int r9), (xLay, I7, L8, (kQ12 R))) ∧ Φ (some (.int ((r6 + r9) - (1 : Int32))), (xLay, I7, L8, (kQ12 R))))))) : sm_wp sm_P S (d + 1) 22 0 [.ref 12] [] (xLay, I, L, (kQ12 R)) (0, 0) Φ := sm_wp_step (sm_ci0 (h) (fun r3 I1 L2 q12 => sm_ci0 (q12) (fun r6 I4 L5 q11 => sm_ci0 (q11) (fun r9 I7 L8 q10 => q10))))
theorem s12_X10_firstSpan_0 {S : sm_C} {d : Nat} {Φ : sm_Z → Prop} {I : sm_I} {L : sm_L} {R : sm_R} {x1 : Int32} {x2 : Int32} (h : Φ (some (.int (((x1 * (4 : Int32)) + x2) * (3 : Int32))), (xLay, I, L, (kQ12 R)))) : sm_wp sm_P S d 19 0 [.ref 12, .int x1, .int x2] [] (xLay, I, L, (kQ12 R)) (0, 0) Φ := sm_wp_step (h)
theorem s12_X10_partsOf_0 {S : sm_C} {d : Nat} {Φ : sm_Z → Prop} {I : sm_I} {L : sm_L} {R : sm_R} {x1 : Int32} {x2 : Int32} (h : ((((x1 * (4 : Int32)) + x2) < 0 → Φ (some (.int (0 : Int32)), (xLay, I, L, (kQ12 R)))) ∧ (¬ ((x1 * (4 : Int32)) + x2) < 0 → (((Int32.ofNat 40) ≤ ((x1 * (4 : Int32)) + x2) → Φ (some (.int (0 : Int32)), (xLay, I, L, (kQ12 R)))) ∧ (¬ (Int32.ofNat 40) ≤ ((x1 * (4 : Int32)) + x2) → (vp_in ((x1 * (4 : Int32)) + x2) 40) ∧ Φ (some (.int (I 23 ((x1 * (4 : Int32)) + x2).toNatClampNeg)), (xLay, I, L, (kQ12 R)))))))) : sm_wp sm_P S d 23 0 [.ref 12, .int x1, .int x2] [] (xLay, I, L, (kQ12 R)) (0, 0) Φ := sm_wp_step (⟨fun q2 => ((h).1 q2), fun q2 => ⟨fun q1 => ((((h).2 q2)).1 q1), fun q1 => ⟨(((((h).2 q2)).2 q1)).1, (((((h).2 q2)).2 q1)).2⟩⟩⟩)
theorem s12_X10_putLastPerson_0 {S : sm_C} {d : Nat} {Φ : sm_Z → Prop} {I : sm_I} {L : sm_L} {R : sm_R} {x2 : Int32} (h : (((I 12 2) ≤ 0 → Φ (none, (xLay, I, L, (kQ12 R)))) ∧ (¬ (I 12 2) ≤ 0 → (((Int32.ofNat 10) < (I 12 2) → Φ (none, (xLay, I, L, (kQ12 R)))) ∧ (¬ (Int32.ofNat 10) < (I 12 2) → (vp_in ((I 12 2) - (1 : Int32)) 10) ∧ ∀ I1 : sm_I, I1 = (sm_up I 14 ((I 12 2) - (1 : Int32)).toNatClampNeg x2) → Φ (none, (xLay, I1, L, (kQ12 R)))))))) : sm_wp sm_P S d 24 0 [.ref 12, .ref 14, .int x2] [] (xLay, I, L, (kQ12 R)) (0, 0) Φ := sm_wp_step (⟨fun q3 => ((h).1 q3), fun q3 => ⟨fun q2 => ((((h).2 q3)).1 q2), fun q2 => ⟨(((((h).2 q3)).2 q2)).1, ((((((h).2 q3)).2 q2)).2 _ rfl)⟩⟩⟩)
theorem s12_X10_putLastPlace_0 {S : sm_C} {d : Nat} {Φ : sm_Z → Prop} {I : sm_I} {L : sm_L} {R : sm_R} {x2 : Int32} (h : (((I 12 2) ≤ 0 → Φ (none, (xLay, I, L, (kQ12 R)))) ∧ (¬ (I 12 2) ≤ 0 → (((Int32.ofNat 10) < (I 12 2) → Φ (none, (xLay, I, L, (kQ12 R)))) ∧ (¬ (Int32.ofNat 10) < (I 12 2) → (vp_in ((I 12 2) - (1 : Int32)) 10) ∧ ∀ I1 : sm_I, I1 = (sm_up I 15 ((I 12 2) - (1 : Int32)).toNatClampNeg x2) → Φ (none, (xLay, I1, L, (kQ12 R)))))))) : sm_wp sm_P S d 24 0 [.ref 12, .ref 15, .int x2] [] (xLay, I, L, (kQ12 R)) (0, 0) Φ := sm_wp_step (⟨fun q3 => ((h).1 q3), fun q3 => ⟨fun q2 => ((((h).2 q3)).1 q2), fun q2 => ⟨(((((h).2 q3)).2 q2)).1, ((((((h).2 q3)).2 q2)).2 _ rfl)⟩⟩⟩)
end
