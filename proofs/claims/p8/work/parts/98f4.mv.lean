/-! MOVES: the pure list -/
def mvc (ps pl : Nat → Int32) (a b : Nat) : Bool := (!decide (ps a = -1) && decide (ps a = ps b)) && !decide (pl a = pl b)
def mrow (c : Nat → Nat → Bool) (a : Nat) : Nat → List (Nat × Nat)
  | 0 => []
  | b + 1 => mrow c a b ++ (if (decide (a < b) && c a b) = true then [(a, b)] else [])
def mall (c : Nat → Nat → Bool) (T : Nat) : Nat → List (Nat × Nat)
  | 0 => []
  | a + 1 => mall c T a ++ mrow c a T
section
variable {c : Nat → Nat → Bool} {a T : Nat}
theorem mrow_0 : ∀ b, b ≤ a + 1 → mrow c a b = [] := by
  intro b
  induction b with
  | zero => intro _; rfl
  | succ b ih =>
    intro h
    show mrow c a b ++ (if (decide (a < b) && c a b) = true then [(a, b)] else []) = []
    rw [ih (by omega), if_neg (by rw [decide_eq_false (by omega)]; simp)]
    rfl
theorem mrow_s {b : Nat} (h : a < b) : mrow c a (b + 1) = mrow c a b ++ (if c a b = true then [(a, b)] else []) := by
  show mrow c a b ++ (if (decide (a < b) && c a b) = true then [(a, b)] else []) = _
  rw [decide_eq_true h, Bool.true_and]
theorem mrow_len : ∀ b, (mrow c a b).length ≤ b - (a + 1) := by
  intro b
  induction b with
  | zero => exact Nat.zero_le _
  | succ b ih =>
    by_cases h : a < b
    · rw [mrow_s h, List.length_append]
      split
      · show _ + 1 ≤ _
        omega
      · show _ + 0 ≤ _
        omega
    · rw [mrow_0 (b + 1) (by omega)]
      exact Nat.zero_le _
theorem mall_len (hT : T ≤ 10) : ∀ a, a ≤ 10 → (((mall c T a).length : Nat) : Int) ≤ ml_S a := by
  intro a
  induction a with
  | zero => intro _; exact Int.le_refl _
  | succ a ih =>
    intro h
    have i := ih (by omega)
    have s := ml_S_st a (by omega)
    have r := mrow_len (c := c) (a := a) T
    show (((mall c T a ++ mrow c a T).length : Nat) : Int) ≤ ml_S (a + 1)
    rw [List.length_append, s.1]
    omega
theorem mv_45 {b : Nat} (hT : T ≤ 10) (h : a < b) (hb : b < T) : (mall c T a ++ mrow c a b).length < 45 := by
  have i := mall_len (c := c) hT a (by omega)
  have s := ml_S_st a (by omega)
  have r := mrow_len (c := c) (a := a) b
  rw [List.length_append]
  omega
theorem gD_l {l m : List (Nat × Nat)} {j : Nat} (h : j < l.length) : (l ++ m).getD j (0, 0) = l.getD j (0, 0) := by
  rw [List.getD_eq_getElem?_getD, List.getD_eq_getElem?_getD, List.getElem?_append_left h]
theorem gD_n {l : List (Nat × Nat)} {x : Nat × Nat} : (l ++ [x]).getD l.length (0, 0) = x := by
  rw [List.getD_eq_getElem?_getD, List.getElem?_append_right (Nat.le_refl _)]
  simp
theorem mrow_b : ∀ b j, j < (mrow c a b).length → ((mrow c a b).getD j (0, 0)).1 = a ∧ a < ((mrow c a b).getD j (0, 0)).2 ∧ ((mrow c a b).getD j (0, 0)).2 < b ∧ c a ((mrow c a b).getD j (0, 0)).2 = true := by
  intro b
  induction b with
  | zero => intro j hj; exact absurd hj (Nat.not_lt_zero j)
  | succ b ih =>
    intro j hj
    by_cases h : a < b
    · rw [mrow_s h] at hj ⊢
      by_cases q : c a b = true
      · rw [if_pos q] at hj ⊢
        rw [List.length_append] at hj
        have hj : j < (mrow c a b).length + 1 := hj
        by_cases e : j < (mrow c a b).length
        · rw [gD_l e]
          obtain ⟨i1, i2, i3, i4⟩ := ih j e
          exact ⟨i1, i2, by omega, i4⟩
        · have e : j = (mrow c a b).length := by omega
          rw [e, gD_n]
          exact ⟨rfl, h, Nat.lt_succ_self b, q⟩
      · rw [if_neg q, List.append_nil] at hj ⊢
        obtain ⟨i1, i2, i3, i4⟩ := ih j hj
        exact ⟨i1, i2, by omega, i4⟩
    · rw [mrow_0 (b + 1) (by omega)] at hj
      exact absurd hj (Nat.not_lt_zero j)
/-- each MOVE is of two TIMES, the lesser ahead -/
theorem mall_b : ∀ n j, j < (mall c T n).length → ((mall c T n).getD j (0, 0)).1 < n ∧ ((mall c T n).getD j (0, 0)).1 < ((mall c T n).getD j (0, 0)).2 ∧ ((mall c T n).getD j (0, 0)).2 < T ∧ c ((mall c T n).getD j (0, 0)).1 ((mall c T n).getD j (0, 0)).2 = true := by
  intro n
  induction n with
  | zero => intro j hj; exact absurd hj (Nat.not_lt_zero j)
  | succ n ih =>
    intro j hj
    have hj : j < (mall c T n ++ mrow c n T).length := hj
    show ((mall c T n ++ mrow c n T).getD j (0, 0)).1 < n + 1 ∧ ((mall c T n ++ mrow c n T).getD j (0, 0)).1 < ((mall c T n ++ mrow c n T).getD j (0, 0)).2 ∧ ((mall c T n ++ mrow c n T).getD j (0, 0)).2 < T ∧ c ((mall c T n ++ mrow c n T).getD j (0, 0)).1 ((mall c T n ++ mrow c n T).getD j (0, 0)).2 = true
    by_cases e : j < (mall c T n).length
    · rw [gD_l e]
      obtain ⟨i1, i2, i3, i4⟩ := ih j e
      exact ⟨by omega, i2, i3, i4⟩
    · rw [List.length_append] at hj
      obtain ⟨i1, i2, i3, i4⟩ := mrow_b (c := c) (a := n) T (j - (mall c T n).length) (by omega)
      have g : (mall c T n ++ mrow c n T).getD j (0, 0) = (mrow c n T).getD (j - (mall c T n).length) (0, 0) := by
        rw [List.getD_eq_getElem?_getD, List.getD_eq_getElem?_getD, List.getElem?_append_right (by omega)]
      rw [g, i1]
      exact ⟨Nat.lt_succ_self n, i2, i3, i4⟩
theorem mrow_cg {c' : Nat → Nat → Bool} : ∀ b, (∀ i, i < b → c a i = c' a i) → mrow c a b = mrow c' a b := by
  intro b
  induction b with
  | zero => intro _; rfl
  | succ b ih =>
    intro h
    show mrow c a b ++ (if (decide (a < b) && c a b) = true then [(a, b)] else []) = mrow c' a b ++ (if (decide (a < b) && c' a b) = true then [(a, b)] else [])
    rw [ih (fun i hi => h i (by omega)), h b (by omega)]
theorem mall_cg {c' : Nat → Nat → Bool} : ∀ n, n ≤ T → (∀ i j, i < T → j < T → c i j = c' i j) → mall c T n = mall c' T n := by
  intro n
  induction n with
  | zero => intro _ _; rfl
  | succ n ih =>
    intro hn h
    show mall c T n ++ mrow c n T = mall c' T n ++ mrow c' n T
    rw [ih (by omega) h, mrow_cg T (fun i hi => h n i (by omega) hi)]
end
