/-! WALKS: the pure table -/
def Fn (k : Nat) (N : Nat → Int) (i : Nat) : Int := if N (6 * (i / 6) + k) < 0 then N i else if N (6 * k + i % 6) < 0 then N i else if N i < 0 then N (6 * (i / 6) + k) + N (6 * k + i % 6) else if N (6 * (i / 6) + k) + N (6 * k + i % 6) < N i then N (6 * (i / 6) + k) + N (6 * k + i % 6) else N i
def Ft : Nat → (Nat → Int) → Nat → Int
  | 0, N => N
  | k + 1, N => Fn k (Ft k N)
/-- a table of ways: none is -1, a PLACE and itself 0 -/
def WB (B : Int) (N : Nat → Int) : Prop := (∀ i, i < 36 → -1 ≤ N i ∧ N i ≤ B) ∧ ∀ r, r < 6 → N (7 * r) = 0
theorem Fn_row {k r : Nat} {B : Int} {N : Nat → Int} (hk : k < 6) (h : WB B N) : Fn k N (6 * r + k) = N (6 * r + k) := by
  unfold Fn
  have e1 : (6 * r + k) / 6 = r := by omega
  have e2 : (6 * r + k) % 6 = k := by omega
  have e3 : N (6 * k + k) = 0 := by rw [show 6 * k + k = 7 * k by omega]; exact h.2 k hk
  rw [e1, e2, e3]
  repeat' split
  all_goals first
    | rfl
    | omega
theorem Fn_col {k c : Nat} {B : Int} {N : Nat → Int} (hk : k < 6) (hc : c < 6) (h : WB B N) : Fn k N (6 * k + c) = N (6 * k + c) := by
  unfold Fn
  have e1 : (6 * k + c) / 6 = k := by omega
  have e2 : (6 * k + c) % 6 = c := by omega
  have e3 : N (6 * k + k) = 0 := by rw [show 6 * k + k = 7 * k by omega]; exact h.2 k hk
  rw [e1, e2, e3]
  repeat' split
  all_goals first
    | rfl
    | omega
theorem WB_Fn {k : Nat} {B : Int} {N : Nat → Int} (hk : k < 6) (h : WB B N) (hB : 0 ≤ B) : WB (2 * B) (Fn k N) := by
  refine ⟨fun i hi => ?_, fun r hr => ?_⟩
  · have a := h.1 (6 * (i / 6) + k) (by omega)
    have b := h.1 (6 * k + i % 6) (by omega)
    have c := h.1 i hi
    unfold Fn
    split
    · omega
    · split
      · omega
      · split
        · omega
        · split
          · omega
          · omega
  · have a := h.1 (6 * (7 * r / 6) + k) (by omega)
    have b := h.1 (6 * k + 7 * r % 6) (by omega)
    have c := h.2 r hr
    unfold Fn
    rw [c]
    split
    · rfl
    · split
      · rfl
      · split
        · omega
        · split
          · omega
          · rfl
theorem WB_up {B C : Int} {N : Nat → Int} (h : WB B N) (hBC : B ≤ C) : WB C N := ⟨fun i hi => ⟨(h.1 i hi).1, Int.le_trans (h.1 i hi).2 hBC⟩, h.2⟩
theorem WB_Ft {N : Nat → Int} (h : WB 1440 N) : ∀ k, k ≤ 6 → WB (1440 * 2 ^ k) (Ft k N) := by
  intro k
  induction k with
  | zero => intro _; exact WB_up h (by decide)
  | succ k ih =>
    intro hk
    have g := WB_Fn (k := k) (by omega) (ih (by omega)) (Int.mul_nonneg (by decide) (Int.pow_nonneg (by decide)))
    refine WB_up g ?_
    rw [Int.pow_succ, Int.mul_comm (2 ^ k) 2, ← Int.mul_assoc, ← Int.mul_assoc, Int.mul_comm 2 1440]
    exact Int.le_refl _
theorem WB_F6 {N : Nat → Int} (h : WB 1440 N) (k : Nat) (hk : k ≤ 6) : WB 100000 (Ft k N) := WB_up (WB_Ft h k hk) (by
  rcases (by omega : k = 0 ∨ k = 1 ∨ k = 2 ∨ k = 3 ∨ k = 4 ∨ k = 5 ∨ k = 6) with e | e | e | e | e | e | e <;> subst e <;> decide)
/-- nothing leads from or to what is no PLACE -/
def WS (p : Nat) (N : Nat → Int) : Prop := (∀ a b, a < 6 → b < 6 → N (6 * a + b) = N (6 * b + a)) ∧ ∀ a b, a < 6 → b < 6 → a ≠ b → p ≤ a → N (6 * a + b) = -1
theorem WS_Fn {k p : Nat} {B : Int} {N : Nat → Int} (hk : k < 6) (h : WB B N) (g : WS p N) : WS p (Fn k N) := by
  have sym : ∀ a b, a < 6 → b < 6 → Fn k N (6 * a + b) = Fn k N (6 * b + a) := fun a b ha hb => by
    have e1 : (6 * a + b) / 6 = a := by omega
    have e2 : (6 * a + b) % 6 = b := by omega
    have e3 : (6 * b + a) / 6 = b := by omega
    have e4 : (6 * b + a) % 6 = a := by omega
    unfold Fn
    rw [e1, e2, e3, e4, g.1 a b ha hb, g.1 a k ha hk, g.1 k b hk hb, Int.add_comm (N (6 * k + a))]
    split <;> split <;> rfl
  refine ⟨sym, fun a b ha hb ab pa => ?_⟩
  have e1 : (6 * a + b) / 6 = a := by omega
  have e2 : (6 * a + b) % 6 = b := by omega
  by_cases c : a = k
  · rw [c, Fn_col (B := B) hk hb h, ← c]; exact g.2 a b ha hb ab pa
  · unfold Fn
    rw [e1, e2, g.2 a k ha hk c pa, if_pos (by decide)]
    exact g.2 a b ha hb ab pa
theorem Fn_out {k p : Nat} {B : Int} {N : Nat → Int} (hk : k < 6) (pk : p ≤ k) (h : WB B N) (g : WS p N) : ∀ i, i < 36 → Fn k N i = N i := fun i hi => by
  obtain ⟨a, b, ha, hb, e⟩ : ∃ a b, a < 6 ∧ b < 6 ∧ i = 6 * a + b := ⟨i / 6, i % 6, by omega, by omega, by omega⟩
  subst e
  have e1 : (6 * a + b) / 6 = a := by omega
  have e2 : (6 * a + b) % 6 = b := by omega
  by_cases c : a = k
  · rw [c]; exact Fn_col hk hb h
  · unfold Fn
    rw [e1, e2, g.1 a k ha hk, g.2 k a hk ha (fun q => c q.symm) pk, if_pos (by decide)]
theorem Fn_cg {k : Nat} {N N' : Nat → Int} (hk : k < 6) (h : ∀ i, i < 36 → N i = N' i) : ∀ i, i < 36 → Fn k N i = Fn k N' i := fun i hi => by
  unfold Fn
  rw [h i hi, h (6 * (i / 6) + k) (by omega), h (6 * k + i % 6) (by omega)]
theorem WS_Ft {p : Nat} {N : Nat → Int} (h : WB 1440 N) (g : WS p N) : ∀ k, k ≤ 6 → WS p (Ft k N) := by
  intro k
  induction k with
  | zero => intro _; exact g
  | succ k ih => intro hk; exact WS_Fn (by omega) (WB_F6 h k (by omega)) (ih (by omega))
/-- going on behind the last PLACE changes nothing -/
theorem Ft_out {p : Nat} {N : Nat → Int} (h : WB 1440 N) (g : WS p N) : ∀ m k, p ≤ k → k + m ≤ 6 → ∀ i, i < 36 → Ft (k + m) N i = Ft k N i := by
  intro m
  induction m with
  | zero => intro k _ _ i _; rfl
  | succ m ih =>
    intro k pk km i hi
    show Fn (k + m) (Ft (k + m) N) i = Ft k N i
    rw [Fn_out (k := k + m) (p := p) (by omega) (by omega) (WB_F6 h (k + m) (by omega)) (WS_Ft h g (k + m) (by omega)) i hi]
    exact ih k pk (by omega) i hi
def nv (x : Int32) : Int := if x.toInt < 0 then -1 else x.toInt
/-- ways -/
def wt (a : sg) : Prop := (∀ x y, x < 6 → y < 6 → a.1 13 (6 * x + y) = a.1 13 (6 * y + x)) ∧ (∀ x, x < 6 → a.1 13 (7 * x) = 0) ∧ (∀ x y : Nat, x < 6 → y < 6 → x ≠ y → (a.1 12 1).toInt ≤ x → a.1 13 (6 * x + y) = -2) ∧ ∀ i, i < 36 → a.1 13 i = -2 ∨ (0 ≤ (a.1 13 i).toInt ∧ (a.1 13 i).toInt ≤ 1440)
