/-! names: both codings tell the same names apart -/
def nc (B : Nat) (g : Int32 → Nat) (b : Nat → Int32) (p : Nat) : Nat → Nat
  | 0 => 0
  | k + 1 => B * nc B g b p k + g (b (p + k))
theorem nc_inj {B : Nat} {g : Int32 → Nat} {b b' : Nat → Int32} {p p' : Nat} : ∀ (k k' : Nat), (∀ i, i < k → 1 ≤ g (b (p + i)) ∧ g (b (p + i)) < B) → (∀ i, i < k' → 1 ≤ g (b' (p' + i)) ∧ g (b' (p' + i)) < B) → nc B g b p k = nc B g b' p' k' → k = k' ∧ ∀ i, i < k → g (b (p + i)) = g (b' (p' + i)) := by
  intro k
  induction k with
  | zero =>
    intro k' _ h2 h
    cases k' with
    | zero => exact ⟨rfl, fun i hi => absurd hi (Nat.not_lt_zero i)⟩
    | succ k' =>
      have h : 0 = B * nc B g b' p' k' + g (b' (p' + k')) := h
      have := h2 k' (Nat.lt_succ_self _)
      omega
  | succ k ih =>
    intro k' h1 h2 h
    cases k' with
    | zero =>
      have h : B * nc B g b p k + g (b (p + k)) = 0 := h
      have := h1 k (Nat.lt_succ_self _)
      omega
    | succ k' =>
      have h : B * nc B g b p k + g (b (p + k)) = B * nc B g b' p' k' + g (b' (p' + k')) := h
      have a := h1 k (Nat.lt_succ_self _)
      have a' := h2 k' (Nat.lt_succ_self _)
      have m1 : (B * nc B g b p k + g (b (p + k))) % B = g (b (p + k)) := by rw [Nat.mul_add_mod, Nat.mod_eq_of_lt a.2]
      have m2 : (B * nc B g b' p' k' + g (b' (p' + k'))) % B = g (b' (p' + k')) := by rw [Nat.mul_add_mod, Nat.mod_eq_of_lt a'.2]
      have d1 : (B * nc B g b p k + g (b (p + k))) / B = nc B g b p k := by rw [Nat.mul_add_div (by omega), Nat.div_eq_of_lt a.2]; rfl
      have d2 : (B * nc B g b' p' k' + g (b' (p' + k'))) / B = nc B g b' p' k' := by rw [Nat.mul_add_div (by omega), Nat.div_eq_of_lt a'.2]; rfl
      have e : g (b (p + k)) = g (b' (p' + k')) := by rw [← m1, ← m2, h]
      have e2 : nc B g b p k = nc B g b' p' k' := by rw [← d1, ← d2, h]
      obtain ⟨q1, q2⟩ := ih k' (fun i hi => h1 i (by omega)) (fun i hi => h2 i (by omega)) e2
      subst q1
      refine ⟨rfl, fun i hi => ?_⟩
      by_cases c : i = k
      · subst c; exact e
      · exact q2 i (by omega)
theorem nc_lt {B D : Nat} {g : Int32 → Nat} {b : Nat → Int32} {p : Nat} (hD : D ≤ B) : ∀ k : Nat, (∀ i, i < k + 1 → g (b (p + i)) < D) → nc B g b p (k + 1) < D * B ^ k := by
  intro k
  induction k with
  | zero =>
    intro h
    have := h 0 (by omega)
    show B * 0 + g (b (p + 0)) < D * B ^ 0
    rw [Nat.pow_zero]; omega
  | succ k ih =>
    intro h
    have q := ih (fun i hi => h i (by omega))
    have r := h (k + 1) (by omega)
    show B * nc B g b p (k + 1) + g (b (p + (k + 1))) < D * B ^ (k + 1)
    have e : D * B ^ (k + 1) = B * (D * B ^ k) := by rw [Nat.pow_succ]; rw [← Nat.mul_assoc, Nat.mul_comm]
    rw [e]
    have z : B * (nc B g b p (k + 1) + 1) ≤ B * (D * B ^ k) := Nat.mul_le_mul_left B q
    rw [Nat.mul_add] at z
    omega
theorem tk_cd_cg {f : Int64 → Int32 → Int64} {b b' : Nat → Int32} {p p' : Nat} : ∀ k : Nat, (∀ i, i < k → b (p + i) = b' (p' + i)) → tk_cd f b p k = tk_cd f b' p' k := by
  intro k
  induction k with
  | zero => intro _; rfl
  | succ k ih =>
    intro h
    show f (tk_cd f b p k) (b (p + k)) = f (tk_cd f b' p' k) (b' (p' + k))
    rw [ih (fun i hi => h i (by omega)), h k (by omega)]
/-- k letters from p on -/
def nm_L (b : Nat → Int32) (p k : Nat) : Prop := ∀ i, i < k → 97 ≤ (b (p + i)).toInt ∧ (b (p + i)).toInt ≤ 122
def nm_g8 (x : Int32) : Nat := x.toInt.toNat
def nm_g27 (x : Int32) : Nat := x.toInt.toNat - 96
theorem nm_up {x y : Int32} (hx : 97 ≤ x.toInt) (hy : 97 ≤ y.toInt) (h : nm_g8 x = nm_g8 y ∨ nm_g27 x = nm_g27 y) : x = y := by
  unfold nm_g8 nm_g27 at h
  exact en_ofI (by omega)
theorem l64 {x y : Int64} (h1 : -9223372036854775808 ≤ x.toInt + y.toInt) (h2 : x.toInt + y.toInt ≤ 9223372036854775807) : (x + y).toInt = x.toInt + y.toInt := by
  rw [Int64.toInt_add, Int.bmod_eq_of_le] <;> omega
theorem l64m {x y : Int64} (h1 : -9223372036854775808 ≤ x.toInt * y.toInt) (h2 : x.toInt * y.toInt ≤ 9223372036854775807) : (x * y).toInt = x.toInt * y.toInt := by
  rw [Int64.toInt_mul, Int.bmod_eq_of_le] <;> omega
theorem nm_27 {b : Nat → Int32} {p : Nat} : ∀ k : Nat, k ≤ 8 → nm_L b p k → (tk_cd mt_f27 b p k).toInt = (nc 27 nm_g27 b p k : Nat) := by
  intro k
  induction k with
  | zero => intro _ _; rfl
  | succ k ih =>
    intro h8 hL
    have q := ih (by omega) (fun i hi => hL i (by omega))
    have r := hL k (by omega)
    have lt : nc 27 nm_g27 b p k < 27 ^ 8 := by
      cases k with
      | zero => show 0 < 27 ^ 8; decide
      | succ k =>
        have := nc_lt (B := 27) (D := 27) (g := nm_g27) (b := b) (p := p) (Nat.le_refl _) k (fun i hi => by have := hL i (by omega); unfold nm_g27; omega)
        have w : 27 * 27 ^ k ≤ 27 ^ 8 := by rw [← Nat.pow_succ']; exact Nat.pow_le_pow_right (by decide) (by omega)
        omega
    have p8 : (27 : Nat) ^ 8 = 282429536481 := by decide
    rw [p8] at lt
    have c97 : (97 : Int32).toInt = 97 := by decide
    have c1 : (1 : Int32).toInt = 1 := by decide
    have d1 : (b (p + k) - 97).toInt = (b (p + k)).toInt - 97 := by
      rw [Int32.toInt_sub, c97]; exact en_bmod (by omega) (by omega) (Or.inl rfl)
    have d2 : ((b (p + k) - 97) + 1).toInt = (b (p + k)).toInt - 96 := by
      rw [kl_add (by rw [d1, c1]; omega) (by rw [d1, c1]; omega), d1, c1]; omega
    have d3 : (((b (p + k) - 97) + 1).toInt64).toInt = (b (p + k)).toInt - 96 := by rw [Int32.toInt_toInt64, d2]
    have c27 : (27 : Int64).toInt = 27 := by decide
    have m : ((27 : Int64) * tk_cd mt_f27 b p k).toInt = 27 * (nc 27 nm_g27 b p k : Nat) := by
      rw [l64m (by rw [c27, q]; omega) (by rw [c27, q]; omega), c27, q]
    show (((27 : Int64) * tk_cd mt_f27 b p k) + ((b (p + k) - 97) + 1).toInt64).toInt = ((27 * nc 27 nm_g27 b p k + nm_g27 (b (p + k)) : Nat) : Int)
    rw [l64 (by rw [m, d3]; omega) (by rw [m, d3]; omega), m, d3]
    unfold nm_g27
    omega
