/-! the class's read: what it answers -/
def RDk (b : Nat → Int32) (n : Nat) (a0 : sg) (r : Int32) (J : sm_I) : Prop := ini a0 ∧ (∀ f j, SY (tk_K b n) 501 0 0 gc0 = some (f, j) → r = f ∧ f ≠ 0 ∧ (J 2 11).toInt = tk_at b n j) ∧ (SY (tk_K b n) 501 0 0 gc0 = none → (∀ f j, (ME (tk_K b n) (fun i => tk_vl b n (tk_at b n i)) 501 0 0 a0).1 = some (f, j) → r = f ∧ f ≠ 0 ∧ (J 2 11).toInt = tk_at b n j) ∧ ((ME (tk_K b n) (fun i => tk_vl b n (tk_at b n i)) 501 0 0 a0).1 = none → r = 0))
theorem kpr9 {o : Option Value} (h : en_pr (9, 0, 0) o) : o = none := by
  cases o with
  | none => rfl
  | some v =>
    exfalso
    rcases h with q1 | ⟨q1, -⟩
    · cases v with
      | int r => have q1 : (9 : Nat) = 0 := q1.1; omega
      | long _ => have q1 : (9 : Nat) = 5 := q1; omega
      | null => have q1 : (9 : Nat) = 1 := q1; omega
      | ref p => have q1 : (9 : Nat) = 2 := q1.1; omega
      | float _ => exact q1.elim
      | double _ => exact q1.elim
      | retAddr _ => exact q1.elim
    · have q1 : (9 : Nat) = 3 := q1
      omega
theorem SY_le {K : Nat → Int32} {c : Nat} (hc : K c = 21) : ∀ (m t : Nat) (s : Int32) (g : gc), t ≤ c → ∀ f j, SY K m t s g = some (f, j) → j ≤ c := by
  intro m
  induction m with
  | zero => intro t s g ht f j q; cases q
  | succ m ih =>
    intro t s g ht f j q
    have q : (if gf s (K t) t g = 0 then (if K t = 21 then none else SY K m (t + 1) (fw s (K t)) (gc_st s (K t) g)) else some (gf s (K t) t g, t)) = some (f, j) := q
    by_cases c0 : gf s (K t) t g = 0
    · rw [if_pos c0] at q
      by_cases c1 : K t = 21
      · rw [if_pos c1] at q; cases q
      · rw [if_neg c1] at q
        have : t ≠ c := fun y => c1 (by rw [y]; exact hc)
        exact ih (t + 1) _ _ (by omega) f j q
    · rw [if_neg c0] at q
      have : t = j := congrArg Prod.snd (Option.some.inj q)
      omega
