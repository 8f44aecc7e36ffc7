/-! what no interval says of the reference: which items are listed; on the side that is told, a person has a place and a span a TIME -/
def mlX (w : sm_W) : Prop := w.1 = xLay ∧ (∀ j : Nat, (w.2.1 148 j).toInt ≤ 54 ∨ 60 ≤ (w.2.1 148 j).toInt) ∧ (∀ l : Nat, (l : Int) = (w.2.1 107 18).toInt → (∀ i : Nat, (i : Int) < (w.2.1 122 l).toInt → (w.2.1 123 (10 * l + i)).toInt ≠ -1 → 0 ≤ (w.2.1 124 (10 * l + i)).toInt) ∧ (∀ s c i : Nat, (s : Int) < (w.2.1 125 l).toInt → (c : Int) < (w.2.1 128 (10 * l + s)).toInt → (i : Int) < (w.2.1 129 (4 * (10 * l + s) + c)).toInt → 0 ≤ (w.2.1 130 (3 * (4 * (10 * l + s) + c) + i)).toInt))
theorem ml_cg {lay : List (Nat × Nat)} {I I' : sm_I} {L L' : sm_L} {R R' : sm_R} (h18 : I' 107 18 = I 107 18) (h : ∀ p, p = 122 ∨ p = 123 ∨ p = 124 ∨ p = 125 ∨ p = 128 ∨ p = 129 ∨ p = 130 ∨ p = 148 → ∀ j, I' p j = I p j) (hX : mlX (lay, I, L, R)) : mlX (lay, I', L', R') := by
  refine ⟨hX.1, fun j => ?_, fun l hl => ⟨fun i h1 h2 => ?_, fun s c i h1 h2 h3 => ?_⟩⟩
  · show (I' 148 j).toInt ≤ 54 ∨ 60 ≤ (I' 148 j).toInt
    rw [h 148 (by decide)]; exact hX.2.1 j
  · have hl : (l : Int) = (I' 107 18).toInt := hl
    have h1 : (i : Int) < (I' 122 l).toInt := h1
    have h2 : (I' 123 (10 * l + i)).toInt ≠ -1 := h2
    show 0 ≤ (I' 124 (10 * l + i)).toInt
    rw [h18] at hl; rw [h 122 (by decide)] at h1; rw [h 123 (by decide)] at h2; rw [h 124 (by decide)]
    exact (hX.2.2 l hl).1 i h1 h2
  · have hl : (l : Int) = (I' 107 18).toInt := hl
    have h1 : (s : Int) < (I' 125 l).toInt := h1
    have h2 : (c : Int) < (I' 128 (10 * l + s)).toInt := h2
    have h3 : (i : Int) < (I' 129 (4 * (10 * l + s) + c)).toInt := h3
    show 0 ≤ (I' 130 (3 * (4 * (10 * l + s) + c) + i)).toInt
    rw [h18] at hl; rw [h 125 (by decide)] at h1; rw [h 128 (by decide)] at h2; rw [h 129 (by decide)] at h3; rw [h 130 (by decide)]
    exact (hX.2.2 l hl).2 s c i h1 h2 h3
theorem ml_up {α : Type} {f : Nat → Nat → α} {p j a b : Nat} {x : α} (h : en_fix ml_tb p j = false) (h2 : en_fix ml_tb a b = true) : sm_up f p j x a b = f a b := by
  refine en_up_ne _ _ _ _ (fun e => ?_)
  rw [e.1, e.2, h] at h2; cases h2
theorem mlX_ok : en_Xok ml_tb mlX := by
  refine ⟨?_, ?_, ?_⟩
  · intro lay m p j x h hX
    refine ml_cg (ml_up h (by decide +kernel)) (fun q hq i => ?_) hX
    rcases hq with e | e | e | e | e | e | e | e <;> subst e <;> exact ml_up h rfl
  · intro lay m p j r h hX; exact ml_cg rfl (fun _ _ _ => rfl) hX
  · intro lay m p j y h hX; exact ml_cg rfl (fun _ _ _ => rfl) hX
