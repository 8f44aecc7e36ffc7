/-! what no interval says of the reference: which items are listed; on the side that is told, a person has a place and a span a TIME; the powers of 3; persons and places among the names -/
def mlV (I : sm_I) (l : Nat) : Prop := (∀ i : Nat, (i : Int) < (I 122 l).toInt → (I 123 (10 * l + i)).toInt ≠ -1 → 0 ≤ (I 124 (10 * l + i)).toInt) ∧ (∀ s c i : Nat, (s : Int) < (I 125 l).toInt → (c : Int) < (I 128 (10 * l + s)).toInt → (i : Int) < (I 129 (4 * (10 * l + s) + c)).toInt → 0 ≤ (I 130 (3 * (4 * (10 * l + s) + c) + i)).toInt)
def mlP (I : sm_I) : Prop := I 165 0 = 1 ∧ I 165 1 = 3 ∧ I 165 2 = 9 ∧ I 165 3 = 27 ∧ I 165 4 = 81 ∧ I 165 5 = 243
def mlN (I : sm_I) : Prop := ∀ j : Nat, j < 50 → ((I 116 j).toInt = 0 → (I 117 j).toInt ≤ 3) ∧ ((I 116 j).toInt = 1 → (I 117 j).toInt ≤ 5)
def mlX (w : sm_W) : Prop := w.1 = xLay ∧ (∀ j : Nat, j < 70 → (w.2.1 148 j).toInt ≤ 54 ∨ 60 ≤ (w.2.1 148 j).toInt) ∧ (∀ l : Nat, (l : Int) = (w.2.1 107 18).toInt → mlV w.2.1 l) ∧ mlP w.2.1 ∧ mlN w.2.1 ∧ pk_ok w.2.2.1
theorem mlV_cg {I I' : sm_I} {l : Nat} (h : ∀ p, p = 122 ∨ p = 123 ∨ p = 124 ∨ p = 125 ∨ p = 128 ∨ p = 129 ∨ p = 130 → ∀ j, I' p j = I p j) (hV : mlV I l) : mlV I' l := by
  refine ⟨fun i h1 h2 => ?_, fun s c i h1 h2 h3 => ?_⟩
  · rw [h 122 (by decide)] at h1; rw [h 123 (by decide)] at h2; rw [h 124 (by decide)]
    exact hV.1 i h1 h2
  · rw [h 125 (by decide)] at h1; rw [h 128 (by decide)] at h2; rw [h 129 (by decide)] at h3; rw [h 130 (by decide)]
    exact hV.2 s c i h1 h2 h3
theorem mlP_cg {I I' : sm_I} (h : ∀ j, I' 165 j = I 165 j) (hP : mlP I) : mlP I' := by
  unfold mlP; rw [h 0, h 1, h 2, h 3, h 4, h 5]; exact hP
theorem mlN_cg {I I' : sm_I} (h1 : ∀ j, I' 116 j = I 116 j) (h2 : ∀ j, I' 117 j = I 117 j) (hN : mlN I) : mlN I' := fun j hj => by rw [h1, h2]; exact hN j hj
theorem ml_cg {lay : List (Nat × Nat)} {I I' : sm_I} {L L' : sm_L} {R R' : sm_R} (h18 : I' 107 18 = I 107 18) (h : ∀ p, p = 116 ∨ p = 117 ∨ p = 122 ∨ p = 123 ∨ p = 124 ∨ p = 125 ∨ p = 128 ∨ p = 129 ∨ p = 130 ∨ p = 148 ∨ p = 165 → ∀ j, I' p j = I p j) (hX : mlX (lay, I, L, R)) (hL : ∀ j, L' 114 j = L 114 j := by intro _; rfl) : mlX (lay, I', L', R') := by
  refine ⟨hX.1, fun j hj => ?_, fun l hl => mlV_cg (I := I) (fun p hp => h p (by omega)) (hX.2.2.1 l ?_), mlP_cg (h 165 (by decide)) hX.2.2.2.1, mlN_cg (h 116 (by decide)) (h 117 (by decide)) hX.2.2.2.2.1, pk_cg hL hX.2.2.2.2.2⟩
  · show (I' 148 j).toInt ≤ 54 ∨ 60 ≤ (I' 148 j).toInt
    rw [h 148 (by decide)]; exact hX.2.1 j hj
  · have hl : (l : Int) = (I' 107 18).toInt := hl
    rw [h18] at hl; exact hl
theorem ml_up {α : Type} {f : Nat → Nat → α} {p j a b : Nat} {x : α} (h : en_fix ml_tb p j = false) (h2 : en_fix ml_tb a b = true) : sm_up f p j x a b = f a b := by
  refine en_up_ne _ _ _ _ (fun e => ?_)
  rw [e.1, e.2, h] at h2; cases h2
theorem mlX_ok : en_Xok ml_tb mlX := by
  refine ⟨?_, ?_, ?_⟩
  · intro lay m p j x h hX
    refine ml_cg (ml_up h (by decide +kernel)) (fun q hq i => ?_) hX
    rcases hq with e | e | e | e | e | e | e | e | e | e | e <;> subst e <;> exact ml_up h rfl
  · intro lay m p j r h hX; exact ml_cg rfl (fun _ _ _ => rfl) hX
  · intro lay m p j y h hX; exact ml_cg rfl (fun _ _ _ => rfl) hX (fun i => ml_up h rfl)
