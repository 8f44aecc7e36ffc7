/-! what no interval says: a net's area is the square of its nodes, and each of its nodes stands for one of them -/
def kl_net (I : Nat → Nat → Int32) (p q : Nat) : Prop := (I p 5).toInt = (I p 4).toInt * (I p 4).toInt ∧ ∀ i : Nat, (i : Int) < (I p 4).toInt → 0 ≤ (I q i).toInt ∧ (I q i).toInt < (I p 4).toInt
/-- the reference's words, as its constructor has reckoned them -/
def pk_key : List Int64 := [16998, 8740067, 16819, 400577, 411, 257, 13903, 389777, 423, 1111, 47, 31519426, 307058, 1253, 10998956]
def pk_ok (L : sm_L) : Prop := ∀ j : Nat, j < 15 → L 114 j = pk_key.getD j 0
theorem pk_cg {L L' : sm_L} (h : ∀ j, L' 114 j = L 114 j) (k : pk_ok L) : pk_ok L' := fun j hj => by rw [h]; exact k j hj
def klX (w : sm_W) : Prop := w.1 = xLay ∧ kl_net w.2.1 75 77 ∧ kl_net w.2.1 83 85 ∧ kl_net w.2.1 91 93 ∧ pk_ok w.2.2.1
theorem kl_up {α : Type} {f : Nat → Nat → α} {p j a b : Nat} {x : α} (h : en_fix kl_tb p j = false) (h2 : en_fix kl_tb a b = true) : sm_up f p j x a b = f a b := by
  unfold sm_up
  by_cases h3 : a = p
  · by_cases h4 : b = j
    · subst h3; subst h4; rw [h] at h2; exact absurd h2 (by decide)
    · simp [h3, h4]
  · simp [h3]
theorem kl_netU {I : Nat → Nat → Int32} {p j a b : Nat} {x : Int32} (h : en_fix kl_tb p j = false) (h4 : en_fix kl_tb a 4 = true) (h5 : en_fix kl_tb a 5 = true) (h6 : ∀ i, en_fix kl_tb b i = true) (hX : kl_net I a b) : kl_net (sm_up I p j x) a b := by
  refine ⟨?_, ?_⟩
  · rw [kl_up h h4, kl_up h h5]; exact hX.1
  · intro i hi
    rw [kl_up h h4] at hi ⊢
    rw [kl_up h (h6 i)]
    exact hX.2 i hi
theorem klX_ok : en_Xok kl_tb klX := by
  refine ⟨?_, ?_, ?_⟩
  · intro lay m p j x h hX
    exact ⟨hX.1, kl_netU h (by decide +kernel) (by decide +kernel) (fun _ => rfl) hX.2.1, kl_netU h (by decide +kernel) (by decide +kernel) (fun _ => rfl) hX.2.2.1, kl_netU h (by decide +kernel) (by decide +kernel) (fun _ => rfl) hX.2.2.2.1, hX.2.2.2.2⟩
  · intro lay m p j r h hX; exact hX
  · intro lay m p j y h hX; exact ⟨hX.1, hX.2.1, hX.2.2.1, hX.2.2.2.1, pk_cg (fun i => kl_up h rfl) hX.2.2.2.2⟩
