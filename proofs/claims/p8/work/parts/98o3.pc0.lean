/-! the first of a list; when a MOVE breaks; what is picked (wip/pe/mkb3.py) -/
def FS (n : Nat) (P : Nat → Prop) (v : Int32) : Prop := (∃ j, j < n ∧ P j ∧ (∀ i, i < j → ¬ P i) ∧ v = Int32.ofNat j) ∨ ((∀ j, j < n → ¬ P j) ∧ v = -2)
theorem FS_fun {n : Nat} {P : Nat → Prop} {v w : Int32} (h : FS n P v) (g : FS n P w) : v = w := by
  rcases h with ⟨j, j1, j2, j3, e⟩ | ⟨j1, e⟩
  · rcases g with ⟨k, k1, k2, k3, f⟩ | ⟨k1, f⟩
    · rcases Nat.lt_trichotomy j k with u | u | u
      · exact absurd j2 (k3 j u)
      · rw [e, f, u]
      · exact absurd k2 (j3 k u)
    · exact absurd j2 (k1 j j1)
  · rcases g with ⟨k, k1, k2, k3, f⟩ | ⟨k1, f⟩
    · exact absurd k2 (j1 k k1)
    · rw [e, f]
theorem FS_cg {n : Nat} {P P' : Nat → Prop} {v : Int32} (e : ∀ j, j < n → (P j ↔ P' j)) (h : FS n P v) : FS n P' v := by
  rcases h with ⟨j, j1, j2, j3, e1⟩ | ⟨j1, e1⟩
  · exact Or.inl ⟨j, j1, (e j j1).mp j2, fun i hi q => j3 i hi ((e i (by omega)).mpr q), e1⟩
  · exact Or.inr ⟨fun j hj q => j1 j hj ((e j hj).mpr q), e1⟩
def bq (h f t w : Nat → Int32) (nw : Int32 → Prop) (j : Nat) : Prop := h (f j).toNatClampNeg ≠ -1 ∧ h (t j).toNatClampNeg ≠ -1 ∧ (nw (w j) ∨ ((h (f j).toNatClampNeg).toInt - (h (t j).toNatClampNeg).toInt < (w j).toInt ∧ (h (t j).toNatClampNeg).toInt - (h (f j).toNatClampNeg).toInt < (w j).toInt))
theorem ab_i {a b : Int32} (a0 : 0 ≤ a.toInt) (a1 : a.toInt ≤ 1440) (b0 : 0 ≤ b.toInt) (b1 : b.toInt ≤ 1440) : (if 0 ≤ (a - b) then (a - b) else 0 - (a - b)).toInt = if b.toInt ≤ a.toInt then a.toInt - b.toInt else b.toInt - a.toInt := by
  have s : (a - b).toInt = a.toInt - b.toInt := by rw [Int32.toInt_sub]; exact en_bmod (by omega) (by omega) (Or.inl rfl)
  have s0 : (0 - (a - b)).toInt = b.toInt - a.toInt := by rw [Int32.toInt_sub, s, kl_0]; exact en_bmod (by omega) (by omega) (Or.inl (by omega))
  by_cases c : (0 : Int32) ≤ a - b
  · have c' := kl_le.mp c
    rw [kl_0, s] at c'
    rw [if_pos c, s, if_pos (by omega)]
  · have c' := kl_nle c
    rw [kl_0, s] at c'
    rw [if_neg c, s0, if_neg (by omega)]
theorem sub100 {x : Int32} : (x - 100).toInt = x.toInt - 100 ∨ (x.toInt < -2147483548 ∧ (x - 100).toInt = x.toInt + 4294967196) := by
  have a := Int32.le_toInt x
  have b := Int32.toInt_lt x
  have c : (100 : Int32).toInt = 100 := by decide
  rcases Int.lt_or_le x.toInt (-2147483548) with u | u
  · right
    refine ⟨u, ?_⟩
    rw [Int32.toInt_sub, c]
    exact en_bmod (by omega) (by omega) (Or.inr (Or.inl (by omega)))
  · left
    rw [Int32.toInt_sub, c]
    exact en_bmod (by omega) (by omega) (Or.inl rfl)
def pks (qt : Nat) (I : sm_I) (x : Int32) (s : Nat) (ch : Int) : Prop := (0 ≤ x.toInt ∧ x.toInt < (I qt 3).toInt ∧ ((I 37 0) >>> (x &&& 31)) &&& (1 : Int32) = 0 ∧ x.toInt = s ∧ ch = (I (qt + 10) s).toInt) ∨ (100 ≤ x.toInt ∧ x.toInt < 100 + (I qt 5).toInt ∧ x.toInt = s + 90 ∧ ch = if 0 ≤ (I (qt + 24) (s - 10)).toInt then 2 else 0)
def pkm (l : Nat) (I : sm_I) (x : Int32) (s : Nat) (ch : Int) : Prop := (0 ≤ x.toInt ∧ x.toInt < (I 125 l).toInt ∧ I 137 s = 0 ∧ x.toInt = s ∧ ch = (I 128 (10 * l + s)).toInt) ∨ (100 ≤ x.toInt ∧ x.toInt < 100 + (I 107 46).toInt ∧ x.toInt = s + 90 ∧ ch = if I 142 (s - 10) = -1 then 0 else 2)
theorem pks_fun {qt s s' : Nat} {I : sm_I} {x : Int32} {ch ch' : Int} (h3 : (I qt 3).toInt ≤ 10) (h : pks qt I x s ch) (g : pks qt I x s' ch') : s' = s ∧ ch' = ch := by
  rcases h with ⟨a1, a2, a3, a4, a5⟩ | ⟨a1, a2, a3, a4⟩
  · rcases g with ⟨b1, b2, b3, b4, b5⟩ | ⟨b1, b2, b3, b4⟩
    · have e : s' = s := by omega
      subst e
      exact ⟨rfl, by rw [a5, b5]⟩
    · omega
  · rcases g with ⟨b1, b2, b3, b4, b5⟩ | ⟨b1, b2, b3, b4⟩
    · omega
    · have e : s' = s := by omega
      subst e
      exact ⟨rfl, by rw [a4, b4]⟩
theorem bst_cg {h h' : Nat → Int32} {x y : Int32} (e : ∀ k, k < 10 → h k = h' k) (hx : 0 ≤ x.toInt ∧ x.toInt ≤ 9) (hy : -1 ≤ y.toInt ∧ y.toInt ≤ 9) : (bst h x y ↔ bst h' x y) ∧ ∀ a b, (bhd h x y a b ↔ bhd h' x y a b) := by
  have nx := kl_nat hx.1
  have ex := e x.toNatClampNeg (by omega)
  by_cases c : y = -1
  · refine ⟨?_, fun a b => ?_⟩
    · unfold bst
      rw [ex]
      exact ⟨fun q => ⟨q.1, Or.inl c⟩, fun q => ⟨q.1, Or.inl c⟩⟩
    · unfold bhd
      rw [ex, if_pos c, if_pos c]
  · have ny := kl_nat (i := y) (by
      have : y.toInt ≠ -1 := fun q => c (en_ofI (by rw [q]; decide))
      omega)
    have ey := e y.toNatClampNeg (by omega)
    refine ⟨?_, fun a b => ?_⟩
    · unfold bst
      rw [ex, ey]
    · unfold bhd
      rw [ex, ey]
