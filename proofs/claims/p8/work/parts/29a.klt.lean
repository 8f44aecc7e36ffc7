/-! sums and products that fit, and worlds in which one cell has changed -/
theorem kl_add {x y : Int32} (h1 : -2147483648 ≤ x.toInt + y.toInt) (h2 : x.toInt + y.toInt ≤ 2147483647) : (x + y).toInt = x.toInt + y.toInt := by
  rw [Int32.toInt_add]; exact en_bmod h1 h2 (Or.inl rfl)
theorem kl_mul {x y : Int32} (h1 : -2147483648 ≤ x.toInt * y.toInt) (h2 : x.toInt * y.toInt ≤ 2147483647) : (x * y).toInt = x.toInt * y.toInt := by
  rw [Int32.toInt_mul]; exact en_bmod h1 h2 (Or.inl rfl)
theorem kl_lt {x y : Int32} : x < y ↔ x.toInt < y.toInt := Int32.lt_iff_toInt_lt
theorem kl_le {x y : Int32} : x ≤ y ↔ x.toInt ≤ y.toInt := Int32.le_iff_toInt_le
theorem kl_0 : (0 : Int32).toInt = 0 := by decide
theorem kl_1 : (1 : Int32).toInt = 1 := by decide
theorem kl_nat {i : Int32} (h : 0 ≤ i.toInt) : (i.toNatClampNeg : Int) = i.toInt := by
  show ((i.toInt.toNat : Nat) : Int) = i.toInt
  omega
theorem kl_in {i : Int32} {n : Nat} (h0 : 0 ≤ i.toInt) (h1 : i.toInt < n) : vp_in i n := by
  have h := kl_nat h0
  show ¬ (i < 0 ∨ n ≤ i.toNatClampNeg)
  rw [kl_lt, kl_0]
  omega
theorem kl_row {p N : Int} (h0 : 0 ≤ p) (h1 : p < N) : 0 ≤ p * N ∧ p * N + N ≤ N * N := by
  refine ⟨Int.mul_nonneg h0 (by omega), ?_⟩
  have h := Int.mul_le_mul_of_nonneg_right (show p + 1 ≤ N by omega) (show 0 ≤ N by omega)
  rw [Int.add_mul] at h; omega
theorem kl_sq {N : Int} (h0 : 1 ≤ N) (h1 : N ≤ 12) : 1 ≤ N * N ∧ N * N ≤ 144 ∧ N ≤ N * N := by
  have a := Int.mul_le_mul h1 h1 (by omega) (by omega)
  have b := Int.mul_le_mul h0 h0 (by omega) (by omega)
  have c := Int.mul_le_mul_of_nonneg_right h0 (show 0 ≤ N by omega)
  omega
theorem kl_pr {x A : Int} (h0 : 0 ≤ x) (h1 : x ≤ 1101) (a0 : 1 ≤ A) (a1 : A ≤ 144) : 0 ≤ x * A ∧ x * A ≤ 158544 := by
  have a := Int.mul_le_mul h1 a1 (by omega) (by omega)
  exact ⟨Int.mul_nonneg h0 (by omega), by omega⟩
theorem kl_lev {x A : Int32} (h0 : 0 ≤ x.toInt) (h1 : x.toInt ≤ 1101) (a0 : 1 ≤ A.toInt) (a1 : A.toInt ≤ 144) : (x * A).toInt = x.toInt * A.toInt ∧ ((x + 1) * A).toInt = x.toInt * A.toInt + A.toInt ∧ (x + 1).toInt = x.toInt + 1 := by
  have p := kl_pr h0 h1 a0 a1
  have s : (x + 1).toInt = x.toInt + 1 := by rw [kl_add (by rw [kl_1]; omega) (by rw [kl_1]; omega), kl_1]
  have m : (x.toInt + 1) * A.toInt = x.toInt * A.toInt + A.toInt := by rw [Int.add_mul]; omega
  refine ⟨kl_mul (by omega) (by omega), ?_, s⟩
  rw [kl_mul (by rw [s, m]; omega) (by rw [s, m]; omega), s, m]
/-- a net's numbers -/
def kl_nb (I : sm_I) (p : Nat) : Prop := 1 ≤ (I p 4).toInt ∧ (I p 4).toInt ≤ 12 ∧ (I p 5).toInt = (I p 4).toInt * (I p 4).toInt
theorem kl_nbA {I : sm_I} {p : Nat} (h : kl_nb I p) : 1 ≤ (I p 5).toInt ∧ (I p 5).toInt ≤ 144 ∧ (I p 4).toInt ≤ (I p 5).toInt := by
  have q := kl_sq h.1 h.2.1
  rw [h.2.2]; exact q
/-- nothing else than one cell -/
def kl_only (a : Nat) (I I' : sm_I) : Prop := ∀ c j, c ≠ a → I' c j = I c j
theorem kl_only_rf {a : Nat} {I : sm_I} : kl_only a I I := fun _ _ _ => rfl
theorem kl_only_tr {a : Nat} {I I1 I2 : sm_I} (h1 : kl_only a I I1) (h2 : kl_only a I1 I2) : kl_only a I I2 := fun c j h => (h2 c j h).trans (h1 c j h)
theorem kl_only_up {a j : Nat} {x : Int32} {I : sm_I} : kl_only a I (sm_up I a j x) := fun c k h => by unfold sm_up; rw [if_neg h]
theorem kl_only_row {a : Nat} {g : Nat → Int32} {I : sm_I} : kl_only a I (sm_row I a g) := fun c k h => by unfold sm_row; simp [h]
theorem kl_only_nb {a p : Nat} {I I' : sm_I} (h : kl_only a I I') (ha : p ≠ a) (hn : kl_nb I p) : kl_nb I' p := by
  unfold kl_nb; rw [h p 4 ha, h p 5 ha]; exact hn
/-- a cell of any numbers may change -/
theorem kl_net_cg {I I' : sm_I} {p q : Nat} (h4 : I' p 4 = I p 4) (h5 : I' p 5 = I p 5) (h6 : ∀ i, I' q i = I q i) (h : kl_net I p q) : kl_net I' p q := by
  refine ⟨by rw [h4, h5]; exact h.1, ?_⟩
  intro i hi
  rw [h4] at hi ⊢
  rw [h6]; exact h.2 i hi
theorem kl_mem_only {a : Nat} {lay : List (Nat × Nat)} {I I' : sm_I} {L L' : sm_L} {R : sm_R} (hm : en_mem kl_tb klX (lay, I, L, R)) (ho : kl_only a I I') (ha : ∀ j q, en_int kl_tb a j = some q → q = (-2147483648, 2147483647)) (hn : 75 ≠ a ∧ 77 ≠ a ∧ 83 ≠ a ∧ 85 ≠ a ∧ 91 ≠ a ∧ 93 ≠ a) (hL : ∀ j, L' 114 j = L 114 j := by intro _; rfl) : en_mem kl_tb klX (lay, I', L', R) := by
  refine ⟨hm.1, ?_, hm.2.2.1, hm.2.2.2.1, hm.2.2.2.2.1, ?_, ?_, ?_, pk_cg hL hm.2.2.2.2.2.2.2.2⟩
  · intro p j q hq
    by_cases e : p = a
    · subst e; rw [ha j q hq]; exact en_crange
    · have := hm.2.1 p j q hq
      show q.1 ≤ (I' p j).toInt ∧ (I' p j).toInt ≤ q.2
      rw [ho p j e]; exact this
  · exact kl_net_cg (ho _ _ hn.1) (ho _ _ hn.1) (fun _ => ho _ _ hn.2.1) hm.2.2.2.2.2.1
  · exact kl_net_cg (ho _ _ hn.2.2.1) (ho _ _ hn.2.2.1) (fun _ => ho _ _ hn.2.2.2.1) hm.2.2.2.2.2.2.1
  · exact kl_net_cg (ho _ _ hn.2.2.2.2.1) (ho _ _ hn.2.2.2.2.1) (fun _ => ho _ _ hn.2.2.2.2.2) hm.2.2.2.2.2.2.2.1
theorem kl_fr_only {a : Nat} {lay : List (Nat × Nat)} {I I' : sm_I} {L L' : sm_L} {R : sm_R} (ho : kl_only a I I') : en_fr [(a, [])] (lay, I, L, R) (lay, I', L', R) := by
  refine ⟨rfl, fun p j h => ⟨?_, rfl⟩⟩
  refine ho p j (fun e => ?_)
  subst e
  have : en_wok [(p, [])] p j = true := by simp [en_wok]
  rw [this] at h; cases h
