/-! THE LAW: what its invariant says, and what each call keeps of it -/
def lkC (p j : Nat) : Prop := (p = 0 ∧ (j = 10 ∨ j = 11)) ∨ p = 1 ∨ (12 ≤ p ∧ p < 40) ∨ (41 ≤ p ∧ p ≤ 44) ∨ (49 ≤ p ∧ p < 74)
def lkM (p j : Nat) : Prop := (p = 107 ∧ (j = 2 ∨ j = 17 ∨ j = 18 ∨ j = 46 ∨ j = 54)) ∨ p = 108 ∨ (118 ≤ p ∧ p ≤ 142) ∨ (144 ≤ p ∧ p ≤ 147) ∨ p = 160
/-- walks and moves are the same -/
def wkr (x y : Int32) : Prop := (x = -2 ∧ y = -1) ∨ (0 ≤ y.toInt ∧ y.toInt ≤ 100000 ∧ x = y)
def wmE (qt l : Nat) (I : sm_I) : Prop := (∀ x y : Nat, (x : Int) < (I 119 l).toInt → (y : Int) < (I 119 l).toInt → wkr (I (qt + 1) (6 * x + y)) (I 139 (6 * x + y))) ∧ I qt 5 = I 107 46 ∧ ∀ j : Nat, (j : Int) < (I 107 46).toInt → I (qt + 22) j = I 140 j ∧ I (qt + 23) j = I 141 j ∧ wkr (I (qt + 24) j) (I 142 j) ∧ 0 ≤ (I 140 j).toInt ∧ (I 140 j).toInt < (I 141 j).toInt ∧ (I 141 j).toInt < (I 122 l).toInt
/-- what is told is the same -/
def tdE (qt l : Nat) (I : sm_I) : Prop := (∃ a : sg, (∀ c j, 12 ≤ c → c < 34 → c ≠ 13 → ¬ (c = 12 ∧ j = 5) → I (c + (qt - 12)) j = a.1 c j) ∧ TDw l a I) ∧ wmE qt l I
/-- what is DOUBTED, SET, MORE is the same -/
def hdE (I : sm_I) : Prop := (∀ k, k < 10 → (I 37 0).toBitVec.getLsbD k = !decide (I 137 k = 0)) ∧ (∀ k, k < 10 → I 38 k = I 138 k) ∧ I 37 1 = I 107 54 ∧ (∀ i : Nat, i < 6 → (i : Int) < (I 37 1).toInt → I 41 i = I 144 i ∧ I 42 i = I 145 i ∧ I 43 i = I 146 i ∧ I 44 i = I 147 i) ∧ ∀ k, k < 55 → I 39 k = I 160 k
def tpE (I : sm_I) : Prop := I 0 10 = I 107 2 ∧ (∀ j : Nat, (j : Int) < (I 0 10).toInt → I 1 j = I 108 j) ∧ I 0 11 = I 107 17
def rfE (qt qi l : Nat) (I : sm_I) (R : sm_R) : Prop := ((qt = 12 ∧ qi = 49) ∨ (qt = 49 ∧ qi = 12)) ∧ l ≤ 1 ∧ R 0 9 = some qt ∧ R 2 6 = some qi ∧ (I 107 18).toInt = l
def LJ (I : sm_I) (R : sm_R) : Prop := tpE I ∧ hdE I ∧ ∃ qt qi l : Nat, rfE qt qi l I R ∧ tdE qt l I
theorem tpE_cg {I I' : sm_I} (h : ∀ p j, (p = 0 ∧ (j = 10 ∨ j = 11)) ∨ p = 1 ∨ (p = 107 ∧ (j = 2 ∨ j = 17)) ∨ p = 108 → I' p j = I p j) (k : tpE I) : tpE I' := by
  obtain ⟨k1, k2, k3⟩ := k
  refine ⟨by rw [h 0 10 (by omega), h 107 2 (by omega)]; exact k1, fun j hj => ?_, by rw [h 0 11 (by omega), h 107 17 (by omega)]; exact k3⟩
  rw [h 0 10 (by omega)] at hj
  rw [h 1 j (by omega), h 108 j (by omega)]
  exact k2 j hj
theorem hdE_cg {I I' : sm_I} (h : ∀ p j, (p = 37 ∨ p = 38 ∨ p = 39 ∨ (41 ≤ p ∧ p ≤ 44)) ∨ (p = 107 ∧ j = 54) ∨ p = 137 ∨ p = 138 ∨ (144 ≤ p ∧ p ≤ 147) ∨ p = 160 → I' p j = I p j) (k : hdE I) : hdE I' := by
  obtain ⟨k1, k2, k3, k4, k5⟩ := k
  refine ⟨fun k hk => by rw [h 37 0 (by omega), h 137 k (by omega)]; exact k1 k hk, fun k hk => by rw [h 38 k (by omega), h 138 k (by omega)]; exact k2 k hk, by rw [h 37 1 (by omega), h 107 54 (by omega)]; exact k3, fun i hi hj => ?_, fun k hk => by rw [h 39 k (by omega), h 160 k (by omega)]; exact k5 k hk⟩
  rw [h 37 1 (by omega)] at hj
  rw [h 41 i (by omega), h 42 i (by omega), h 43 i (by omega), h 44 i (by omega), h 144 i (by omega), h 145 i (by omega), h 146 i (by omega), h 147 i (by omega)]
  exact k4 i hi hj
theorem wmE_cg {qt l : Nat} {I I' : sm_I} (h : ∀ p j, p = qt + 1 ∨ (p = qt ∧ j = 5) ∨ (qt + 22 ≤ p ∧ p ≤ qt + 24) ∨ ((p = 119 ∨ p = 122) ∧ j = l) ∨ (139 ≤ p ∧ p ≤ 142) ∨ (p = 107 ∧ j = 46) → I' p j = I p j) (k : wmE qt l I) : wmE qt l I' := by
  obtain ⟨k1, k2, k3⟩ := k
  refine ⟨fun x y hx hy => ?_, by rw [h qt 5 (by omega), h 107 46 (by omega)]; exact k2, fun j hj => ?_⟩
  · rw [h 119 l (by omega)] at hx hy
    rw [h (qt + 1) _ (by omega), h 139 _ (by omega)]; exact k1 x y hx hy
  · rw [h 107 46 (by omega)] at hj
    rw [h (qt + 22) j (by omega), h (qt + 23) j (by omega), h (qt + 24) j (by omega), h 140 j (by omega), h 141 j (by omega), h 142 j (by omega), h 122 l (by omega)]
    exact k3 j hj
theorem tdE_cg {qt l : Nat} {I I' : sm_I} (hq : qt = 12 ∨ qt = 49) (h : ∀ p j, (12 ≤ p ∧ p < 37) ∨ (49 ≤ p ∧ p < 74) ∨ (118 ≤ p ∧ p ≤ 136) ∨ (139 ≤ p ∧ p ≤ 142) ∨ (p = 107 ∧ j = 46) → I' p j = I p j) (k : tdE qt l I) : tdE qt l I' := by
  obtain ⟨⟨a, k1, k2⟩, k3⟩ := k
  exact ⟨⟨a, fun c j p1 p2 p3 p4 => by rw [h _ j (by omega)]; exact k1 c j p1 p2 p3 p4, TDw_cg (fun p j p1 p2 => h p j (by omega)) k2⟩, wmE_cg (fun p j q => h p j (by omega)) k3⟩
theorem LJ_cg {I I' : sm_I} {R R' : sm_R} (h : ∀ p j, lkC p j ∨ lkM p j → I' p j = I p j) (r1 : R' 0 9 = R 0 9) (r2 : R' 2 6 = R 2 6) (k : LJ I R) : LJ I' R' := by
  obtain ⟨k1, k2, qt, qi, l, ⟨e1, e2, e3, e4, e5⟩, k3⟩ := k
  refine ⟨tpE_cg (fun p j q => h p j (by unfold lkC lkM; omega)) k1, hdE_cg (fun p j q => h p j (by unfold lkC lkM; omega)) k2, qt, qi, l, ⟨e1, e2, r1.trans e3, r2.trans e4, by rw [h 107 18 (by unfold lkC lkM; omega)]; exact e5⟩, tdE_cg (by omega) (fun p j q => h p j (by unfold lkC lkM; omega)) k3⟩
