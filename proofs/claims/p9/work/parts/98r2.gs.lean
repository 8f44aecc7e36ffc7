/-! the class's constraints, for any told (Q) and going (G) (wip/pe/mkg2.py) -/
def khd (G : Nat) (I : sm_I) (c : tC) : tC := if c.1 = c.2.1 then c else ((I (G + 3) c.1).toNatClampNeg, (I (G + 3) c.2.1).toNatClampNeg, c.2.2 - (I (G + 5) c.1).toInt + (I (G + 4) c.2.1).toInt)
def ksC (Q : Nat) (I : sm_I) (f : tC → tC) (p : Nat) (g : Int) : List tC := bC f (nd (I (Q + 13) p)) (nd (I (Q + 14) p)) ((I (Q + 15) p).toInt - g) ((I (Q + 16) p).toInt + g)
def ksL (Q : Nat) (I : sm_I) (f : tC → tC) (g : Int) (p : Nat) : Nat → List tC
  | 0 => []
  | m + 1 => ksC Q I f (p + m) g ++ ksL Q I f g p m
def kspk (Q : Nat) (I : sm_I) (n p : Nat) : Prop := p < 120 ∧ (0 ≤ (I (Q + 13) p).toInt ∧ (I (Q + 13) p).toInt + 1 < n) ∧ (-1 ≤ (I (Q + 14) p).toInt ∧ (I (Q + 14) p).toInt + 1 < n) ∧ (-1440 ≤ (I (Q + 15) p).toInt ∧ (I (Q + 15) p).toInt ≤ 1440) ∧ (-1440 ≤ (I (Q + 16) p).toInt ∧ (I (Q + 16) p).toInt ≤ 1440)
def kgv (G : Nat) (I : sm_I) (s : Nat) : Int := ((((I G 7) >>> (Int32.ofNat s &&& 31)) &&& (1 : Int32)) * (I G 8)).toInt
def kcd (Q : Nat) (I : sm_I) (s : Nat) : Nat := if s < 10 then (I (Q + 10) s).toNatClampNeg else if (I (Q + 24) (s - 100)).toInt < 0 then 0 else 2
def kcc (Q G : Nat) (I : sm_I) (f : tC → tC) (s c : Nat) : List tC := if s < 10 then ksL Q I f (kgv G I s) (3 * (4 * s + c)) (I (Q + 11) (4 * s + c)).toNatClampNeg else mvC f (nd (I (Q + 22) (s - 100))) (nd (I (Q + 23) (s - 100))) (I (Q + 24) (s - 100)).toInt c
def kcv (Q G : Nat) (I : sm_I) (f : tC → tC) (s c : Nat) : List tC := if c < kcd Q I s then kcc Q G I f s c else []
def kiok (Q G : Nat) (I : sm_I) (n s : Nat) : Prop := (s < 10 ∧ (0 ≤ (I (Q + 10) s).toInt ∧ (I (Q + 10) s).toInt ≤ 4) ∧ (0 ≤ kgv G I s ∧ kgv G I s ≤ 5000) ∧ ∀ c, c < (I (Q + 10) s).toNatClampNeg → (0 ≤ (I (Q + 11) (4 * s + c)).toInt ∧ (I (Q + 11) (4 * s + c)).toInt ≤ 3) ∧ ∀ i, i < (I (Q + 11) (4 * s + c)).toNatClampNeg → kspk Q I n (3 * (4 * s + c) + i)) ∨ ((100 ≤ s ∧ s < 145) ∧ (0 ≤ (I (Q + 24) (s - 100)).toInt → (0 ≤ (I (Q + 22) (s - 100)).toInt ∧ (I (Q + 22) (s - 100)).toInt + 1 < n) ∧ (0 ≤ (I (Q + 23) (s - 100)).toInt ∧ (I (Q + 23) (s - 100)).toInt + 1 < n) ∧ (I (Q + 24) (s - 100)).toInt ≤ 100000))
theorem ksL_le {Q : Nat} {I : sm_I} {f : tC → tC} {g : Int} {p : Nat} {c : tC} : ∀ m m', m ≤ m' → c ∈ ksL Q I f g p m → c ∈ ksL Q I f g p m' := by
  intro m m' h hc
  obtain ⟨k, rfl⟩ : ∃ k, m' = m + k := ⟨m' - m, by omega⟩
  clear h
  induction k with
  | zero => exact hc
  | succ k ih => exact List.mem_append.mpr (Or.inr ih)
theorem ksL_fr {Q : Nat} {I J : sm_I} (f : tC → tC) (g : Int) (p : Nat) (h : ∀ c j, Q + 13 ≤ c → c ≤ Q + 16 → J c j = I c j) : ∀ m, ksL Q J f g p m = ksL Q I f g p m := by
  intro m
  induction m with
  | zero => rfl
  | succ m ih =>
    show ksC Q J f (p + m) g ++ ksL Q J f g p m = ksC Q I f (p + m) g ++ ksL Q I f g p m
    unfold ksC
    rw [ih, h (Q + 13) _ (by omega) (by omega), h (Q + 14) _ (by omega) (by omega), h (Q + 15) _ (by omega) (by omega), h (Q + 16) _ (by omega) (by omega)]
/-- what holds always -/
def kopC (Q : Nat) (I : sm_I) (f : tC → tC) (t : Nat) : List tC := if I (Q + 6) t = -1 then [] else bC f (t + 1) (nd (I (Q + 6) t)) (I (Q + 7) t).toInt (I (Q + 8) t).toInt
def kopL (Q : Nat) (I : sm_I) (f : tC → tC) : Nat → List tC
  | 0 => []
  | m + 1 => kopC Q I f m ++ kopL Q I f m
def kmoL (I : sm_I) (f : tC → tC) : Nat → List tC
  | 0 => []
  | m + 1 => bC f (nd (I 41 m)) (nd (I 42 m)) (I 43 m).toInt (I 44 m).toInt ++ kmoL I f m
def kbaC (Q : Nat) (I : sm_I) (f : tC → tC) : List tC := kmoL I f (I 37 1).toNatClampNeg ++ kopL Q I f (I Q 2).toNatClampNeg
def kopk (Q : Nat) (I : sm_I) (n t : Nat) : Prop := I (Q + 6) t ≠ -1 → (0 ≤ (I (Q + 6) t).toInt ∧ (I (Q + 6) t).toInt + 1 < n) ∧ (-1440 ≤ (I (Q + 7) t).toInt ∧ (I (Q + 7) t).toInt ≤ 1440) ∧ (-1440 ≤ (I (Q + 8) t).toInt ∧ (I (Q + 8) t).toInt ≤ 1440)
def kmok (I : sm_I) (n k : Nat) : Prop := (0 ≤ (I 41 k).toInt ∧ (I 41 k).toInt + 1 < n) ∧ (-1 ≤ (I 42 k).toInt ∧ (I 42 k).toInt + 1 < n) ∧ (-1440 ≤ (I 43 k).toInt ∧ (I 43 k).toInt ≤ 1440) ∧ (-1440 ≤ (I 44 k).toInt ∧ (I 44 k).toInt ≤ 1440)
theorem kopL_le {Q : Nat} {I : sm_I} {f : tC → tC} {c : tC} : ∀ m m', m ≤ m' → c ∈ kopL Q I f m → c ∈ kopL Q I f m' := by
  intro m m' h hc
  obtain ⟨k, rfl⟩ : ∃ k, m' = m + k := ⟨m' - m, by omega⟩
  clear h
  induction k with
  | zero => exact hc
  | succ k ih => exact List.mem_append.mpr (Or.inr ih)
theorem kmoL_le {I : sm_I} {f : tC → tC} {c : tC} : ∀ m m', m ≤ m' → c ∈ kmoL I f m → c ∈ kmoL I f m' := by
  intro m m' h hc
  obtain ⟨k, rfl⟩ : ∃ k, m' = m + k := ⟨m' - m, by omega⟩
  clear h
  induction k with
  | zero => exact hc
  | succ k ih => exact List.mem_append.mpr (Or.inr ih)
/-- the ITEMS -/
def kitL (set : Int32) (s m : Nat) : List Nat := sL set s ++ mL 100 m
def kyM (G : Nat) (I : sm_I) (ys : List Nat) : Prop := (I G 11).toInt = ys.length ∧ ∀ k, k < ys.length → I (G + 6) k = Int32.ofNat (ys.getD k 0)
theorem kitL_len {set : Int32} {s m : Nat} : (kitL set s m).length ≤ s + m := by
  unfold kitL
  rw [List.length_append, mL_len]
  have a := sL_len set s
  omega
theorem kitL_in {set : Int32} {s m : Nat} {k : Nat} (h : k < (kitL set s m).length) : (kitL set s m).getD k 0 < s ∨ (100 ≤ (kitL set s m).getD k 0 ∧ (kitL set s m).getD k 0 < 100 + m) := by
  have e : (kitL set s m).getD k 0 = (kitL set s m)[k] := by rw [List.getD_eq_getElem?_getD, List.getElem?_eq_getElem h]; rfl
  have mem : (kitL set s m)[k] ∈ kitL set s m := List.getElem_mem h
  rw [e]
  rcases List.mem_append.mp mem with mem | mem
  · exact Or.inl (sL_in _ _ _ mem)
  · exact Or.inr (mL_in _ _ _ mem)
