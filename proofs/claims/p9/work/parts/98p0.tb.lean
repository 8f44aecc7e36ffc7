/-! TABLES: by how much each may be behind each other at most; the greatest one under what is asked -/
def tcl (n : Nat) (D : Nat → Nat → Int) : Prop := (∀ i, i < n → D i i = 0) ∧ ∀ i j k, i < n → j < n → k < n → D i k ≤ D i j + D j k
def tD0 (i j : Nat) : Int := if i = 0 ∨ i = j then 0 else 1440
abbrev tC : Type := Nat × Nat × Int
def tok (n : Nat) (C : List tC) (E : Nat → Nat → Int) : Prop := tcl n E ∧ (∀ i j, i < n → j < n → E i j ≤ tD0 i j) ∧ ∀ c, c ∈ C → c.1 < n → c.2.1 < n → E c.1 c.2.1 ≤ c.2.2
def ttop (n : Nat) (C : List tC) (D : Nat → Nat → Int) : Prop := tok n C D ∧ ∀ E, tok n C E → ∀ i j, i < n → j < n → E i j ≤ D i j
def tno (n : Nat) (C : List tC) : Prop := ∀ E, ¬ tok n C E
theorem ttop_fun {n : Nat} {C : List tC} {D D' : Nat → Nat → Int} (h : ttop n C D) (g : ttop n C D') : ∀ i j, i < n → j < n → D i j = D' i j := fun i j hi hj => Int.le_antisymm (g.2 D h.1 i j hi hj) (h.2 D' g.1 i j hi hj)
theorem tok_cg {n : Nat} {C C' : List tC} {E : Nat → Nat → Int} (e : ∀ c, c ∈ C' → c ∈ C) (h : tok n C E) : tok n C' E := ⟨h.1, h.2.1, fun c hc => h.2.2 c (e c hc)⟩
theorem ttop_cg {n : Nat} {C C' : List tC} {D : Nat → Nat → Int} (e : ∀ c, c ∈ C ↔ c ∈ C') (h : ttop n C D) : ttop n C' D := ⟨tok_cg (fun c hc => (e c).mpr hc) h.1, fun E g => h.2 E (tok_cg (fun c hc => (e c).mp hc) g)⟩
theorem tno_cg {n : Nat} {C C' : List tC} (e : ∀ c, c ∈ C → c ∈ C') (h : tno n C) : tno n C' := fun E g => h E (tok_cg e g)
theorem tok_eq {n : Nat} {C : List tC} {E E' : Nat → Nat → Int} (e : ∀ i j, i < n → j < n → E i j = E' i j) (h : tok n C E) : tok n C E' := by
  obtain ⟨⟨h1, h2⟩, h3, h4⟩ := h
  exact ⟨⟨fun i hi => by rw [← e i i hi hi]; exact h1 i hi, fun i j k hi hj hk => by rw [← e i k hi hk, ← e i j hi hj, ← e j k hj hk]; exact h2 i j k hi hj hk⟩, fun i j hi hj => by rw [← e i j hi hj]; exact h3 i j hi hj, fun c hc c1 c2 => by rw [← e _ _ c1 c2]; exact h4 c hc c1 c2⟩
theorem ttop_eq {n : Nat} {C : List tC} {D D' : Nat → Nat → Int} (e : ∀ i j, i < n → j < n → D i j = D' i j) (h : ttop n C D) : ttop n C D' := ⟨tok_eq e h.1, fun E g i j hi hj => by rw [← e i j hi hj]; exact h.2 E g i j hi hj⟩
theorem ttop_b {n : Nat} {C : List tC} {D : Nat → Nat → Int} (h : ttop n C D) : ∀ i j, i < n → j < n → -1440 ≤ D i j ∧ D i j ≤ 1440 := by
  obtain ⟨⟨⟨h1, h2⟩, h3, -⟩, -⟩ := h
  have u : ∀ i j, i < n → j < n → D i j ≤ 1440 := fun i j hi hj => by
    have := h3 i j hi hj
    unfold tD0 at this
    split at this <;> omega
  intro i j hi hj
  have a := h2 i j i hi hj hi
  have b := u j i hj hi
  have c := h1 i hi
  exact ⟨by omega, u i j hi hj⟩
theorem t_0 (n : Nat) : ttop n [] tD0 := by
  refine ⟨⟨⟨fun i _ => by unfold tD0; rw [if_pos (Or.inr rfl)], fun i j k _ _ _ => ?_⟩, fun i j _ _ => Int.le_refl _, fun c hc _ _ => absurd hc List.not_mem_nil⟩, fun E g => g.2.1⟩
  unfold tD0
  split
  · split <;> split <;> omega
  · split
    · split
      · omega
      · omega
    · split <;> omega
theorem t_no {n : Nat} {C : List tC} {D : Nat → Nat → Int} {i j : Nat} {w : Int} (h : ttop n C D) (hi : i < n) (hj : j < n) (k : D j i + w < 0) : tno n ((i, j, w) :: C) := fun E g => by
  have a := h.2 E (tok_cg (fun c hc => List.mem_cons_of_mem _ hc) g) j i hj hi
  have b : E i j ≤ w := g.2.2 (i, j, w) List.mem_cons_self hi hj
  have c := g.1.2 j i j hj hi hj
  have d := g.1.1 j hj
  omega
theorem t_same {n : Nat} {C : List tC} {D : Nat → Nat → Int} {i j : Nat} {w : Int} (h : ttop n C D) (k : D i j ≤ w) : ttop n ((i, j, w) :: C) D := ⟨⟨h.1.1, h.1.2.1, fun c hc c1 c2 => by
  rcases List.mem_cons.mp hc with e | e
  · rw [e]; exact k
  · exact h.1.2.2 c e c1 c2⟩, fun E g => h.2 E (tok_cg (fun c hc => List.mem_cons_of_mem _ hc) g)⟩
def tU (D : Nat → Nat → Int) (i j : Nat) (w : Int) (u v : Nat) : Int := if D u i + w + D j v < D u v then D u i + w + D j v else D u v
theorem t_up {n : Nat} {C : List tC} {D : Nat → Nat → Int} {i j : Nat} {w : Int} (h : ttop n C D) (hi : i < n) (hj : j < n) (k : 0 ≤ D j i + w) : ttop n ((i, j, w) :: C) (tU D i j w) := by
  obtain ⟨⟨⟨h1, h2⟩, h3, h4⟩, h5⟩ := h
  have le : ∀ u v, tU D i j w u v ≤ D u v ∧ tU D i j w u v ≤ D u i + w + D j v := fun u v => by
    unfold tU
    split <;> constructor <;> omega
  have ge : ∀ (x : Int) (u v : Nat), x ≤ D u v → x ≤ D u i + w + D j v → x ≤ tU D i j w u v := fun x u v a b => by
    unfold tU
    split <;> omega
  have vs : ∀ u v, tU D i j w u v = D u v ∨ tU D i j w u v = D u i + w + D j v := fun u v => by
    unfold tU
    split
    · exact Or.inr rfl
    · exact Or.inl rfl
  refine ⟨⟨⟨fun u hu => ?_, fun u v x hu hv hx => ?_⟩, fun u v hu hv => Int.le_trans (le u v).1 (h3 u v hu hv), fun c hc c1 c2 => ?_⟩, fun E g u v hu hv => ?_⟩
  · have a := h2 j u i hj hu hi
    have b := h1 u hu
    have c := ge 0 u u (by omega) (by omega)
    have d := (le u u).1
    omega
  · have a := le u x
    have t1 := h2 u v x hu hv hx
    have t2 := h2 j v x hj hv hx
    have t3 := h2 u v i hu hv hi
    have t4 := h2 j v i hj hv hi
    rcases vs u v with e | e <;> rcases vs v x with f | f <;> rw [e, f] <;> omega
  · rcases List.mem_cons.mp hc with e | e
    · rw [e]
      have a := (le i j).2
      have b := h1 i hi
      have c := h1 j hj
      show tU D i j w i j ≤ w
      omega
    · have b := h4 c e c1 c2
      have a := (le c.1 c.2.1).1
      omega
  · have a := h5 E (tok_cg (fun c hc => List.mem_cons_of_mem _ hc) g)
    have b : E i j ≤ w := g.2.2 (i, j, w) List.mem_cons_self hi hj
    have c := g.1.2 u i v hu hi hv
    have d := g.1.2 i j v hi hj hv
    have e := a u i hu hi
    have f := a j v hj hv
    exact ge _ u v (a u v hu hv) (by omega)
/-- row and column that the new way comes by stand -/
theorem tU_e {n : Nat} {D : Nat → Nat → Int} {i j : Nat} {w : Int} (k : 0 ≤ D j i + w) : (∀ v, tU D i j w j v = D j v) ∧ ∀ u, tU D i j w u i = D u i := by
  refine ⟨fun v => ?_, fun u => ?_⟩ <;> unfold tU
  · rw [if_neg (by omega)]
  · rw [if_neg (by omega)]
/-- what comes no nearer to the earlier one comes no nearer to any -/
theorem tU_s {n : Nat} {D : Nat → Nat → Int} {i j u : Nat} {w : Int} (h : tcl n D) (hj : j < n) (hu : u < n) (k : D u j ≤ D u i + w) : ∀ v, v < n → tU D i j w u v = D u v := fun v hv => by
  have a := h.2 u j v hu hj hv
  unfold tU
  rw [if_neg (by omega)]
/-! where an entry of a level lies -/
def tix (n lev i j : Nat) : Nat := lev * (n * n) + i * n + j
theorem tix_lt {n i j : Nat} (hi : i < n) (hj : j < n) : i * n + j < n * n := by
  have a : (i + 1) * n ≤ n * n := Nat.mul_le_mul_right n hi
  rw [Nat.succ_mul] at a
  omega
theorem tix_inj {n lev lev' i j i' j' : Nat} (hi : i < n) (hj : j < n) (hi' : i' < n) (hj' : j' < n) (e : tix n lev i j = tix n lev' i' j') : lev = lev' ∧ i = i' ∧ j = j' := by
  have a := tix_lt hi hj
  have b := tix_lt hi' hj'
  have p : 0 < n := by omega
  have q : 0 < n * n := Nat.mul_pos p p
  unfold tix at e
  have l1 : (lev * (n * n) + (i * n + j)) / (n * n) = lev := by rw [Nat.add_comm, Nat.add_mul_div_right _ _ q, Nat.div_eq_of_lt a]; omega
  have l2 : (lev' * (n * n) + (i' * n + j')) / (n * n) = lev' := by rw [Nat.add_comm, Nat.add_mul_div_right _ _ q, Nat.div_eq_of_lt b]; omega
  have e2 : lev * (n * n) + (i * n + j) = lev' * (n * n) + (i' * n + j') := by omega
  have el : lev = lev' := by rw [← l1, ← l2, e2]
  subst el
  have e3 : i * n + j = i' * n + j' := by omega
  have l3 : (i * n + j) / n = i := by rw [Nat.add_comm, Nat.add_mul_div_right _ _ p, Nat.div_eq_of_lt hj]; omega
  have l4 : (i' * n + j') / n = i' := by rw [Nat.add_comm, Nat.add_mul_div_right _ _ p, Nat.div_eq_of_lt hj']; omega
  have ei : i = i' := by rw [← l3, ← l4, e3]
  subst ei
  exact ⟨rfl, rfl, by omega⟩
