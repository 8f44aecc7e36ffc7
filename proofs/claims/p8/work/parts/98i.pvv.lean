/-! the class's read: what it answers -/
def RDk (b : Nat → Int32) (n : Nat) (a0 : sg) (r : Int32) (J : sm_I) : Prop := ini a0 ∧ (∀ f j, SY (tk_K b n) 501 0 0 gc0 = some (f, j) → r = f ∧ f ≠ 0 ∧ (J 2 11).toInt = tk_at b n j) ∧ (SY (tk_K b n) 501 0 0 gc0 = none → (∀ f j, (ME (tk_K b n) (fun i => tk_vl b n (tk_at b n i)) 501 0 0 a0).1 = some (f, j) → r = f ∧ f ≠ 0 ∧ (J 2 11).toInt = tk_at b n j) ∧ ((ME (tk_K b n) (fun i => tk_vl b n (tk_at b n i)) 501 0 0 a0).1 = none → r = 0))
-- walks and moves of a Told, out of what is told
def bpA (a : sg) : Prop := ∀ i : Nat, (i : Int) < (a.1 12 2).toInt → a.1 14 i ≠ -1 → 0 ≤ (a.1 15 i).toInt ∧ (a.1 15 i).toInt ≤ 5
def alst (a : sg) : List (Nat × Nat) := mall (mvc (a.1 14) (a.1 15)) (a.1 12 2).toNatClampNeg (a.1 12 2).toNatClampNeg
def wmQ (Q : Nat) (a : sg) (J : sm_I) : Prop := (∀ i, i < 36 → (J (Q + 1) i = -2 ∨ 0 ≤ (J (Q + 1) i).toInt) ∧ nv (J (Q + 1) i) = Ft (a.1 12 1).toNatClampNeg (fun i => nv (a.1 13 i)) i) ∧ (bpA a → (J Q 5).toInt = (((alst a).length : Nat) : Int) ∧ ∀ j, j < (alst a).length → J (Q + 22) j = Int32.ofNat ((alst a).getD j (0, 0)).1 ∧ J (Q + 23) j = Int32.ofNat ((alst a).getD j (0, 0)).2 ∧ J (Q + 24) j = J (Q + 1) (6 * (a.1 15 ((alst a).getD j (0, 0)).1).toNatClampNeg + (a.1 15 ((alst a).getD j (0, 0)).2).toNatClampNeg))
def RDt (Q : Nat) (b : Nat → Int32) (n : Nat) (a0 : sg) (I J : sm_I) : Prop := ko Q I J ∧ (SY (tk_K b n) 501 0 0 gc0 = none → (ME (tk_K b n) (fun i => tk_vl b n (tk_at b n i)) 501 0 0 a0).1 = none → (∀ c j, 12 ≤ c → c < 34 → c ≠ 13 → ¬ (c = 12 ∧ j = 5) → J (c + (Q - 12)) j = (ME (tk_K b n) (fun i => tk_vl b n (tk_at b n i)) 501 0 0 a0).2.1 c j) ∧ (wn (ME (tk_K b n) (fun i => tk_vl b n (tk_at b n i)) 501 0 0 a0).2 ∧ wt (ME (tk_K b n) (fun i => tk_vl b n (tk_at b n i)) 501 0 0 a0).2) ∧ wmQ Q (ME (tk_K b n) (fun i => tk_vl b n (tk_at b n i)) 501 0 0 a0).2 J)
theorem lw_rg {W : en_W} {Q c j : Nat} (h : W.all (fun q => Nat.ble Q q.1 && Nat.blt q.1 (Q + 37)) = true) (hc : c < Q ∨ Q + 37 ≤ c) : en_wok W c j = false := by
  cases e : en_wok W c j with
  | false => rfl
  | true =>
    obtain ⟨q, g1, g2⟩ := List.any_eq_true.mp e
    have e : q.1 = c := Nat.eq_of_beq_eq_true (Bool.and_eq_true_iff.mp g2).1
    obtain ⟨l1, l2⟩ := Bool.and_eq_true_iff.mp (List.all_eq_true.mp h q g1)
    have l1 := Nat.le_of_ble_eq_true l1
    have l2 := Nat.le_of_ble_eq_true l2
    have l2 : q.1 < Q + 37 := l2
    omega
theorem lw_rv {Q c j : Nat} (h : c ≠ 13) : en_wok [(13 + Q, [])] (c + Q) j = false := by
  cases e : en_wok [(13 + Q, [])] (c + Q) j with
  | false => rfl
  | true =>
    obtain ⟨q, g1, g2⟩ := List.any_eq_true.mp e
    have e : q.1 = c + Q := Nat.eq_of_beq_eq_true (Bool.and_eq_true_iff.mp g2).1
    rw [List.mem_singleton.mp g1] at e
    have e : 13 + Q = c + Q := e
    omega
theorem lw_rw {Q c j : Nat} (h : c < 34) (h2 : ¬ (c = 12 ∧ j = 5)) : en_wok [(12 + Q, [5]), (34 + Q, []), (35 + Q, []), (36 + Q, [])] (c + Q) j = false := by
  cases e : en_wok [(12 + Q, [5]), (34 + Q, []), (35 + Q, []), (36 + Q, [])] (c + Q) j with
  | false => rfl
  | true =>
    obtain ⟨q, g1, g2⟩ := List.any_eq_true.mp e
    obtain ⟨g2, g3⟩ := Bool.and_eq_true_iff.mp g2
    have e : q.1 = c + Q := Nat.eq_of_beq_eq_true g2
    rcases List.mem_cons.mp g1 with g | g
    · subst g
      have e : 12 + Q = c + Q := e
      have g3 : (Nat.beq 5 j || false) = true ∨ (Nat.beq j 5 || false) = true := by first | exact Or.inl g3 | exact Or.inr g3
      rcases g3 with g3 | g3
      · rw [Bool.or_false] at g3
        have := Nat.eq_of_beq_eq_true g3
        omega
      · rw [Bool.or_false] at g3
        have := Nat.eq_of_beq_eq_true g3
        omega
    rcases List.mem_cons.mp g with g | g
    · subst g
      have e : 34 + Q = c + Q := e
      omega
    rcases List.mem_cons.mp g with g | g
    · subst g
      have e : 35 + Q = c + Q := e
      omega
    have g := List.mem_singleton.mp g
    subst g
    have e : 36 + Q = c + Q := e
    omega
theorem kpr9 {o : Option Value} (h : en_pr (9, 0, 0) o) : o = none := by
  cases o with
  | none => rfl
  | some v =>
    exfalso
    rcases h with q1 | ⟨q1, -⟩
    · cases v with
      | int r => have q1 : (9 : Nat) = 0 := q1.1; omega
      | long _ => have q1 : (9 : Nat) = 5 := q1; omega
      | null => have q1 : (9 : Nat) = 1 := q1; omega
      | ref p => have q1 : (9 : Nat) = 2 := q1.1; omega
      | float _ => exact q1.elim
      | double _ => exact q1.elim
      | retAddr _ => exact q1.elim
    · have q1 : (9 : Nat) = 3 := q1
      omega
theorem SY_le {K : Nat → Int32} {c : Nat} (hc : K c = 21) : ∀ (m t : Nat) (s : Int32) (g : gc), t ≤ c → ∀ f j, SY K m t s g = some (f, j) → j ≤ c := by
  intro m
  induction m with
  | zero => intro t s g ht f j q; cases q
  | succ m ih =>
    intro t s g ht f j q
    have q : (if gf s (K t) t g = 0 then (if K t = 21 then none else SY K m (t + 1) (fw s (K t)) (gc_st s (K t) g)) else some (gf s (K t) t g, t)) = some (f, j) := q
    by_cases c0 : gf s (K t) t g = 0
    · rw [if_pos c0] at q
      by_cases c1 : K t = 21
      · rw [if_pos c1] at q; cases q
      · rw [if_neg c1] at q
        have : t ≠ c := fun y => c1 (by rw [y]; exact hc)
        exact ih (t + 1) _ _ (by omega) f j q
    · rw [if_neg c0] at q
      have : t = j := congrArg Prod.snd (Option.some.inj q)
      omega
