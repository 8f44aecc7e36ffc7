/-! what is known of the cells; instructions -/
abbrev en_Fd : Type := Nat × Int × Int
abbrev en_D : Type := Nat × Nat × List en_Fd
abbrev en_Tb : Type := Nat × Lean.RArray en_D × List (Nat × List Nat)
abbrev en_S : Type := List (Nat × Nat × en_V × en_V)
abbrev en_W : Type := List (Nat × List Nat)
noncomputable def en_cell (tb : en_Tb) (p : Nat) : Option en_D := bif Nat.blt p tb.1 then some (en_tg tb.2.1 p) else none
/-- the interval of an int of a cell -/
noncomputable def en_fiv (f : Option en_Fd) : Option (Int × Int) := match f with
  | some (0, a, b) => some (a, b)
  | _ => none
noncomputable def en_int (tb : en_Tb) (p j : Nat) : Option (Int × Int) := match en_cell tb p with
  | some d => bif Nat.beq d.1 0 then en_fiv d.2.2[j]? else bif Nat.blt j d.2.1 then en_fiv d.2.2[0]? else none
  | none => none
/-- what a reference may be -/
noncomputable def en_refs (tb : en_Tb) (p j : Nat) : List Nat := match en_cell tb p with
  | some d => bif Nat.beq d.1 0 then (match d.2.2[j]? with
    | some (1, a, _) => [a.toNat]
    | some (2, a, b) => [a.toNat, b.toNat]
    | _ => []) else []
  | none => []
def en_mem (tb : en_Tb) (X : sm_W → Prop) (w : sm_W) : Prop := (∀ p d, en_cell tb p = some d → w.1[p]? = some (d.1, d.2.1)) ∧ (∀ p j q, en_int tb p j = some q → q.1 ≤ (w.2.1 p j).toInt ∧ (w.2.1 p j).toInt ≤ q.2) ∧ (∀ p j, en_refs tb p j ≠ [] → ∃ r, r ∈ en_refs tb p j ∧ w.2.2.2 p j = some r) ∧ w.1.length ≤ 1000 ∧ X w
def en_e1 (ρ : List Int) (w : sm_W) (e : Nat × Nat × en_V × en_V) : Prop := (e.1 = 0 → ∃ n : Nat, en_gi ρ e.2.2.1 n ∧ en_gi ρ e.2.2.2 (w.2.1 e.2.1 n).toInt) ∧ (e.1 = 1 → ∃ n q : Nat, e.2.2.1 = (0, (n : Int)) ∧ e.2.2.2 = (2, (q : Int)) ∧ w.2.2.2 e.2.1 n = some q)
def en_st (ρ : List Int) (w : sm_W) (S : en_S) : Prop := ∀ e, e ∈ S → en_e1 ρ w e
def en_wok (W : en_W) (p j : Nat) : Bool := W.any (fun q => Nat.beq q.1 p && (match q.2 with
  | [] => true
  | l => l.any (fun i => Nat.beq i j)))
def en_wall (W : en_W) (p : Nat) : Bool := W.any (fun q => Nat.beq q.1 p && (match q.2 with
  | [] => true
  | _ => false))
/-- what the engine may not write: it belongs to what is known beside the intervals -/
def en_fix (tb : en_Tb) (p j : Nat) : Bool := en_wok tb.2.2 p j
def en_fixc (tb : en_Tb) (p : Nat) : Bool := tb.2.2.any (fun q => Nat.beq q.1 p)
theorem en_fixc_ok {tb : en_Tb} {p : Nat} (h : en_fixc tb p = false) (j : Nat) : en_fix tb p j = false := by
  cases e : en_fix tb p j with
  | false => rfl
  | true =>
    exfalso
    obtain ⟨q, h1, h2⟩ := List.any_eq_true.mp e
    have : en_fixc tb p = true := List.any_eq_true.mpr ⟨q, h1, (Bool.and_eq_true_iff.mp h2).1⟩
    rw [this] at h
    cases h
def en_Xok (tb : en_Tb) (X : sm_W → Prop) : Prop := (∀ (lay : List (Nat × Nat)) (m : sm_Y) (p j : Nat) (x : Int32), en_fix tb p j = false → X (lay, m) → X (lay, (sm_up m.1 p j x, m.2))) ∧ (∀ (lay : List (Nat × Nat)) (m : sm_Y) (p j : Nat) (r : Option Nat), en_fix tb p j = false → X (lay, m) → X (lay, (m.1, m.2.1, sm_up m.2.2 p j r))) ∧ (∀ (lay : List (Nat × Nat)) (m : sm_Y) (p j : Nat) (y : Int64), en_fix tb p j = false → X (lay, m) → X (lay, (m.1, sm_up m.2.1 p j y, m.2.2)))
def en_fr (W : en_W) (w w' : sm_W) : Prop := w'.1 = w.1 ∧ ∀ p j, en_wok W p j = false → w'.2.1 p j = w.2.1 p j ∧ w'.2.2.2 p j = w.2.2.2 p j
def en_veq (a b : en_V) : Bool := Nat.beq a.1 b.1 && decide (a.2 = b.2)
def en_find : en_S → Nat → Nat → en_V → Option en_V
  | [], _, _, _ => none
  | e :: r, s, p, i => bif (Nat.beq e.1 s && Nat.beq e.2.1 p) && en_veq e.2.2.1 i then some e.2.2.2 else en_find r s p i
def en_keepI (p : Nat) (i : en_V) (e : Nat × Nat × en_V × en_V) : Bool := Nat.beq e.1 1 || (!(Nat.beq e.2.1 p) || ((Nat.beq i.1 0 && Nat.beq e.2.2.1.1 0) && !(decide (i.2 = e.2.2.1.2))))
def en_keepR (p : Nat) (j : Nat) (e : Nat × Nat × en_V × en_V) : Bool := Nat.beq e.1 0 || (!(Nat.beq e.2.1 p) || !(decide (e.2.2.1 = (0, (j : Int)))))
section EnM
variable {tb : en_Tb} {X : sm_W → Prop} {W : en_W} {ρ : List Int} {E : en_E} {S : en_S} {w w0 w' : sm_W} {p j : Nat} {a : en_V}
theorem en_fr_rf : en_fr W w w := ⟨rfl, fun _ _ _ => ⟨rfl, rfl⟩⟩
theorem en_fr_tr {w1 w2 : sm_W} (h1 : en_fr W w w1) (h2 : en_fr W w1 w2) : en_fr W w w2 := ⟨h2.1.trans h1.1, fun p j h => ⟨(h2.2 p j h).1.trans (h1.2 p j h).1, (h2.2 p j h).2.trans (h1.2 p j h).2⟩⟩
theorem en_st_app (ys : List Int) (h : en_st ρ w S) : en_st (ρ ++ ys) w S := by
  intro e he
  obtain ⟨h1, h2⟩ := h e he
  refine ⟨fun q => ?_, h2⟩
  obtain ⟨n, g1, g2⟩ := h1 q
  exact ⟨n, en_gi_app ys g1, en_gi_app ys g2⟩
theorem en_veq_of {a b : en_V} (h : en_veq a b = true) : a = b := by
  obtain ⟨h1, h2⟩ := en_and2 h
  exact Prod.ext (en_beq h1) (of_decide_eq_true h2)
theorem en_find_ok {s : Nat} {i v : en_V} : ∀ {S : en_S}, en_find S s p i = some v → (s, p, i, v) ∈ S
  | [], h => by cases h
  | e :: r, h => by
    unfold en_find at h
    cases q : ((Nat.beq e.1 s && Nat.beq e.2.1 p) && en_veq e.2.2.1 i) with
    | true =>
      rw [q] at h
      cases h
      obtain ⟨q1, q2⟩ := en_and2 q
      obtain ⟨q3, q4⟩ := en_and2 q1
      have e1 := en_beq q3
      have e2 := en_beq q4
      have e3 := en_veq_of q2
      have : (s, p, i, e.2.2.2) = e := by
        obtain ⟨a1, a2, a3, a4⟩ := e
        simp only at e1 e2 e3
        rw [e1, e2, e3]
      rw [this]
      exact List.mem_cons_self
    | false =>
      rw [q] at h
      exact List.mem_cons_of_mem _ (en_find_ok h)
theorem en_gi_inj {n m : Int} (h1 : en_gi ρ a n) (h2 : en_gi ρ a m) : n = m := by
  rcases h1 with ⟨q1, e1⟩ | ⟨q1, k1, e1, f1⟩
  · rcases h2 with ⟨q2, e2⟩ | ⟨q2, k2, e2, f2⟩
    · omega
    · omega
  · rcases h2 with ⟨q2, e2⟩ | ⟨q2, k2, e2, f2⟩
    · omega
    · rw [e1] at e2
      cases e2
      omega
theorem en_up_eq {α : Type} (f : Nat → Nat → α) (p j : Nat) (v : α) : sm_up f p j v p j = v := by simp [sm_up]
theorem en_up_ne {α : Type} (f : Nat → Nat → α) (p j : Nat) (v : α) {p' j' : Nat} (h : ¬ (p' = p ∧ j' = j)) : sm_up f p j v p' j' = f p' j' := by
  unfold sm_up
  by_cases c : p' = p
  · subst c
    rw [if_pos rfl]
    by_cases c2 : j' = j
    · exact absurd ⟨rfl, c2⟩ h
    · simp only [if_neg c2]
  · rw [if_neg c]
/-- an int is written -/
theorem en_wrI (hX : en_Xok tb X) {lay : List (Nat × Nat)} {m : sm_Y} {x : Int32} {i v : en_V} {q : Int × Int} (hE : en_sat ρ E) (hm : en_mem tb X (lay, m)) (hS : en_st ρ (lay, m) S) (hf : en_fr W w0 (lay, m)) (hi : en_gi ρ i j) (hv : en_gi ρ v x.toInt) (hq : en_int tb p j = some q) (hs : en_sub (en_iv E v) q = true) (hw : en_wok W p j = true) (hfx : en_fix tb p j = false) :
    en_mem tb X (lay, (sm_up m.1 p j x, m.2)) ∧ en_st ρ (lay, (sm_up m.1 p j x, m.2)) ((0, p, i, v) :: S.filter (en_keepI p i)) ∧ en_fr W w0 (lay, (sm_up m.1 p j x, m.2)) := by
  have hx := en_ivx hE hv
  have hs := en_sub_of hs
  refine ⟨⟨hm.1, fun p' j' q' e => ?_, hm.2.2.1, hm.2.2.2.1, hX.1 _ _ _ _ _ hfx hm.2.2.2.2⟩, fun e he => ?_, ⟨hf.1, fun p' j' h => ?_⟩⟩
  · show q'.1 ≤ (sm_up m.1 p j x p' j').toInt ∧ (sm_up m.1 p j x p' j').toInt ≤ q'.2
    by_cases c : p' = p ∧ j' = j
    · obtain ⟨rfl, rfl⟩ := c
      rw [hq] at e
      cases e
      rw [en_up_eq]
      omega
    · rw [en_up_ne _ _ _ _ c]
      exact hm.2.1 p' j' q' e
  · rcases List.mem_cons.mp he with rfl | he
    · refine ⟨fun _ => ⟨j, hi, ?_⟩, fun q => (by cases q)⟩
      show en_gi ρ v (sm_up m.1 p j x p j).toInt
      rw [en_up_eq]
      exact hv
    · obtain ⟨he, hk⟩ := List.mem_filter.mp he
      obtain ⟨h1, h2⟩ := hS e he
      refine ⟨fun q => ?_, h2⟩
      obtain ⟨n, g1, g2⟩ := h1 q
      refine ⟨n, g1, ?_⟩
      show en_gi ρ e.2.2.2 (sm_up m.1 p j x e.2.1 n).toInt
      rw [en_up_ne]
      · exact g2
      · rintro ⟨c1, c2⟩
        rcases Bool.or_eq_true_iff.mp hk with hk | hk
        · have := en_beq hk; omega
        · rcases Bool.or_eq_true_iff.mp hk with hk | hk
          · rw [c1] at hk
            have : Nat.beq p p = true := Nat.beq_refl p
            rw [this] at hk
            cases hk
          · obtain ⟨k1, k2⟩ := en_and2 hk
            obtain ⟨k3, k4⟩ := en_and2 k1
            have k3 := en_beq k3
            have k4 := en_beq k4
            have k2 : ¬ i.2 = e.2.2.1.2 := by
              intro c
              rw [decide_eq_true c] at k2
              cases k2
            subst c2
            rcases hi with ⟨-, f1⟩ | ⟨f1, -⟩
            · rcases g1 with ⟨-, f2⟩ | ⟨f2, -⟩
              · exact k2 (f1.symm.trans f2)
              · omega
            · omega
  · have := hf.2 p' j' h
    refine ⟨?_, this.2⟩
    show sm_up m.1 p j x p' j' = w0.2.1 p' j'
    rw [en_up_ne]
    · exact this.1
    · rintro ⟨rfl, rfl⟩
      rw [hw] at h
      cases h
/-- a reference is written -/
theorem en_wrR (hX : en_Xok tb X) {lay : List (Nat × Nat)} {m : sm_Y} {r : Nat} (hm : en_mem tb X (lay, m)) (hS : en_st ρ (lay, m) S) (hf : en_fr W w0 (lay, m)) (hr : r ∈ en_refs tb p j) (hw : en_wok W p j = true) (hfx : en_fix tb p j = false) :
    en_mem tb X (lay, (m.1, m.2.1, sm_up m.2.2 p j (some r))) ∧ en_st ρ (lay, (m.1, m.2.1, sm_up m.2.2 p j (some r))) ((1, p, (0, (j : Int)), (2, (r : Int))) :: S.filter (en_keepR p j)) ∧ en_fr W w0 (lay, (m.1, m.2.1, sm_up m.2.2 p j (some r))) := by
  refine ⟨⟨hm.1, hm.2.1, fun p' j' h => ?_, hm.2.2.2.1, hX.2.1 _ _ _ _ _ hfx hm.2.2.2.2⟩, fun e he => ?_, ⟨hf.1, fun p' j' h => ?_⟩⟩
  · show ∃ r', r' ∈ en_refs tb p' j' ∧ sm_up m.2.2 p j (some r) p' j' = some r'
    by_cases c : p' = p ∧ j' = j
    · obtain ⟨rfl, rfl⟩ := c
      exact ⟨r, hr, en_up_eq _ _ _ _⟩
    · rw [en_up_ne _ _ _ _ c]
      exact hm.2.2.1 p' j' h
  · rcases List.mem_cons.mp he with rfl | he
    · exact ⟨fun q => (by cases q), fun _ => ⟨j, r, rfl, rfl, en_up_eq _ _ _ _⟩⟩
    · obtain ⟨he, hk⟩ := List.mem_filter.mp he
      obtain ⟨h1, h2⟩ := hS e he
      refine ⟨h1, fun q => ?_⟩
      obtain ⟨n, r', g1, g2, g3⟩ := h2 q
      refine ⟨n, r', g1, g2, ?_⟩
      show sm_up m.2.2 p j (some r) e.2.1 n = some r'
      rw [en_up_ne]
      · exact g3
      · rintro ⟨c1, c2⟩
        subst c2
        rcases Bool.or_eq_true_iff.mp hk with hk | hk
        · have := en_beq hk; omega
        · rcases Bool.or_eq_true_iff.mp hk with hk | hk
          · rw [c1] at hk
            have : Nat.beq p p = true := Nat.beq_refl p
            rw [this] at hk
            cases hk
          · rw [decide_eq_true g1] at hk
            cases hk
  · have := hf.2 p' j' h
    refine ⟨this.1, ?_⟩
    show sm_up m.2.2 p j (some r) p' j' = w0.2.2.2 p' j'
    rw [en_up_ne]
    · exact this.2
    · rintro ⟨rfl, rfl⟩
      rw [hw] at h
      cases h
end EnM
/-! the relation, and the simple instructions -/
/-- where a region began: its cells, its symbols -/
abbrev en_A : Type := sm_W × List Int
def en_R (tb : en_Tb) (X : sm_W → Prop) (W : en_W) (w0 : en_A) (ρ : List Int) (E : en_E) (S : en_S) (lv : en_L) (st : List en_V) (lv' : sm_V) (st' : List Value) (w : sm_W) : Prop := en_sat ρ E ∧ en_mem tb X w ∧ en_st ρ w S ∧ en_gl ρ lv lv' ∧ en_gs ρ st st' ∧ en_fr W w0.1 w ∧ ∃ ys, ρ = w0.2 ++ ys
abbrev en_K1 : Type := en_L → List en_V → en_S → en_E → Bool
def en_ok (tb : en_Tb) (X : sm_W → Prop) (W : en_W) (w0 : en_A) (lay : List (Nat × Nat)) (o : sm_O) (k : en_K1) : Prop := ∃ q, o = some q ∧ ∃ (ρ : List Int) (E : en_E) (S : en_S) (lv : en_L) (st : List en_V), en_R tb X W w0 ρ E S lv st q.1 q.2.1 (lay, q.2.2) ∧ k lv st S E = true
section EnI
variable {tb : en_Tb} {X : sm_W → Prop} {W : en_W} {w0 : en_A} {ρ : List Int} {E : en_E} {S : en_S} {lv : en_L} {st : List en_V} {lv' : sm_V} {st' : List Value} {lay : List (Nat × Nat)} {m : sm_Y} {k : en_K1}
theorem en_R_app (ys : List Int) {E' : en_E} {w : sm_W} (hE : en_sat (ρ ++ ys) E') (h : en_R tb X W w0 ρ E S lv st lv' st' w) : en_R tb X W w0 (ρ ++ ys) E' S lv st lv' st' w := by
  obtain ⟨h1, h2, h3, h4, h5, h6, zs, h7⟩ := h
  exact ⟨hE, h2, en_st_app ys h3, en_gl_app ys h4, en_gs_app' ys h5, h6, zs ++ ys, by rw [h7, List.append_assoc]⟩
theorem en_R_st {w : sm_W} {s : List en_V} {s' : List Value} (h : en_R tb X W w0 ρ E S lv st lv' st' w) (hs : en_gs ρ s s') : en_R tb X W w0 ρ E S lv s lv' s' w := ⟨h.1, h.2.1, h.2.2.1, h.2.2.2.1, hs, h.2.2.2.2.2⟩
theorem en_okp {o : Option (List Value)} {s' : List Value} {s : List en_V} (e : o = some s') (hR : en_R tb X W w0 ρ E S lv st lv' st' (lay, m)) (hs : en_gs ρ s s') (h : k lv s S E = true) : en_ok tb X W w0 lay (sm_p lv' m o) k := ⟨(lv', s', m), by rw [e]; rfl, ρ, E, S, lv, s, en_R_st hR hs, h⟩
theorem en_two {P : List en_V → Prop} (h0 : P []) (h1 : ∀ a, P [a]) (h2 : ∀ a b r, P (a :: b :: r)) : ∀ st, P st
  | [] => h0
  | [a] => h1 a
  | a :: b :: r => h2 a b r
theorem en_three {P : List en_V → Prop} (h0 : P []) (h1 : ∀ a, P [a]) (h2 : ∀ a b, P [a, b]) (h3 : ∀ a b c r, P (a :: b :: c :: r)) : ∀ st, P st
  | [] => h0
  | [a] => h1 a
  | [a, b] => h2 a b
  | a :: b :: c :: r => h3 a b c r
theorem ei_push {v : Value} {a : en_V} (hR : en_R tb X W w0 ρ E S lv st lv' st' (lay, m)) (hg : en_g ρ a v) (h : k lv (a :: st) S E = true) : en_ok tb X W w0 lay (some (lv', v :: st', m)) k := ⟨_, rfl, ρ, E, S, lv, a :: st, en_R_st hR ⟨hg, hR.2.2.2.2.1⟩, h⟩
/-- a new symbol for an int that is any of an interval -/
theorem ei_fresh {o : Option (List Value)} {x : Int32} {s : List en_V} {s' : List Value} {q : Int × Int} (e : o = some (.int x :: s')) (hR : en_R tb X W w0 ρ E S lv st lv' st' (lay, m)) (hs : en_gs ρ s s') (hx : q.1 ≤ x.toInt ∧ x.toInt ≤ q.2) (h : en_new E q (fun E v => k lv (v :: s) S E) = true) : en_ok tb X W w0 lay (sm_p lv' m o) k := by
  obtain ⟨E', r, g1, g2, g3⟩ := en_new_ok hR.1 h x.toInt hx
  exact en_okp (s := r :: s) e (en_R_app [x.toInt] g1 hR) ⟨g2, en_gs_app' _ hs⟩ g3
noncomputable def ei_ldi (j : Nat) (lv : en_L) (st : List en_V) (S : en_S) (E : en_E) (k : en_K1) : Bool := en_lk lv j (fun a => bif en_isI a.1 then k lv (a :: st) S E else false)
theorem ei_ldi_ok {j : Nat} (hR : en_R tb X W w0 ρ E S lv st lv' st' (lay, m)) (h : ei_ldi j lv st S E k = true) : en_ok tb X W w0 lay (sm_p lv' m (sm_ldi lv' j st')) k := by
  replace h := en_lk_ok hR.2.2.2.1 h
  obtain ⟨a, v, e1, g, h⟩ := h
  replace h := en_bif0 h; obtain ⟨h1, h⟩ := h
  obtain ⟨x, rfl, gx⟩ := en_isI_of h1 g
  exact en_okp (s' := .int x :: st') (s := a :: st) (by simp only [sm_ldi, e1]) hR ⟨g, hR.2.2.2.2.1⟩ h
noncomputable def ei_ldl (j : Nat) (lv : en_L) (st : List en_V) (S : en_S) (E : en_E) (k : en_K1) : Bool := en_lk lv j (fun a => bif Nat.beq a.1 5 then k lv (a :: st) S E else false)
theorem ei_ldl_ok {j : Nat} (hR : en_R tb X W w0 ρ E S lv st lv' st' (lay, m)) (h : ei_ldl j lv st S E k = true) : en_ok tb X W w0 lay (sm_p lv' m (sm_ldl lv' j st')) k := by
  replace h := en_lk_ok hR.2.2.2.1 h
  obtain ⟨a, v, e1, g, h⟩ := h
  replace h := en_bif0 h; obtain ⟨h1, h⟩ := h
  obtain ⟨x, rfl⟩ := en_long_of (en_beq h1) g
  exact en_okp (s' := .long x :: st') (s := a :: st) (by simp only [sm_ldl, e1]) hR ⟨g, hR.2.2.2.2.1⟩ h
noncomputable def ei_lda (j : Nat) (lv : en_L) (st : List en_V) (S : en_S) (E : en_E) (k : en_K1) : Bool := en_lk lv j (fun a => bif Nat.beq a.1 2 || Nat.beq a.1 1 then k lv (a :: st) S E else false)
theorem ei_lda_ok {j : Nat} (hR : en_R tb X W w0 ρ E S lv st lv' st' (lay, m)) (h : ei_lda j lv st S E k = true) : en_ok tb X W w0 lay (sm_p lv' m (sm_lda lv' j st')) k := by
  replace h := en_lk_ok hR.2.2.2.1 h
  obtain ⟨a, v, e1, g, h⟩ := h
  replace h := en_bif0 h; obtain ⟨h1, h⟩ := h
  rcases Bool.or_eq_true_iff.mp h1 with h1 | h1
  · obtain ⟨p, rfl, -⟩ := en_ref_of (en_beq h1) g
    exact en_okp (s' := .ref p :: st') (s := a :: st) (by simp only [sm_lda, e1]) hR ⟨g, hR.2.2.2.2.1⟩ h
  · have := en_null_of (en_beq h1) g
    subst this
    exact en_okp (s' := .null :: st') (s := a :: st) (by simp only [sm_lda, e1]) hR ⟨g, hR.2.2.2.2.1⟩ h
theorem en_R_lv {w : sm_W} {l : en_L} {l' : sm_V} {s : List en_V} {s' : List Value} (h : en_R tb X W w0 ρ E S lv st lv' st' w) (hl : en_gl ρ l l') (hs : en_gs ρ s s') : en_R tb X W w0 ρ E S l s l' s' w := ⟨h.1, h.2.1, h.2.2.1, hl, hs, h.2.2.2.2.2⟩
noncomputable def ei_sti (j nL : Nat) (lv : en_L) (st : List en_V) (S : en_S) (E : en_E) (k : en_K1) : Bool := match st with
  | a :: r => bif en_isI a.1 && Nat.blt j nL then k (en_s1 lv j a) r S E else false
  | [] => false
theorem ei_sti_ok {j nL : Nat} (hR : en_R tb X W w0 ρ E S lv st lv' st' (lay, m)) (h : ei_sti j nL lv st S E k = true) : en_ok tb X W w0 lay (sm_sti lv' j nL st' m) k := by
  cases st with
  | nil => cases h
  | cons a r =>
    obtain ⟨v, r', e, g, hs⟩ := en_gs_cons hR.2.2.2.2.1
    subst e
    replace h := en_bif0 h; obtain ⟨h1, h⟩ := h
    obtain ⟨h1, h2⟩ := en_and2 h1
    obtain ⟨x, rfl, gx⟩ := en_isI_of h1 g
    exact ⟨(sm_s1 lv' j (.int x), r', m), by simp only [sm_sti]; rw [if_pos (en_blt h2)], ρ, E, S, en_s1 lv j a, r, en_R_lv hR (en_s1_ok hR.2.2.2.1 g) hs, h⟩
noncomputable def ei_stl (j nL : Nat) (lv : en_L) (st : List en_V) (S : en_S) (E : en_E) (k : en_K1) : Bool := match st with
  | a :: r => bif Nat.beq a.1 5 && Nat.blt (Nat.succ j) nL then k (en_s2 lv j a) r S E else false
  | [] => false
theorem ei_stl_ok {j nL : Nat} (hR : en_R tb X W w0 ρ E S lv st lv' st' (lay, m)) (h : ei_stl j nL lv st S E k = true) : en_ok tb X W w0 lay (sm_stl lv' j nL st' m) k := by
  cases st with
  | nil => cases h
  | cons a r =>
    obtain ⟨v, r', e, g, hs⟩ := en_gs_cons hR.2.2.2.2.1
    subst e
    replace h := en_bif0 h; obtain ⟨h1, h⟩ := h
    obtain ⟨h1, h2⟩ := en_and2 h1
    obtain ⟨x, rfl⟩ := en_long_of (en_beq h1) g
    exact ⟨(sm_s2 lv' j (.long x), r', m), by simp only [sm_stl]; rw [if_pos (en_blt h2)], ρ, E, S, en_s2 lv j a, r, en_R_lv hR (en_s2_ok hR.2.2.2.1 g) hs, h⟩
noncomputable def ei_sta (j nL : Nat) (lv : en_L) (st : List en_V) (S : en_S) (E : en_E) (k : en_K1) : Bool := match st with
  | a :: r => bif (Nat.beq a.1 2 || Nat.beq a.1 1) && Nat.blt j nL then k (en_s1 lv j a) r S E else false
  | [] => false
theorem ei_sta_ok {j nL : Nat} (hR : en_R tb X W w0 ρ E S lv st lv' st' (lay, m)) (h : ei_sta j nL lv st S E k = true) : en_ok tb X W w0 lay (sm_sta lv' j nL st' m) k := by
  cases st with
  | nil => cases h
  | cons a r =>
    obtain ⟨v, r', e, g, hs⟩ := en_gs_cons hR.2.2.2.2.1
    subst e
    replace h := en_bif0 h; obtain ⟨h1, h⟩ := h
    obtain ⟨h1, h2⟩ := en_and2 h1
    rcases Bool.or_eq_true_iff.mp h1 with h1 | h1
    · obtain ⟨p, rfl, -⟩ := en_ref_of (en_beq h1) g
      exact ⟨(sm_s1 lv' j (.ref p), r', m), by simp only [sm_sta]; rw [if_pos (en_blt h2)], ρ, E, S, en_s1 lv j a, r, en_R_lv hR (en_s1_ok hR.2.2.2.1 g) hs, h⟩
    · have := en_null_of (en_beq h1) g
      subst this
      exact ⟨(sm_s1 lv' j .null, r', m), by simp only [sm_sta]; rw [if_pos (en_blt h2)], ρ, E, S, en_s1 lv j a, r, en_R_lv hR (en_s1_ok hR.2.2.2.1 g) hs, h⟩
noncomputable def ei_inc (j : Nat) (n : Int) (nL : Nat) (lv : en_L) (st : List en_V) (S : en_S) (E : en_E) (k : en_K1) : Bool := en_lk lv j (fun a => bif Nat.blt j nL then en_add E a (0, (Int32.ofInt n).toInt) (fun E v => k (en_s1 lv j v) st S E) else false)
theorem ei_inc_ok {j nL : Nat} {n : Int} (hR : en_R tb X W w0 ρ E S lv st lv' st' (lay, m)) (h : ei_inc j n nL lv st S E k = true) : en_ok tb X W w0 lay (sm_inc lv' j n nL st' m) k := by
  replace h := en_lk_ok hR.2.2.2.1 h
  obtain ⟨a, v, e1, g, h⟩ := h
  replace h := en_bif0 h; obtain ⟨h1, h⟩ := h
  obtain ⟨x, y, r, E', ys, rfl, e2, g0, g1, g2⟩ := en_add_ok _ _ _ _ _ _ _ hR.1 h g (show en_g ρ (0, (Int32.ofInt n).toInt) (.int (Int32.ofInt n)) from en_gi0 _)
  cases e2
  have hR' := en_R_app ys g0 hR
  exact ⟨(sm_s1 lv' j (.int (x + Int32.ofInt n)), st', m), by simp only [sm_inc, e1]; rw [if_pos (en_blt h1)], ρ ++ ys, E', S, en_s1 lv j r, st, en_R_lv hR' (en_s1_ok hR'.2.2.2.1 g1) hR'.2.2.2.2.1, g2⟩
noncomputable def ei_ii (bin : en_E → en_V → en_V → (en_E → en_V → Bool) → Bool) (lv : en_L) (st : List en_V) (S : en_S) (E : en_E) (k : en_K1) : Bool := match st with
  | b :: a :: r => bin E a b (fun E v => k lv (v :: r) S E)
  | _ => false
theorem ei_ii_ok {bin : en_E → en_V → en_V → (en_E → en_V → Bool) → Bool} {f : Int32 → Int32 → Int32} (hb : en_binok bin f) (hR : en_R tb X W w0 ρ E S lv st lv' st' (lay, m)) (h : ei_ii bin lv st S E k = true) : en_ok tb X W w0 lay (sm_p lv' m (sm_ii f st')) k := by
  revert hR h
  refine en_two (P := fun st => en_R tb X W w0 ρ E S lv st lv' st' (lay, m) → ei_ii bin lv st S E k = true → _) (fun _ h => by cases h) (fun _ _ h => by cases h) (fun b a r hR h => ?_) st
  obtain ⟨u, r1, e, gb, hs⟩ := en_gs_cons hR.2.2.2.2.1
  subst e
  replace hs := en_gs_cons hs; obtain ⟨v, r2, rfl, ga, hs⟩ := hs
  obtain ⟨x, y, z, E', ys, rfl, rfl, g0, g1, g2⟩ := hb _ _ _ _ _ _ _ hR.1 h ga gb
  exact en_okp (s' := .int (f x y) :: r2) (s := z :: r) rfl (en_R_app ys g0 hR) ⟨g1, en_gs_app' ys hs⟩ g2
/-- a divisor above 0 -/
noncomputable def en_gdiv (p : Int × Int) (c : Int) : Int × Int := bif en_le 0 p.1 then (0, p.2 / c) else en_full
noncomputable def ei_div (lv : en_L) (st : List en_V) (S : en_S) (E : en_E) (k : en_K1) : Bool := match st with
  | b :: a :: r => bif (en_isI b.1 && en_le 1 (en_iv E b).1) && en_isI a.1 then en_new E (en_gdiv (en_iv E a) (en_iv E b).1) (fun E v => k lv (v :: r) S E) else false
  | _ => false
theorem en_div_ok {p : Int × Int} {c : Int} {x y : Int32} (h1 : p.1 ≤ x.toInt) (h2 : x.toInt ≤ p.2) (hc : 1 ≤ c) (hy : c ≤ y.toInt) : (en_gdiv p c).1 ≤ (x / y).toInt ∧ (x / y).toInt ≤ (en_gdiv p c).2 := by
  unfold en_gdiv
  cases e : en_le 0 p.1 with
  | false => exact en_crange
  | true =>
    have e := en_le_iff.mp e
    have r := en_crange (x := x)
    have hx : 0 ≤ x.toInt := by omega
    have q0 : x.toInt.tdiv y.toInt = x.toInt / y.toInt := Int.tdiv_eq_ediv_of_nonneg hx
    have q1 : 0 ≤ x.toInt / y.toInt := Int.ediv_nonneg hx (by omega)
    have q2 : x.toInt / y.toInt ≤ x.toInt := Int.ediv_le_self _ hx
    have q3 : x.toInt / y.toInt * y.toInt ≤ x.toInt := Int.ediv_mul_le _ (by omega)
    have q4 : x.toInt / y.toInt * c ≤ x.toInt / y.toInt * y.toInt := Int.mul_le_mul_of_nonneg_left hy q1
    have q5 : x.toInt / y.toInt ≤ p.2 / c := Int.le_ediv_of_mul_le (by omega) (by omega)
    rw [Int32.toInt_div, q0, en_bmod (r := x.toInt / y.toInt) (by omega) (by omega) (Or.inl rfl)]
    exact ⟨q1, q5⟩
theorem ei_div_ok (hR : en_R tb X W w0 ρ E S lv st lv' st' (lay, m)) (h : ei_div lv st S E k = true) : en_ok tb X W w0 lay (sm_p lv' m (sm_iq (fun x y => x / y) st')) k := by
  revert hR h
  refine en_two (P := fun st => en_R tb X W w0 ρ E S lv st lv' st' (lay, m) → ei_div lv st S E k = true → _) (fun _ h => by cases h) (fun _ _ h => by cases h) (fun b a r hR h => ?_) st
  obtain ⟨u, r1, e, gb, hs⟩ := en_gs_cons hR.2.2.2.2.1
  subst e
  replace hs := en_gs_cons hs; obtain ⟨v, r2, rfl, ga, hs⟩ := hs
  replace h := en_bif0 h; obtain ⟨h1, h⟩ := h
  obtain ⟨h1, h3⟩ := en_and2 h1
  obtain ⟨h1, h2⟩ := en_and2 h1
  have h2 := en_le_iff.mp h2
  obtain ⟨y, rfl, gy⟩ := en_isI_of h1 gb
  obtain ⟨x, rfl, gx⟩ := en_isI_of h3 ga
  have i := en_ivx hR.1 gx
  have iy := en_ivx hR.1 gy
  refine ei_fresh (x := x / y) (s := r) (s' := r2) ?_ hR hs (en_div_ok i.1 i.2 h2 iy.1) h
  simp only [sm_iq]
  rw [if_neg]
  intro c
  subst c
  have e0 : (0 : Int32).toInt = 0 := by decide
  omega
end EnI
