/-! contracts, cuts, methods -/
abbrev en_Pf : Type := List (Nat × Nat × Int × Int)
/-- a contract: method, arguments, facts of cells ahead, answer, what it writes, depth of calls -/
abbrev en_Ct : Type := Nat × List en_Fd × en_Pf × en_Fd × en_W × Nat
/-- a cut: block, live locals, stack, facts of cells, measure -/
abbrev en_Cu : Type := Nat × List en_Fd × List en_Fd × en_Pf × Int × List Int
def en_pv (t : en_Fd) (v : Value) : Prop := match v with
  | .int x => t.1 = 0 ∧ t.2.1 ≤ x.toInt ∧ x.toInt ≤ t.2.2
  | .long _ => t.1 = 5
  | .null => t.1 = 1
  | .ref p => t.1 = 2 ∧ t.2.1 = (p : Int)
  | _ => False
def en_pvs : List en_Fd → List Value → Prop
  | [], [] => True
  | t :: ts, v :: vs => en_pv t v ∧ en_pvs ts vs
  | [], _ :: _ => False
  | _ :: _, [] => False
def en_pf (pf : en_Pf) (w : sm_W) : Prop := ∀ e, e ∈ pf → e.2.2.1 ≤ (w.2.1 e.1 e.2.1).toInt ∧ (w.2.1 e.1 e.2.1).toInt ≤ e.2.2.2
def en_pr (t : en_Fd) (o : Option Value) : Prop := match o with
  | none => t.1 = 9
  | some v => en_pv t v ∨ (t.1 = 3 ∧ ((∃ p : Nat, v = .ref p ∧ t.2.1 = (p : Int)) ∨ ∃ p : Nat, v = .ref p ∧ t.2.2 = (p : Int)))
def en_hold (tb : en_Tb) (X : sm_W → Prop) (P : Nat → sm_M) (Sc : sm_C) (c : en_Ct) : Prop := ∀ (d : Nat), c.2.2.2.2.2 ≤ d → ∀ (vs : List Value) (w : sm_W), en_pvs c.2.1 vs → en_mem tb X w → en_pf c.2.2.1 w → sm_wp P Sc d c.1 0 vs [] w (0, 0) (fun z => en_pr c.2.2.2.1 z.1 ∧ en_mem tb X z.2 ∧ en_fr c.2.2.2.2.1 w z.2)
noncomputable def en_pm (E : en_E) (t : en_Fd) (a : en_V) : Bool := bif Nat.beq t.1 0 then en_isI a.1 && en_sub (en_iv E a) t.2 else bif Nat.beq t.1 2 then Nat.beq a.1 2 && en_eq a.2 t.2.1 else (Nat.beq t.1 1 && Nat.beq a.1 1) || (Nat.beq t.1 5 && Nat.beq a.1 5)
noncomputable def en_pms (E : en_E) : List en_Fd → List en_V → Bool
  | [], [] => true
  | t :: ts, a :: as => en_pm E t a && en_pms E ts as
  | _, _ => false
noncomputable def en_pfc (tb : en_Tb) (S : en_S) (E : en_E) (e : Nat × Nat × Int × Int) : Bool := match en_find S 0 e.1 (0, (e.2.1 : Int)) with
  | some v => en_isI v.1 && en_sub (en_iv E v) e.2.2
  | none => match en_int tb e.1 e.2.1 with
    | some q => en_sub q e.2.2
    | none => false
noncomputable def en_ini : List en_Fd → en_E → (en_E → List en_V → Bool) → Bool
  | [], E, c => c E []
  | t :: ts, E, c => bif Nat.beq t.1 0 then en_new E t.2 (fun E v => en_ini ts E (fun E vs => c E (v :: vs))) else bif Nat.beq t.1 2 then en_ini ts E (fun E vs => c E ((2, t.2.1) :: vs)) else bif Nat.beq t.1 1 then en_ini ts E (fun E vs => c E ((1, 0) :: vs)) else bif Nat.beq t.1 5 then en_ini ts E (fun E vs => c E ((5, 0) :: vs)) else true
noncomputable def en_inf : en_Pf → en_E → en_S → (en_E → en_S → Bool) → Bool
  | [], E, S, c => c E S
  | e :: r, E, S, c => en_new E e.2.2 (fun E v => en_inf r E ((0, e.1, (0, (e.2.1 : Int)), v) :: S) c)
section EnP
variable {tb : en_Tb} {X : sm_W → Prop} {W : en_W} {w w0 : sm_W} {ρ : List Int} {E : en_E} {S : en_S} {a : en_V} {v : Value} {t : en_Fd}
theorem en_pm_ok (h : en_pm E t a = true) (hE : en_sat ρ E) (hg : en_g ρ a v) : en_pv t v := by
  unfold en_pm at h
  rcases en_bif h with ⟨q, h⟩ | ⟨-, h⟩
  · obtain ⟨h1, h2⟩ := en_and2 h
    obtain ⟨x, rfl, gx⟩ := en_isI_of h1 hg
    have i := en_ivx hE gx
    have s := en_sub_of h2
    exact ⟨en_beq q, by omega, by omega⟩
  · rcases en_bif h with ⟨q, h⟩ | ⟨-, h⟩
    · obtain ⟨h1, h2⟩ := en_and2 h
      obtain ⟨p, rfl, e⟩ := en_ref_of (en_beq h1) hg
      exact ⟨en_beq q, by rw [← en_eq_iff.mp h2, e]⟩
    · rcases Bool.or_eq_true_iff.mp h with h | h
      · obtain ⟨h1, h2⟩ := en_and2 h
        have := en_null_of (en_beq h2) hg
        subst this
        exact en_beq h1
      · obtain ⟨h1, h2⟩ := en_and2 h
        obtain ⟨x, rfl⟩ := en_long_of (en_beq h2) hg
        exact en_beq h1
theorem en_pms_ok (hE : en_sat ρ E) : ∀ {ts : List en_Fd} {as : List en_V} {vs : List Value}, en_pms E ts as = true → en_gs ρ as vs → en_pvs ts vs
  | [], [], [], _, _ => trivial
  | t :: ts, a :: as, v :: vs, h, hg => by
    obtain ⟨h1, h2⟩ := en_and2 h
    exact ⟨en_pm_ok h1 hE hg.1, en_pms_ok hE h2 hg.2⟩
  | [], _ :: _, _, h, _ => by cases h
  | _ :: _, [], _, h, _ => by cases h
  | [], [], _ :: _, _, hg => hg.elim
  | _ :: _, _ :: _, [], _, hg => hg.elim
theorem en_pfc_ok {e : Nat × Nat × Int × Int} (h : en_pfc tb S E e = true) (hE : en_sat ρ E) (hm : en_mem tb X w) (hS : en_st ρ w S) : e.2.2.1 ≤ (w.2.1 e.1 e.2.1).toInt ∧ (w.2.1 e.1 e.2.1).toInt ≤ e.2.2.2 := by
  unfold en_pfc at h
  split at h
  · next v e1 =>
    obtain ⟨h1, h2⟩ := en_and2 h
    obtain ⟨n, g1, g2⟩ := (hS _ (en_find_ok e1)).1 rfl
    have g1 : en_gi ρ (0, (e.2.1 : Int)) (n : Int) := g1
    have en : n = e.2.1 := by
      rcases g1 with ⟨-, q⟩ | ⟨q, -⟩
      · have : (n : Int) = (e.2.1 : Int) := q; omega
      · have q : 7 ≤ 0 := q; omega
    subst en
    have g2 : en_gi ρ v (w.2.1 e.1 e.2.1).toInt := g2
    have i := en_ivx hE g2
    have s := en_sub_of h2
    omega
  · split at h
    · next q hq =>
      have s := en_sub_of h
      have := hm.2.1 _ _ _ hq
      omega
    · cases h
theorem en_pf_ok {pf : en_Pf} (h : pf.all (en_pfc tb S E) = true) (hE : en_sat ρ E) (hm : en_mem tb X w) (hS : en_st ρ w S) : en_pf pf w := fun e he => en_pfc_ok (List.all_eq_true.mp h e he) hE hm hS
theorem en_ini_ok : ∀ (ts : List en_Fd) (ρ : List Int) (E : en_E) (c : en_E → List en_V → Bool) (vs : List Value), en_ini ts E c = true → en_sat ρ E → en_pvs ts vs → ∃ ys E' as, en_sat (ρ ++ ys) E' ∧ en_gs (ρ ++ ys) as vs ∧ c E' as = true
  | [], ρ, E, c, [], h, hE, _ => ⟨[], E, [], by rw [List.append_nil]; exact hE, trivial, h⟩
  | t :: ts, ρ, E, c, v :: vs, h, hE, hp => by
    have h : (bif Nat.beq t.1 0 then en_new E t.2 (fun E v => en_ini ts E (fun E vs => c E (v :: vs))) else bif Nat.beq t.1 2 then en_ini ts E (fun E vs => c E ((2, t.2.1) :: vs)) else bif Nat.beq t.1 1 then en_ini ts E (fun E vs => c E ((1, 0) :: vs)) else bif Nat.beq t.1 5 then en_ini ts E (fun E vs => c E ((5, 0) :: vs)) else true) = true := h
    have hv := hp.1
    have rest : ∀ a, en_g ρ a v → en_ini ts E (fun E vs => c E (a :: vs)) = true → ∃ ys E' as, en_sat (ρ ++ ys) E' ∧ en_gs (ρ ++ ys) as (v :: vs) ∧ c E' as = true := by
      intro a ha hc
      obtain ⟨ys, E', as, g1, g2, g3⟩ := en_ini_ok ts ρ E _ vs hc hE hp.2
      exact ⟨ys, E', a :: as, g1, ⟨en_g_app ys ha, g2⟩, g3⟩
    cases v with
    | int x =>
      have q : Nat.beq t.1 0 = true := by rw [hv.1]; rfl
      rw [q] at h
      have h : en_new E t.2 (fun E v => en_ini ts E (fun E vs => c E (v :: vs))) = true := h
      obtain ⟨E1, r, g1, g2, g3⟩ := en_new_ok hE h x.toInt hv.2
      obtain ⟨ys, E', as, k1, k2, k3⟩ := en_ini_ok ts _ E1 _ vs g3 g1 hp.2
      refine ⟨[x.toInt] ++ ys, E', r :: as, by rw [← List.append_assoc]; exact k1, ⟨?_, ?_⟩, k3⟩
      · rw [← List.append_assoc]
        exact en_gi_app ys g2
      · rw [← List.append_assoc]
        exact k2
    | ref p =>
      have q0 : Nat.beq t.1 0 = false := by rw [hv.1]; rfl
      have q2 : Nat.beq t.1 2 = true := by rw [hv.1]; rfl
      rw [q0, q2] at h
      exact rest (2, t.2.1) ⟨rfl, hv.2⟩ h
    | null =>
      have hv : t.1 = 1 := hv
      have q0 : Nat.beq t.1 0 = false := by rw [hv]; rfl
      have q2 : Nat.beq t.1 2 = false := by rw [hv]; rfl
      have q1 : Nat.beq t.1 1 = true := by rw [hv]; rfl
      rw [q0, q2, q1] at h
      exact rest (1, 0) rfl h
    | long x =>
      have hv : t.1 = 5 := hv
      have q0 : Nat.beq t.1 0 = false := by rw [hv]; rfl
      have q2 : Nat.beq t.1 2 = false := by rw [hv]; rfl
      have q1 : Nat.beq t.1 1 = false := by rw [hv]; rfl
      have q5 : Nat.beq t.1 5 = true := by rw [hv]; rfl
      rw [q0, q2, q1, q5] at h
      exact rest (5, 0) rfl h
    | float _ => exact hv.elim
    | double _ => exact hv.elim
    | retAddr _ => exact hv.elim
  | [], _, _, _, _ :: _, _, _, hp => hp.elim
  | _ :: _, _, _, _, [], _, _, hp => hp.elim
theorem en_inf_ok {w : sm_W} : ∀ (pf : en_Pf) (ρ : List Int) (E : en_E) (S : en_S) (c : en_E → en_S → Bool), en_inf pf E S c = true → en_sat ρ E → en_st ρ w S → en_pf pf w → ∃ ys E' S', en_sat (ρ ++ ys) E' ∧ en_st (ρ ++ ys) w S' ∧ c E' S' = true
  | [], ρ, E, S, c, h, hE, hS, _ => ⟨[], E, S, by rw [List.append_nil]; exact hE, by rw [List.append_nil]; exact hS, h⟩
  | e :: r, ρ, E, S, c, h, hE, hS, hp => by
    have h : en_new E e.2.2 (fun E v => en_inf r E ((0, e.1, (0, (e.2.1 : Int)), v) :: S) c) = true := h
    obtain ⟨E1, v, g1, g2, g3⟩ := en_new_ok hE h (w.2.1 e.1 e.2.1).toInt (hp e List.mem_cons_self)
    obtain ⟨ys, E', S', k1, k2, k3⟩ := en_inf_ok r _ E1 _ c g3 g1 (by
      intro e' he
      rcases List.mem_cons.mp he with rfl | he
      · exact ⟨fun _ => ⟨e.2.1, en_gi0 _, g2⟩, fun q => (by cases q)⟩
      · exact en_st_app _ hS e' he) (fun e' he => hp e' (List.mem_cons_of_mem _ he))
    exact ⟨[(w.2.1 e.1 e.2.1).toInt] ++ ys, E', S', by rw [← List.append_assoc]; exact k1, by rw [← List.append_assoc]; exact k2, k3⟩
end EnP
/-! a call by its contract -/
def en_wsub (W1 W2 : en_W) : Bool := W1.all (fun q => match q.2 with
  | [] => en_wall W2 q.1
  | l => l.all (fun j => en_wok W2 q.1 j))
theorem en_wsub_ok {W1 W2 : en_W} (h : en_wsub W1 W2 = true) {p j : Nat} (hw : en_wok W2 p j = false) : en_wok W1 p j = false := by
  cases e : en_wok W1 p j with
  | false => rfl
  | true =>
    exfalso
    obtain ⟨q, h1, h2⟩ := List.any_eq_true.mp e
    obtain ⟨h2, h3⟩ := en_and2 h2
    have h2 := en_beq h2
    subst h2
    have h4 := List.all_eq_true.mp h q h1
    have : en_wok W2 q.1 j = true := by
      split at h4
      · exact en_wall_ok h4 j
      · next l _ =>
        split at h3
        · next e2 => exact absurd e2 (by assumption)
        · obtain ⟨i, h5, h6⟩ := List.any_eq_true.mp h3
          have h6 := en_beq h6
          subst h6
          exact List.all_eq_true.mp h4 i h5
    rw [this] at hw
    cases hw
noncomputable def en_keepC (W : en_W) (e : Nat × Nat × en_V × en_V) : Bool := bif Nat.beq e.2.2.1.1 0 && en_le 0 e.2.2.1.2 then !(en_wok W e.2.1 e.2.2.1.2.toNat) else !(W.any (fun q => Nat.beq q.1 e.2.1))
theorem en_keepC_ok {W : en_W} {ρ : List Int} {w w' : sm_W} {S : en_S} (hf : en_fr W w w') (hS : en_st ρ w S) : en_st ρ w' (S.filter (en_keepC W)) := by
  intro e he
  obtain ⟨he, hk⟩ := List.mem_filter.mp he
  obtain ⟨h1, h2⟩ := hS e he
  have key : ∀ n : Nat, en_gi ρ e.2.2.1 n → en_wok W e.2.1 n = false := by
    intro n hn
    unfold en_keepC at hk
    rcases en_bif hk with ⟨q, hk⟩ | ⟨-, hk⟩
    · obtain ⟨q1, -⟩ := en_and2 q
      have q1 := en_beq q1
      rcases hn with ⟨-, e1⟩ | ⟨e1, -⟩
      · have : e.2.2.1.2.toNat = n := by omega
        rw [this] at hk
        cases c : en_wok W e.2.1 n with
        | false => rfl
        | true => rw [c] at hk; cases hk
      · omega
    · cases c : en_wok W e.2.1 n with
      | false => rfl
      | true =>
        exfalso
        obtain ⟨q, h3, h4⟩ := List.any_eq_true.mp c
        have : W.any (fun q => Nat.beq q.1 e.2.1) = true := List.any_eq_true.mpr ⟨q, h3, (en_and2 h4).1⟩
        rw [this] at hk
        cases hk
  refine ⟨fun q => ?_, fun q => ?_⟩
  · obtain ⟨n, g1, g2⟩ := h1 q
    exact ⟨n, g1, by rw [(hf.2 _ _ (key n g1)).1]; exact g2⟩
  · obtain ⟨n, r, g1, g2, g3⟩ := h2 q
    exact ⟨n, r, g1, g2, by rw [(hf.2 _ _ (key n (by rw [g1]; exact en_gi0 _))).2]; exact g3⟩
noncomputable def en_match (E : en_E) (g : Nat) (as : List en_V) (c : en_Ct) : Bool := Nat.beq c.1 g && en_pms E c.2.1 as
noncomputable def en_res (t : en_Fd) (E : en_E) (k : Option en_V → en_E → Bool) : Bool := bif Nat.beq t.1 9 then k none E else bif Nat.beq t.1 0 then en_new E t.2 (fun E v => k (some v) E) else bif Nat.beq t.1 2 then k (some (2, t.2.1)) E else bif Nat.beq t.1 3 then k (some (2, t.2.1)) E && k (some (2, t.2.2)) E else bif Nat.beq t.1 5 then k (some (5, 0)) E else false
def en_or (ρ : List Int) : Option en_V → Option Value → Prop
  | none, none => True
  | some a, some v => en_g ρ a v
  | _, _ => False
theorem en_res_ok {t : en_Fd} {ρ : List Int} {E : en_E} {k : Option en_V → en_E → Bool} {o : Option Value} (h : en_res t E k = true) (hE : en_sat ρ E) (ho : en_pr t o) : ∃ ys E' r, en_sat (ρ ++ ys) E' ∧ en_or (ρ ++ ys) r o ∧ k r E' = true := by
  unfold en_res at h
  have nn : ∀ {r : Option en_V}, en_or ρ r o → k r E = true → ∃ ys E' r, en_sat (ρ ++ ys) E' ∧ en_or (ρ ++ ys) r o ∧ k r E' = true := fun hr hk => ⟨[], E, _, by rw [List.append_nil]; exact hE, by rw [List.append_nil]; exact hr, hk⟩
  cases o with
  | none =>
    have ho : t.1 = 9 := ho
    have q : Nat.beq t.1 9 = true := by rw [ho]; rfl
    rw [q] at h
    exact nn (r := none) trivial h
  | some v =>
    rcases ho with ho | ⟨e3, ho⟩
    · cases v with
      | int x =>
        have q9 : Nat.beq t.1 9 = false := by rw [ho.1]; rfl
        have q0 : Nat.beq t.1 0 = true := by rw [ho.1]; rfl
        rw [q9, q0] at h
        have h : en_new E t.2 (fun E v => k (some v) E) = true := h
        obtain ⟨E1, r, g1, g2, g3⟩ := en_new_ok hE h x.toInt ho.2
        exact ⟨_, E1, some r, g1, g2, g3⟩
      | ref p =>
        have q9 : Nat.beq t.1 9 = false := by rw [ho.1]; rfl
        have q0 : Nat.beq t.1 0 = false := by rw [ho.1]; rfl
        have q2 : Nat.beq t.1 2 = true := by rw [ho.1]; rfl
        rw [q9, q0, q2] at h
        exact nn (r := some (2, t.2.1)) ⟨rfl, ho.2⟩ h
      | long x =>
        have ho : t.1 = 5 := ho
        have q9 : Nat.beq t.1 9 = false := by rw [ho]; rfl
        have q0 : Nat.beq t.1 0 = false := by rw [ho]; rfl
        have q2 : Nat.beq t.1 2 = false := by rw [ho]; rfl
        have q3 : Nat.beq t.1 3 = false := by rw [ho]; rfl
        have q5 : Nat.beq t.1 5 = true := by rw [ho]; rfl
        rw [q9, q0, q2, q3, q5] at h
        exact nn (r := some (5, 0)) rfl h
      | null =>
        have ho : t.1 = 1 := ho
        have q9 : Nat.beq t.1 9 = false := by rw [ho]; rfl
        have q0 : Nat.beq t.1 0 = false := by rw [ho]; rfl
        have q2 : Nat.beq t.1 2 = false := by rw [ho]; rfl
        have q3 : Nat.beq t.1 3 = false := by rw [ho]; rfl
        have q5 : Nat.beq t.1 5 = false := by rw [ho]; rfl
        rw [q9, q0, q2, q3, q5] at h
        cases h
      | float _ => exact ho.elim
      | double _ => exact ho.elim
      | retAddr _ => exact ho.elim
    · have q9 : Nat.beq t.1 9 = false := by rw [e3]; rfl
      have q0 : Nat.beq t.1 0 = false := by rw [e3]; rfl
      have q2 : Nat.beq t.1 2 = false := by rw [e3]; rfl
      have q3 : Nat.beq t.1 3 = true := by rw [e3]; rfl
      rw [q9, q0, q2, q3] at h
      obtain ⟨h1, h2⟩ := en_and2 h
      rcases ho with ⟨p, rfl, e⟩ | ⟨p, rfl, e⟩
      · exact nn (r := some (2, t.2.1)) ⟨rfl, e⟩ h1
      · exact nn (r := some (2, t.2.2)) ⟨rfl, e⟩ h2
