/-! arrays and fields -/
noncomputable def ab_sI (L : Nat) (p : Nat) (c : Nat → (Nat → ab_V) → Bool) : Bool :=
  ab_if (Nat.beq p 1004) (false) (ab_if (Nat.beq p 1001) (c sm_steps.length (fun j => (0, (sm_steps.getD j 0).toInt))) (ab_if (Nat.beq p 1002) (c sm_room.length (fun j => (0, (sm_room.getD j 0).toInt))) (ab_if (Nat.beq p 1003) (c sm_withyes.length (fun j => (0, (sm_withyes.getD j 0).toInt))) (false))))
theorem ab_sI_ok {L NS p : Nat} {xs ys : Nat → Int32} {c : Nat → (Nat → ab_V) → Bool} (hy : ∀ j, j < L → ys j = xs j) (h : ab_sI L p c = true) : 1000 ≤ p ∧ ∃ n f g, sm_sI (NS, ys) p = some (n, f) ∧ (∀ j, j < n → ab_g xs (g j) (.int (f j))) ∧ c n g = true := by
  unfold ab_sI at h
  rcases ab_bif h with ⟨e, h⟩ | ⟨-, h⟩
  · replace e := ab_beq e
    subst e
    cases h
  · rcases ab_bif h with ⟨e, h⟩ | ⟨-, h⟩
    · replace e := ab_beq e
      subst e
      exact ⟨by decide, _, _, _, rfl, fun j _ => ab_gi0 _, h⟩
    · rcases ab_bif h with ⟨e, h⟩ | ⟨-, h⟩
      · replace e := ab_beq e
        subst e
        exact ⟨by decide, _, _, _, rfl, fun j _ => ab_gi0 _, h⟩
      · replace h := ab_bif0 h; obtain ⟨e, h⟩ := h
        replace e := ab_beq e
        subst e
        exact ⟨by decide, _, _, _, rfl, fun j _ => ab_gi0 _, h⟩
section AbA
variable {L NS : Nat} {xs ys : Nat → Int32} {E : ab_E} {lv : ab_L} {st : List ab_V} {M : ab_M} {lv' : sm_V} {st' : List Value} {lay : List (Nat × Nat)} {m : sm_Y} {k : ab_L → List ab_V → ab_M → Bool}
theorem ab_none {p : Nat} (hr : ab_rm xs M (lay, m)) (h : 1000 ≤ p) : lay[p]? = none := by
  have h1 : lay.length = M.1 := hr.1
  have h2 := hr.2.1
  exact List.getElem?_eq_none (by omega)
noncomputable def ai_ld (a : ab_V) (E : ab_E) (lv : ab_L) (st : List ab_V) (M : ab_M) (k : ab_L → List ab_V → ab_M → Bool) : Bool := ab_fv a (fun a => ab_if (ab_isI a.1) (ab_nrm E a (fun a => k lv (a :: st) M)) (false))
theorem ai_ld_ok {a : ab_V} {x : Int32} {o : Option (List Value)} (hE : ab_sat xs E) (hl : ab_gl xs lv lv') (hs : ab_gs xs st st') (hr : ab_rm xs M (lay, m)) (g : ab_g xs a (.int x)) (e : o = some (.int x :: st')) (h : ai_ld a E lv st M k = true) : ab_ok xs lay (sm_p lv' m o) k := by
  unfold ai_ld at h
  rw [ab_fv_eq] at h
  replace h := ab_bif0 h; obtain ⟨-, h⟩ := h
  obtain ⟨r, g1, g2⟩ := ab_nrm_ok h hE g
  exact ab_ok_p (s' := .int x :: st') (s := r :: st) e hl ⟨g1, hs⟩ hr g2
noncomputable def ai_gI (L : Nat) (E : ab_E) (lv : ab_L) (st : List ab_V) (M : ab_M) (k : ab_L → List ab_V → ab_M → Bool) : Bool := List.rec (motive := fun _ => Bool) false (fun i r_1 _ => List.rec (motive := fun _ => Bool) false (fun b r _ => ab_rf b (fun p => ab_if (Nat.blt p 1000) (ab_cell M p (fun kd n t => ab_if (Nat.beq kd 1) (ab_ix i n (fun j => ai_ld (ab_tg t j) E lv r M k)) (false))) (ab_sI L p (fun n g => ab_ix i n (fun j => ai_ld (g j) E lv r M k))))) r_1) st
theorem ai_gI_ok (hy : ∀ j, j < L → ys j = xs j) (hE : ab_sat xs E) (hl : ab_gl xs lv lv') (hs : ab_gs xs st st') (hr : ab_rm xs M (lay, m)) (h : ai_gI L E lv st M k = true) : ab_ok xs lay (sm_p lv' m (sm_gI (NS, ys) lay m st')) k := by
  revert hs h
  refine ab_two (P := fun st => ab_gs xs st st' → ai_gI L E lv st M k = true → _) (fun _ h => by cases h) (fun _ _ h => by cases h) (fun i b r hs h => ?_) st
  replace hs := ab_gs_cons hs; obtain ⟨u, r1, rfl, gi, hs⟩ := hs
  replace hs := ab_gs_cons hs; obtain ⟨v, r2, rfl, gb, hs⟩ := hs
  replace h := ab_rf_ok h gb; obtain ⟨p, rfl, h⟩ := h
  rcases ab_bif h with ⟨-, h⟩ | ⟨-, h⟩
  · replace h := ab_cell_ok h; obtain ⟨hp, kd, n, t, e, h⟩ := h
    replace h := ab_bif0 h; obtain ⟨hk, h⟩ := h
    replace hk := ab_beq hk
    subst hk
    replace h := ab_ix_ok h gi; obtain ⟨x, rfl, hx, hx2, h⟩ := h
    obtain ⟨c1, c2⟩ := ab_cell_at hr hp e
    have c1 : lay[p]? = some (1, n) := c1
    refine ai_ld_ok (x := m.1 p x.toNatClampNeg) hE hl hs hr (c2 _ hx2) ?_ h
    simp only [sm_gI, c1]
    rw [if_neg hx]
  · replace h := ab_sI_ok (NS := NS) (xs := xs) hy h; obtain ⟨hp, n, f, g, e, hg, h⟩ := h
    replace h := ab_ix_ok h gi; obtain ⟨x, rfl, hx, hx2, h⟩ := h
    refine ai_ld_ok (x := f x.toNatClampNeg) hE hl hs hr (hg _ hx2) ?_ h
    simp only [sm_gI, ab_none hr hp, e]
    rw [if_neg hx]
noncomputable def ai_gB (E : ab_E) (lv : ab_L) (st : List ab_V) (M : ab_M) (k : ab_L → List ab_V → ab_M → Bool) : Bool := List.rec (motive := fun _ => Bool) false (fun i r_1 _ => List.rec (motive := fun _ => Bool) false (fun b r _ => ab_rf b (fun p => ab_cell M p (fun kd n t => ab_if (ab_oo (Nat.beq kd 2) (Nat.beq kd 3)) (ab_ix i n (fun j => ai_ld (ab_tg t j) E lv r M k)) (false)))) r_1) st
theorem ai_gB_ok (hE : ab_sat xs E) (hl : ab_gl xs lv lv') (hs : ab_gs xs st st') (hr : ab_rm xs M (lay, m)) (h : ai_gB E lv st M k = true) : ab_ok xs lay (sm_p lv' m (sm_gB lay m st')) k := by
  revert hs h
  refine ab_two (P := fun st => ab_gs xs st st' → ai_gB E lv st M k = true → _) (fun _ h => by cases h) (fun _ _ h => by cases h) (fun i b r hs h => ?_) st
  replace hs := ab_gs_cons hs; obtain ⟨u, r1, rfl, gi, hs⟩ := hs
  replace hs := ab_gs_cons hs; obtain ⟨v, r2, rfl, gb, hs⟩ := hs
  replace h := ab_rf_ok h gb; obtain ⟨p, rfl, h⟩ := h
  replace h := ab_cell_ok h; obtain ⟨hp, kd, n, t, e, h⟩ := h
  replace h := ab_bif0 h; obtain ⟨hk, h⟩ := h
  replace h := ab_ix_ok h gi; obtain ⟨x, rfl, hx, hx2, h⟩ := h
  obtain ⟨c1, c2⟩ := ab_cell_at hr hp e
  rcases ab_or2 hk with hk | hk
  · replace hk := ab_beq hk
    subst hk
    have c1 : lay[p]? = some (2, n) := c1
    refine ai_ld_ok (x := m.1 p x.toNatClampNeg) hE hl hs hr (c2 _ hx2) ?_ h
    simp only [sm_gB, c1]
    rw [if_neg hx]
  · replace hk := ab_beq hk
    subst hk
    have c1 : lay[p]? = some (3, n) := c1
    refine ai_ld_ok (x := m.1 p x.toNatClampNeg) hE hl hs hr (c2 _ hx2) ?_ h
    simp only [sm_gB, c1]
    rw [if_neg hx]
noncomputable def ai_gL (lv : ab_L) (st : List ab_V) (M : ab_M) (k : ab_L → List ab_V → ab_M → Bool) : Bool := List.rec (motive := fun _ => Bool) false (fun i r_1 _ => List.rec (motive := fun _ => Bool) false (fun b r _ => ab_rf b (fun p => ab_if (Nat.blt p 1000) (ab_cell M p (fun kd n t => ab_if (Nat.beq kd 4) (ab_ix i n (fun j => ab_fv (ab_tg t j) (fun a => k lv (a :: r) M))) (false))) (ab_if (Nat.beq p 1000) (ab_ix i sm_words.length (fun j => ab_fi (sm_words.getD j 0).toInt (fun i => k lv ((4, i) :: r) M))) (false)))) r_1) st
set_option maxRecDepth 20000 in
theorem ai_gL_ok (hl : ab_gl xs lv lv') (hs : ab_gs xs st st') (hr : ab_rm xs M (lay, m)) (h : ai_gL lv st M k = true) : ab_ok xs lay (sm_p lv' m (sm_gL lay m st')) k := by
  revert hs h
  refine ab_two (P := fun st => ab_gs xs st st' → ai_gL lv st M k = true → _) (fun _ h => by cases h) (fun _ _ h => by cases h) (fun i b r hs h => ?_) st
  replace hs := ab_gs_cons hs; obtain ⟨u, r1, rfl, gi, hs⟩ := hs
  replace hs := ab_gs_cons hs; obtain ⟨v, r2, rfl, gb, hs⟩ := hs
  replace h := ab_rf_ok h gb; obtain ⟨p, rfl, h⟩ := h
  rcases ab_bif h with ⟨-, h⟩ | ⟨-, h⟩
  · replace h := ab_cell_ok h; obtain ⟨hp, kd, n, t, e, h⟩ := h
    replace h := ab_bif0 h; obtain ⟨hk, h⟩ := h
    replace hk := ab_beq hk
    subst hk
    replace h := ab_ix_ok h gi; obtain ⟨x, rfl, hx, hx2, h⟩ := h
    obtain ⟨c1, c2⟩ := ab_cell_at hr hp e
    have c1 : lay[p]? = some (4, n) := c1
    rw [ab_fv_eq] at h
    refine ab_ok_p (s' := .long (m.2.1 p x.toNatClampNeg) :: r2) (s := ab_tg t x.toNatClampNeg :: r) ?_ hl ⟨c2 _ hx2, hs⟩ hr h
    simp only [sm_gL, c1]
    rw [if_neg hx]
  · replace h := ab_bif0 h; obtain ⟨hp, h⟩ := h
    replace hp := ab_beq hp
    subst hp
    replace h := ab_ix_ok h gi; obtain ⟨x, rfl, hx, hx2, h⟩ := h
    rw [ab_fi_eq] at h
    refine ab_ok_p (s' := .long (sm_words.getD x.toNatClampNeg 0) :: r2) (s := (4, (sm_words.getD x.toNatClampNeg 0).toInt) :: r) ?_ hl ⟨Or.inl ⟨rfl, rfl⟩, hs⟩ hr h
    simp only [sm_gL, ab_none hr (Nat.le_refl 1000), sm_sL]
    rw [if_neg hx]
noncomputable def ai_len (L : Nat) (lv : ab_L) (st : List ab_V) (M : ab_M) (k : ab_L → List ab_V → ab_M → Bool) : Bool := List.rec (motive := fun _ => Bool) false (fun b r _ => ab_rf b (fun p => ab_if (Nat.blt p 1000) (ab_cell M p (fun kd n _ => ab_if (ab_an (Nat.ble 1 kd) (Nat.ble kd 4)) (ai_ci (Int32.ofNat n) lv r M k) (false))) (ab_if (Nat.beq p 1000) (ai_ci (Int32.ofNat sm_words.length) lv r M k) (ab_sI L p (fun n _ => ai_ci (Int32.ofNat n) lv r M k))))) st
theorem ai_len_ok (hy : ∀ j, j < L → ys j = xs j) (hl : ab_gl xs lv lv') (hs : ab_gs xs st st') (hr : ab_rm xs M (lay, m)) (h : ai_len L lv st M k = true) : ab_ok xs lay (sm_p lv' m (sm_len (NS, ys) lay st')) k := by
  cases st with
  | nil => cases h
  | cons b r =>
    replace hs := ab_gs_cons hs; obtain ⟨v, r2, rfl, gb, hs⟩ := hs
    replace h := ab_rf_ok h gb; obtain ⟨p, rfl, h⟩ := h
    rcases ab_bif h with ⟨-, h⟩ | ⟨-, h⟩
    · replace h := ab_cell_ok h; obtain ⟨hp, kd, n, t, e, h⟩ := h
      replace h := ab_bif0 h; obtain ⟨hk, h⟩ := h
      replace hk := ab_and2 hk; obtain ⟨hk, hk2⟩ := hk
      replace hk := ab_ble hk
      replace hk2 := ab_ble hk2
      obtain ⟨c1, -⟩ := ab_cell_at hr hp e
      have c1 : lay[p]? = some (kd, n) := c1
      obtain ⟨q, q1, q2⟩ := ai_ci_ok hl hs hr h
      refine ⟨q, ?_, q2⟩
      rw [← q1]
      cases kd with
      | zero => omega
      | succ kd =>
        simp only [sm_len, c1]
        rw [if_pos (by omega)]
        rfl
    · rcases ab_bif h with ⟨hp, h⟩ | ⟨-, h⟩
      · replace hp := ab_beq hp
        subst hp
        obtain ⟨q, q1, q2⟩ := ai_ci_ok hl hs hr h
        refine ⟨q, ?_, q2⟩
        rw [← q1]
        simp only [sm_len, ab_none hr (Nat.le_refl 1000), sm_sL, sm_sI]
        rfl
      · replace h := ab_sI_ok (NS := NS) (xs := xs) hy h; obtain ⟨hp, n, f, g, e, -, h⟩ := h
        obtain ⟨q, q1, q2⟩ := ai_ci_ok hl hs hr h
        refine ⟨q, ?_, q2⟩
        rw [← q1]
        simp only [sm_len, ab_none hr hp, e]
        rfl
theorem ab_three {P : List ab_V → Prop} (h0 : P []) (h1 : ∀ a, P [a]) (h2 : ∀ a b, P [a, b]) (h3 : ∀ a b c r, P (a :: b :: c :: r)) : ∀ st, P st
  | [] => h0
  | [a] => h1 a
  | [a, b] => h2 a b
  | a :: b :: c :: r => h3 a b c r
theorem ab_up_eq {α : Type} (f : Nat → Nat → α) (p j : Nat) (v : α) : sm_up f p j v p j = v := by simp [sm_up]
theorem ab_up_j {α : Type} (f : Nat → Nat → α) (p j : Nat) (v : α) {j' : Nat} (h : j' ≠ j) : sm_up f p j v p j' = f p j' := by simp [sm_up, h]
theorem ab_up_p {α : Type} (f : Nat → Nat → α) (p j : Nat) (v : α) {p' : Nat} (h : p' ≠ p) (j' : Nat) : sm_up f p j v p' j' = f p' j' := by simp [sm_up, h]
theorem ab_setI {c : ab_M → Bool} {p kd n : Nat} {t : ab_T} {j : Nat} {a : ab_V} {x : Int32} (hr : ab_rm xs M (lay, m)) (hp : p < M.1) (e : ab_tg M.2 p = (kd, n, t)) (h0 : kd ≠ 0) (h4 : kd ≠ 4) (hj : j < n) (ha : ab_g xs a (.int x)) (h : ab_mset M p kd n t j a c = true) : ∃ M', ab_rm xs M' (lay, (sm_up m.1 p j x, m.2)) ∧ c M' = true := by
  refine ab_mset_ok (w' := (lay, (sm_up m.1 p j x, m.2))) hr hp e (by rw [ab_bd, if_neg h0]; exact hj) ha rfl ?_ ?_ ?_ h
  · simp only [ab_val]; rw [if_neg h0, if_neg h4, ab_up_eq]
  · intro j' hj'
    simp only [ab_val]; rw [if_neg h0, if_neg h4, if_neg h0, if_neg h4, ab_up_j _ _ _ _ hj']
  · intro p' kd' j' hp'
    simp only [ab_val]
    rw [ab_up_p _ _ _ _ hp', ab_up_p _ _ _ _ hp']
noncomputable def ai_pI (lv : ab_L) (st : List ab_V) (M : ab_M) (k : ab_L → List ab_V → ab_M → Bool) : Bool := List.rec (motive := fun _ => Bool) false (fun a r_1 _ => List.rec (motive := fun _ => Bool) false (fun i r_2 _ => List.rec (motive := fun _ => Bool) false (fun b r _ => ab_rf b (fun p => ab_cell M p (fun kd n t => ab_if (ab_an (Nat.beq kd 1) (ab_isI a.1)) (ab_ix i n (fun j => ab_mset M p kd n t j a (fun M' => k lv r M'))) (false)))) r_2) r_1) st
theorem ai_pI_ok (hl : ab_gl xs lv lv') (hs : ab_gs xs st st') (hr : ab_rm xs M (lay, m)) (h : ai_pI lv st M k = true) : ab_ok xs lay (sm_pI lv' lay m st') k := by
  revert hs h
  refine ab_three (P := fun st => ab_gs xs st st' → ai_pI lv st M k = true → _) (fun _ h => by cases h) (fun _ _ h => by cases h) (fun _ _ _ h => by cases h) (fun a i b r hs h => ?_) st
  replace hs := ab_gs_cons hs; obtain ⟨y, r0, rfl, ga, hs⟩ := hs
  replace hs := ab_gs_cons hs; obtain ⟨u, r1, rfl, gi, hs⟩ := hs
  replace hs := ab_gs_cons hs; obtain ⟨v, r2, rfl, gb, hs⟩ := hs
  replace h := ab_rf_ok h gb; obtain ⟨p, rfl, h⟩ := h
  replace h := ab_cell_ok h; obtain ⟨hp, kd, n, t, e, h⟩ := h
  replace h := ab_bif0 h; obtain ⟨hk, h⟩ := h
  replace hk := ab_and2 hk; obtain ⟨hk, ha⟩ := hk
  replace hk := ab_beq hk
  subst hk
  obtain ⟨y, rfl, gy⟩ := ab_isI_of ha ga
  replace h := ab_ix_ok h gi; obtain ⟨x, rfl, hx, hx2, h⟩ := h
  obtain ⟨c1, -⟩ := ab_cell_at hr hp e
  have c1 : lay[p]? = some (1, n) := c1
  obtain ⟨M', q1, q2⟩ := ab_setI hr hp e (by decide) (by decide) hx2 ga h
  exact ⟨(lv', r2, (sm_up m.1 p x.toNatClampNeg y, m.2)), by simp only [sm_pI, c1]; rw [if_neg hx], lv, r, M', hl, hs, q1, q2⟩
noncomputable def ab_nar (f : Int32 → Int32) (a : ab_V) (c : ab_V → Bool) : Bool := ab_if (Nat.beq a.1 0) (ab_fi (f (Int32.ofInt a.2)).toInt (fun i => c (0, i))) (ab_if (ab_isI a.1) (c (3, 0)) (false))
theorem ab_nar_ok {f : Int32 → Int32} {a : ab_V} {v : Value} {c : ab_V → Bool} (h : ab_nar f a c = true) (g : ab_g xs a v) : ∃ (x : Int32) (r : ab_V), v = .int x ∧ ab_g xs r (.int (f x)) ∧ c r = true := by
  unfold ab_nar at h
  rcases ab_bif h with ⟨h1, h⟩ | ⟨-, h⟩
  · obtain ⟨x, rfl, gx⟩ := ab_isI_of (ab_isI0 (ab_beq h1)) g
    rw [ab_fi_eq, ← ab_cI (ab_beq h1) gx] at h
    exact ⟨x, _, rfl, ab_gi0 _, h⟩
  · replace h := ab_bif0 h; obtain ⟨h1, h⟩ := h
    obtain ⟨x, rfl, gx⟩ := ab_isI_of h1 g
    exact ⟨x, _, rfl, ab_gi3 _ _, h⟩
noncomputable def ai_pB (lv : ab_L) (st : List ab_V) (M : ab_M) (k : ab_L → List ab_V → ab_M → Bool) : Bool := List.rec (motive := fun _ => Bool) false (fun a r_1 _ => List.rec (motive := fun _ => Bool) false (fun i r_2 _ => List.rec (motive := fun _ => Bool) false (fun b r _ => ab_rf b (fun p => ab_cell M p (fun kd n t => ab_if (Nat.beq kd 2) (ab_ix i n (fun j => ab_nar (vp_nar .byte) a (fun a => ab_mset M p kd n t j a (fun M' => k lv r M')))) (ab_if (Nat.beq kd 3) (ab_ix i n (fun j => ab_nar (vp_nar .boolean) a (fun a => ab_mset M p kd n t j a (fun M' => k lv r M')))) (false))))) r_2) r_1) st
theorem ai_pB_ok (hl : ab_gl xs lv lv') (hs : ab_gs xs st st') (hr : ab_rm xs M (lay, m)) (h : ai_pB lv st M k = true) : ab_ok xs lay (sm_pB lv' lay m st') k := by
  revert hs h
  refine ab_three (P := fun st => ab_gs xs st st' → ai_pB lv st M k = true → _) (fun _ h => by cases h) (fun _ _ h => by cases h) (fun _ _ _ h => by cases h) (fun a i b r hs h => ?_) st
  replace hs := ab_gs_cons hs; obtain ⟨y, r0, rfl, ga, hs⟩ := hs
  replace hs := ab_gs_cons hs; obtain ⟨u, r1, rfl, gi, hs⟩ := hs
  replace hs := ab_gs_cons hs; obtain ⟨v, r2, rfl, gb, hs⟩ := hs
  replace h := ab_rf_ok h gb; obtain ⟨p, rfl, h⟩ := h
  replace h := ab_cell_ok h; obtain ⟨hp, kd, n, t, e, h⟩ := h
  obtain ⟨c1, -⟩ := ab_cell_at hr hp e
  rcases ab_bif h with ⟨hk, h⟩ | ⟨-, h⟩
  · replace hk := ab_beq hk
    subst hk
    replace h := ab_ix_ok h gi; obtain ⟨x, rfl, hx, hx2, h⟩ := h
    replace h := ab_nar_ok h ga; obtain ⟨y, a', rfl, g', h⟩ := h
    have c1 : lay[p]? = some (2, n) := c1
    obtain ⟨M', q1, q2⟩ := ab_setI hr hp e (by decide) (by decide) hx2 g' h
    exact ⟨(lv', r2, (sm_up m.1 p x.toNatClampNeg (vp_nar .byte y), m.2)), by simp only [sm_pB, c1]; rw [if_neg hx], lv, r, M', hl, hs, q1, q2⟩
  · replace h := ab_bif0 h; obtain ⟨hk, h⟩ := h
    replace hk := ab_beq hk
    subst hk
    replace h := ab_ix_ok h gi; obtain ⟨x, rfl, hx, hx2, h⟩ := h
    replace h := ab_nar_ok h ga; obtain ⟨y, a', rfl, g', h⟩ := h
    have c1 : lay[p]? = some (3, n) := c1
    obtain ⟨M', q1, q2⟩ := ab_setI hr hp e (by decide) (by decide) hx2 g' h
    exact ⟨(lv', r2, (sm_up m.1 p x.toNatClampNeg (vp_nar .boolean y), m.2)), by simp only [sm_pB, c1]; rw [if_neg hx], lv, r, M', hl, hs, q1, q2⟩
noncomputable def ai_pL (lv : ab_L) (st : List ab_V) (M : ab_M) (k : ab_L → List ab_V → ab_M → Bool) : Bool := List.rec (motive := fun _ => Bool) false (fun a r_1 _ => List.rec (motive := fun _ => Bool) false (fun i r_2 _ => List.rec (motive := fun _ => Bool) false (fun b r _ => ab_rf b (fun p => ab_cell M p (fun kd n t => ab_if (ab_an (Nat.beq kd 4) ((ab_oo (Nat.beq a.1 4) (Nat.beq a.1 5)))) (ab_ix i n (fun j => ab_mset M p kd n t j a (fun M' => k lv r M'))) (false)))) r_2) r_1) st
theorem ai_pL_ok (hl : ab_gl xs lv lv') (hs : ab_gs xs st st') (hr : ab_rm xs M (lay, m)) (h : ai_pL lv st M k = true) : ab_ok xs lay (sm_pL lv' lay m st') k := by
  revert hs h
  refine ab_three (P := fun st => ab_gs xs st st' → ai_pL lv st M k = true → _) (fun _ h => by cases h) (fun _ _ h => by cases h) (fun _ _ _ h => by cases h) (fun a i b r hs h => ?_) st
  replace hs := ab_gs_cons hs; obtain ⟨y, r0, rfl, ga, hs⟩ := hs
  replace hs := ab_gs_cons hs; obtain ⟨u, r1, rfl, gi, hs⟩ := hs
  replace hs := ab_gs_cons hs; obtain ⟨v, r2, rfl, gb, hs⟩ := hs
  replace h := ab_rf_ok h gb; obtain ⟨p, rfl, h⟩ := h
  replace h := ab_cell_ok h; obtain ⟨hp, kd, n, t, e, h⟩ := h
  replace h := ab_bif0 h; obtain ⟨hk, h⟩ := h
  replace hk := ab_and2 hk; obtain ⟨hk, ha⟩ := hk
  replace hk := ab_beq hk
  subst hk
  obtain ⟨y, rfl, gy⟩ := ab_long_of (ab_45 ha) ga
  replace h := ab_ix_ok h gi; obtain ⟨x, rfl, hx, hx2, h⟩ := h
  obtain ⟨c1, -⟩ := ab_cell_at hr hp e
  have c1 : lay[p]? = some (4, n) := c1
  obtain ⟨M', q1, q2⟩ := ab_mset_ok (w' := (lay, (m.1, sm_up m.2.1 p x.toNatClampNeg y, m.2.2))) hr hp e (by rw [ab_bd, if_neg (by decide)]; exact hx2) ga rfl (by simp only [ab_val]; rw [if_neg (by decide), if_pos trivial, ab_up_eq]) (by
    intro j' hj'
    simp only [ab_val]; rw [if_neg (by decide), if_pos trivial, if_neg (by decide), if_pos trivial, ab_up_j _ _ _ _ hj']) (by
    intro p' kd' j' hp'
    simp only [ab_val]
    rw [ab_up_p _ _ _ _ hp']) h
  exact ⟨(lv', r2, (m.1, sm_up m.2.1 p x.toNatClampNeg y, m.2.2)), by simp only [sm_pL, c1]; rw [if_neg hx], lv, r, M', hl, hs, q1, q2⟩
/-! fields -/
noncomputable def ai_get (E : ab_E) (c f : Nat) (lv : ab_L) (st : List ab_V) (M : ab_M) (k : ab_L → List ab_V → ab_M → Bool) : Bool := List.rec (motive := fun _ => Bool) false (fun b r _ => ab_rf b (fun p => ab_cell M p (fun kd n t => ab_if (ab_an ((ab_an (Nat.beq kd 0) (Nat.beq n c))) (Nat.blt f 128)) ((ab_if (Nat.beq (sm_cd c f) 1) (ab_fv (ab_tg t (Nat.succ (Nat.mul 2 f))) (fun a => k lv (a :: r) M)) (ai_ld (ab_tg t (Nat.mul 2 f)) E lv r M k))) (false)))) st
theorem ai_get_ok {c f : Nat} (hE : ab_sat xs E) (hl : ab_gl xs lv lv') (hs : ab_gs xs st st') (hr : ab_rm xs M (lay, m)) (h : ai_get E c f lv st M k = true) : ab_ok xs lay (sm_p lv' m (sm_get lay m c f st')) k := by
  cases st with
  | nil => cases h
  | cons b r =>
    replace hs := ab_gs_cons hs; obtain ⟨v, r2, rfl, gb, hs⟩ := hs
    replace h := ab_rf_ok h gb; obtain ⟨p, rfl, h⟩ := h
    replace h := ab_cell_ok h; obtain ⟨hp, kd, n, t, e, h⟩ := h
    replace h := ab_bif0 h; obtain ⟨hk, h⟩ := h
    replace hk := ab_and2 hk; obtain ⟨hk, hf⟩ := hk
    replace hk := ab_and2 hk; obtain ⟨hk, hn⟩ := hk
    replace hk := ab_beq hk
    replace hn := ab_beq hn
    replace hf := ab_blt hf
    subst hk
    subst hn
    obtain ⟨c1, c2⟩ := ab_cell_at hr hp e
    have c1 : lay[p]? = some (0, n) := c1
    rcases ab_bif h with ⟨hc, h⟩ | ⟨hc, h⟩
    · replace hc := ab_beq hc
      rw [ab_fv_eq] at h
      have c3 := c2 (Nat.succ (Nat.mul 2 f)) (by show Nat.succ (2 * f) < 256; omega)
      have e3 : ab_val (lay, m) p 0 (Nat.succ (Nat.mul 2 f)) = sm_rv (m.2.2 p f) := by
        have e1 : Nat.succ (Nat.mul 2 f) = 2 * f + 1 := rfl
        simp only [ab_val]
        rw [if_pos trivial, e1, if_pos (by omega)]
        have : (2 * f + 1) / 2 = f := by omega
        rw [this]
      rw [e3] at c3
      refine ab_ok_p (s' := sm_rv (m.2.2 p f) :: r2) (s := ab_tg t (Nat.succ (Nat.mul 2 f)) :: r) ?_ hl ⟨c3, hs⟩ hr h
      simp only [sm_get, c1]
      rw [if_pos trivial, if_pos hc]
    · replace hc := ab_bne hc
      have c3 := c2 (Nat.mul 2 f) (by show 2 * f < 256; omega)
      have e3 : ab_val (lay, m) p 0 (Nat.mul 2 f) = .int (m.1 p f) := by
        have e1 : Nat.mul 2 f = 2 * f := rfl
        simp only [ab_val]
        rw [if_pos trivial, e1, if_neg (by omega)]
        have : (2 * f) / 2 = f := by omega
        rw [this]
      rw [e3] at c3
      refine ai_ld_ok (x := m.1 p f) hE hl hs hr c3 ?_ h
      simp only [sm_get, c1]
      rw [if_pos trivial, if_neg hc]
noncomputable def ai_put (c f : Nat) (lv : ab_L) (st : List ab_V) (M : ab_M) (k : ab_L → List ab_V → ab_M → Bool) : Bool := List.rec (motive := fun _ => Bool) false (fun a r_1 _ => List.rec (motive := fun _ => Bool) false (fun b r _ => ab_rf b (fun p => ab_cell M p (fun kd n t => ab_if (ab_an ((ab_an (Nat.beq kd 0) (Nat.beq n c))) (Nat.blt f 128)) ((ab_if (ab_an (Nat.beq (sm_cd c f) 1) ((ab_oo (Nat.beq a.1 2) (Nat.beq a.1 1)))) (ab_mset M p kd n t (Nat.succ (Nat.mul 2 f)) a (fun M' => k lv r M')) (ab_if (ab_oo ((ab_an (Nat.beq (sm_cd c f) 0) (ab_isI a.1))) ((ab_an (Nat.beq (sm_cd c f) 2) ((ab_oo (ab_is a 0) (ab_is a 1)))))) (ab_mset M p kd n t (Nat.mul 2 f) a (fun M' => k lv r M')) (false)))) (false)))) r_1) st
theorem ab_setF {c : ab_M → Bool} {p n : Nat} {t : ab_T} {f : Nat} {a : ab_V} {x : Int32} (hr : ab_rm xs M (lay, m)) (hp : p < M.1) (e : ab_tg M.2 p = (0, n, t)) (hf : f < 128) (ha : ab_g xs a (.int x)) (h : ab_mset M p 0 n t (Nat.mul 2 f) a c = true) : ∃ M', ab_rm xs M' (lay, (sm_up m.1 p f x, m.2)) ∧ c M' = true := by
  have e1 : Nat.mul 2 f = 2 * f := rfl
  have e2 : (2 * f) / 2 = f := by omega
  refine ab_mset_ok (w' := (lay, (sm_up m.1 p f x, m.2))) hr hp e (by show 2 * f < 256; omega) ha rfl ?_ ?_ ?_ h
  · simp only [ab_val]; rw [if_pos trivial, e1, if_neg (by omega), e2, ab_up_eq]
  · intro j' hj'
    simp only [ab_val]
    rw [if_pos trivial, if_pos trivial]
    by_cases q : j' % 2 = 1
    · rw [if_pos q, if_pos q]
    · rw [if_neg q, if_neg q, ab_up_j _ _ _ _ (by rw [e1] at hj'; omega)]
  · intro p' kd' j' hp'
    simp only [ab_val]
    rw [ab_up_p _ _ _ _ hp', ab_up_p _ _ _ _ hp']
theorem ab_setR {c : ab_M → Bool} {p n : Nat} {t : ab_T} {f : Nat} {a : ab_V} {x : Option Nat} (hr : ab_rm xs M (lay, m)) (hp : p < M.1) (e : ab_tg M.2 p = (0, n, t)) (hf : f < 128) (ha : ab_g xs a (sm_rv x)) (h : ab_mset M p 0 n t (Nat.succ (Nat.mul 2 f)) a c = true) : ∃ M', ab_rm xs M' (lay, (m.1, m.2.1, sm_up m.2.2 p f x)) ∧ c M' = true := by
  have e1 : Nat.succ (Nat.mul 2 f) = 2 * f + 1 := rfl
  have e2 : (2 * f + 1) / 2 = f := by omega
  refine ab_mset_ok (w' := (lay, (m.1, m.2.1, sm_up m.2.2 p f x))) hr hp e (by show Nat.succ (2 * f) < 256; omega) ha rfl ?_ ?_ ?_ h
  · simp only [ab_val]; rw [if_pos trivial, e1, if_pos (by omega), e2, ab_up_eq]
  · intro j' hj'
    simp only [ab_val]
    rw [if_pos trivial, if_pos trivial]
    by_cases q : j' % 2 = 1
    · rw [if_pos q, if_pos q, ab_up_j _ _ _ _ (by rw [e1] at hj'; omega)]
    · rw [if_neg q, if_neg q]
  · intro p' kd' j' hp'
    simp only [ab_val]
    rw [ab_up_p _ _ _ _ hp']
theorem ai_put_ok {c f : Nat} (hl : ab_gl xs lv lv') (hs : ab_gs xs st st') (hr : ab_rm xs M (lay, m)) (h : ai_put c f lv st M k = true) : ab_ok xs lay (sm_put lv' lay m c f st') k := by
  revert hs h
  refine ab_two (P := fun st => ab_gs xs st st' → ai_put c f lv st M k = true → _) (fun _ h => by cases h) (fun _ _ h => by cases h) (fun a b r hs h => ?_) st
  replace hs := ab_gs_cons hs; obtain ⟨u, r1, rfl, ga, hs⟩ := hs
  replace hs := ab_gs_cons hs; obtain ⟨v, r2, rfl, gb, hs⟩ := hs
  replace h := ab_rf_ok h gb; obtain ⟨p, rfl, h⟩ := h
  replace h := ab_cell_ok h; obtain ⟨hp, kd, n, t, e, h⟩ := h
  replace h := ab_bif0 h; obtain ⟨hk, h⟩ := h
  replace hk := ab_and2 hk; obtain ⟨hk, hf⟩ := hk
  replace hk := ab_and2 hk; obtain ⟨hk, hn⟩ := hk
  replace hk := ab_beq hk
  replace hn := ab_beq hn
  replace hf := ab_blt hf
  subst hk
  subst hn
  obtain ⟨c1, -⟩ := ab_cell_at hr hp e
  have c1 : lay[p]? = some (0, n) := c1
  rcases ab_bif h with ⟨hc, h⟩ | ⟨-, h⟩
  · replace hc := ab_and2 hc; obtain ⟨hc, hq⟩ := hc
    replace hc := ab_beq hc
    rcases ab_or2 hq with hq | hq
    · obtain ⟨q, rfl, -⟩ := ab_ref_of (ab_beq hq) ga
      obtain ⟨M', q1, q2⟩ := ab_setR (x := some q) hr hp e hf ga h
      exact ⟨(lv', r2, (m.1, m.2.1, sm_up m.2.2 p f (some q))), by simp only [sm_put, c1, hc]; rfl, lv, r, M', hl, hs, q1, q2⟩
    · have := ab_null_of (ab_beq hq) ga
      subst this
      obtain ⟨M', q1, q2⟩ := ab_setR (x := none) hr hp e hf ga h
      exact ⟨(lv', r2, (m.1, m.2.1, sm_up m.2.2 p f none)), by simp only [sm_put, c1, hc]; rfl, lv, r, M', hl, hs, q1, q2⟩
  · replace h := ab_bif0 h; obtain ⟨hc, h⟩ := h
    rcases ab_or2 hc with hc | hc
    · replace hc := ab_and2 hc; obtain ⟨hc, hq⟩ := hc
      replace hc := ab_beq hc
      obtain ⟨x, rfl, -⟩ := ab_isI_of hq ga
      obtain ⟨M', q1, q2⟩ := ab_setF hr hp e hf ga h
      exact ⟨(lv', r2, (sm_up m.1 p f x, m.2)), by simp only [sm_put, c1, hc]; rfl, lv, r, M', hl, hs, q1, q2⟩
    · replace hc := ab_and2 hc; obtain ⟨hc, hq⟩ := hc
      replace hc := ab_beq hc
      have hx : ∃ x : Int32, u = .int x ∧ (x = 0 ∨ x = 1) := by
        rcases ab_or2 hq with hq | hq
        · obtain ⟨x, rfl, ex⟩ := ab_is_of (x := 0) hq ga
          exact ⟨x, rfl, Or.inl (ab_ofI (by rw [ex]; decide))⟩
        · obtain ⟨x, rfl, ex⟩ := ab_is_of (x := 0) hq ga
          exact ⟨x, rfl, Or.inr (ab_ofI (by rw [ex]; decide))⟩
      obtain ⟨x, rfl, hx⟩ := hx
      obtain ⟨M', q1, q2⟩ := ab_setF hr hp e hf ga h
      exact ⟨(lv', r2, (sm_up m.1 p f x, m.2)), by simp only [sm_put, c1, hc]; rw [if_pos trivial, if_pos hx], lv, r, M', hl, hs, q1, q2⟩
/-! Object's constructor, Math, arraycopy -/
noncomputable def ab_sum (st : List ab_V) : Nat := List.rec (motive := fun _ => Nat) 0 (fun a _ ih => Nat.add (ab_cat a) ih) st
theorem ab_sum_ok : ∀ {st : List ab_V} {st' : List Value}, ab_gs xs st st' → (st'.map fun v => v.category).sum = ab_sum st
  | [], [], _ => rfl
  | a :: r, v :: r', h => by
    simp only [List.map_cons, List.sum_cons]
    rw [ab_sum_ok h.2, ab_cat_of h.1]
    rfl
  | [], _ :: _, h => h.elim
  | _ :: _, [], h => h.elim
noncomputable def ai_oin (lv : ab_L) (st : List ab_V) (M : ab_M) (k : ab_L → List ab_V → ab_M → Bool) : Bool := List.rec (motive := fun _ => Bool) false (fun b r _ => ab_if (ab_an (Nat.beq b.1 2) (Nat.ble (ab_sum r) 8)) (k lv r M) (false)) st
theorem ai_oin_ok (hl : ab_gl xs lv lv') (hs : ab_gs xs st st') (hr : ab_rm xs M (lay, m)) (h : ai_oin lv st M k = true) : ab_ok xs lay (sm_p lv' m (sm_oin st')) k := by
  cases st with
  | nil => cases h
  | cons b r =>
    replace hs := ab_gs_cons hs; obtain ⟨v, r2, rfl, gb, hs⟩ := hs
    replace h := ab_bif0 h; obtain ⟨h1, h⟩ := h
    replace h1 := ab_and2 h1; obtain ⟨h1, h2⟩ := h1
    obtain ⟨p, rfl, -⟩ := ab_ref_of (ab_beq h1) gb
    refine ab_ok_p (s' := r2) (s := r) ?_ hl hs hr h
    simp only [sm_oin]
    rw [if_pos (by rw [ab_sum_ok hs]; exact ab_ble h2)]
noncomputable def ai_ma (f : Int32 → Int32 → Int32) (lv : ab_L) (st : List ab_V) (M : ab_M) (k : ab_L → List ab_V → ab_M → Bool) : Bool := List.rec (motive := fun _ => Bool) false (fun b r_1 _ => List.rec (motive := fun _ => Bool) false (fun a r _ => ab_if (Nat.ble (ab_sum r) 8) (ab_bin f a b (fun v => k lv (v :: r) M)) (false)) r_1) st
theorem ai_ma_ok {f : Int32 → Int32 → Int32} (hl : ab_gl xs lv lv') (hs : ab_gs xs st st') (hr : ab_rm xs M (lay, m)) (h : ai_ma f lv st M k = true) : ab_ok xs lay (sm_p lv' m (sm_ma f st')) k := by
  revert hs h
  refine ab_two (P := fun st => ab_gs xs st st' → ai_ma f lv st M k = true → _) (fun _ h => by cases h) (fun _ _ h => by cases h) (fun b a r hs h => ?_) st
  replace hs := ab_gs_cons hs; obtain ⟨u, r1, rfl, gb, hs⟩ := hs
  replace hs := ab_gs_cons hs; obtain ⟨v, r2, rfl, ga, hs⟩ := hs
  replace h := ab_bif0 h; obtain ⟨h1, h⟩ := h
  obtain ⟨x, y, z, rfl, rfl, g1, g2⟩ := ab_bin_ok f _ _ _ _ _ h ga gb
  refine ab_ok_p (s' := .int (f x y) :: r2) (s := z :: r) ?_ hl ⟨g1, hs⟩ hr g2
  simp only [sm_ma]
  rw [if_pos (by rw [ab_sum_ok hs]; exact ab_ble h1)]
noncomputable def ai_mb (f : Int32 → Int32) (lv : ab_L) (st : List ab_V) (M : ab_M) (k : ab_L → List ab_V → ab_M → Bool) : Bool := List.rec (motive := fun _ => Bool) false (fun a r _ => ab_if (Nat.ble (ab_sum r) 8) (ab_nar f a (fun v => k lv (v :: r) M)) (false)) st
theorem ai_mb_ok {f : Int32 → Int32} (hl : ab_gl xs lv lv') (hs : ab_gs xs st st') (hr : ab_rm xs M (lay, m)) (h : ai_mb f lv st M k = true) : ab_ok xs lay (sm_p lv' m (sm_mb f st')) k := by
  cases st with
  | nil => cases h
  | cons a r =>
    replace hs := ab_gs_cons hs; obtain ⟨v, r2, rfl, ga, hs⟩ := hs
    replace h := ab_bif0 h; obtain ⟨h1, h⟩ := h
    obtain ⟨x, z, rfl, g1, g2⟩ := ab_nar_ok h ga
    refine ab_ok_p (s' := .int (f x) :: r2) (s := z :: r) ?_ hl ⟨g1, hs⟩ hr g2
    simp only [sm_mb]
    rw [if_pos (by rw [ab_sum_ok hs]; exact ab_ble h1)]
end AbA
noncomputable def ab_nt (a : ab_V) (c : Nat → Bool) : Bool := ab_if (Nat.beq a.1 0) (Int.rec (motive := fun _ => Bool) (fun j => c j) (fun _ => false) a.2) (false)
theorem ab_nt_ok {xs : Nat → Int32} {a : ab_V} {v : Value} {c : Nat → Bool} (h : ab_nt a c = true) (hg : ab_g xs a v) : ∃ x : Int32, v = .int x ∧ ¬ x < 0 ∧ c x.toNatClampNeg = true := by
  obtain ⟨h1, h2⟩ := ab_bif0 h
  obtain ⟨x, rfl, e⟩ := ab_0_of (ab_beq h1) hg
  have e0 : (0 : Int32).toInt = 0 := by decide
  cases q : a.2 with
  | negSucc j => rw [q] at h2; cases h2
  | ofNat j =>
    rw [q] at h2 e
    have ex : x.toNatClampNeg = j := by show x.toInt.toNat = j; rw [e]; rfl
    refine ⟨x, rfl, ?_, by rw [ex]; exact h2⟩
    intro c
    rw [Int32.lt_iff_toInt_lt, e, e0] at c
    have : (Int.ofNat j : Int) = (j : Int) := rfl
    omega
noncomputable def ab_cpl (t0 : ab_T) (d sp dp n : Nat) : ab_T → (ab_T → Bool) → Bool := Nat.rec (motive := fun _ => ab_T → (ab_T → Bool) → Bool) (fun t c => c t) (fun i r t c => ab_fv (ab_tg t0 (Nat.add sp i)) (fun a => ab_ts a t d (Nat.add dp i) (fun t' => r t' c))) n
theorem ab_cpl_ok {t0 : ab_T} {d sp dp : Nat} : ∀ (n : Nat) (t : ab_T) (c : ab_T → Bool), ab_cpl t0 d sp dp n t c = true → dp + n ≤ 2 ^ d → ∃ t', c t' = true ∧ ∀ k, k < 2 ^ d → ab_tg t' k = if dp ≤ k ∧ k < dp + n then ab_tg t0 (sp + (k - dp)) else ab_tg t k := by
  intro n
  induction n with
  | zero =>
    intro t c h _
    exact ⟨t, h, fun k _ => by rw [if_neg (by omega)]⟩
  | succ n ih =>
    intro t c h hn
    have h : ab_fv (ab_tg t0 (Nat.add sp n)) (fun a => ab_ts a t d (Nat.add dp n) (fun t' => ab_cpl t0 d sp dp n t' c)) = true := h
    rw [ab_fv_eq] at h
    obtain ⟨t1, q1, q2⟩ := ab_ts_ok _ _ _ _ h (show dp + n < 2 ^ d by omega)
    obtain ⟨t', q3, q4⟩ := ih _ _ q1 (by omega)
    refine ⟨t', q3, fun k hk => ?_⟩
    rw [q4 k hk, q2 k hk]
    have e1 : Nat.add dp n = dp + n := rfl
    have e2 : Nat.add sp n = sp + n := rfl
    rw [e1, e2]
    by_cases c1 : dp ≤ k ∧ k < dp + n
    · rw [if_pos c1, if_pos (by omega)]
    · rw [if_neg c1]
      by_cases c2 : k = dp + n
      · rw [if_pos c2, if_pos (by omega)]
        have : k - dp = n := by omega
        rw [this]
      · rw [if_neg c2, if_neg (by omega)]
noncomputable def ai_cpy (lv : ab_L) (st : List ab_V) (M : ab_M) (k : ab_L → List ab_V → ab_M → Bool) : Bool := match st with
  | n :: dp :: a :: sp :: a0 :: r => ab_if (Nat.ble (ab_sum r) 8) (ab_nt n (fun n => ab_nt dp (fun dp => ab_nt sp (fun sp => ab_rf a (fun p => ab_rf a0 (fun p0 => ab_cell M p (fun kd n1 t => ab_cell M p0 (fun kd0 n0 t0 =>
      ab_if (ab_an ((ab_an (Nat.beq kd 1) (Nat.beq kd0 1))) ((ab_an (Nat.ble (Nat.add sp n) n0) (Nat.ble (Nat.add dp n) n1)))) (ab_cpl t0 (ab_dp 1 n1) sp dp n t (fun t' => ab_ts ((1, n1, t') : ab_Q) M.2 8 p (fun m => k lv r (M.1, m)))) (false))))))))) (false)
  | _ => false
theorem ai_cpy_ok {xs : Nat → Int32} {lv : ab_L} {st : List ab_V} {M : ab_M} {lv' : sm_V} {st' : List Value} {lay : List (Nat × Nat)} {m : sm_Y} {k : ab_L → List ab_V → ab_M → Bool} (hl : ab_gl xs lv lv') (hs : ab_gs xs st st') (hr : ab_rm xs M (lay, m)) (h : ai_cpy lv st M k = true) : ab_ok xs lay (sm_cpy lv' lay m st') k := by
  unfold ai_cpy at h
  split at h
  · next n dp a sp a0 r =>
    replace hs := ab_gs_cons hs; obtain ⟨vn, r0, rfl, gn, hs⟩ := hs
    replace hs := ab_gs_cons hs; obtain ⟨vd, r1, rfl, gd, hs⟩ := hs
    replace hs := ab_gs_cons hs; obtain ⟨va, r2, rfl, ga, hs⟩ := hs
    replace hs := ab_gs_cons hs; obtain ⟨vs, r3, rfl, gs, hs⟩ := hs
    replace hs := ab_gs_cons hs; obtain ⟨v0, r4, rfl, g0, hs⟩ := hs
    replace h := ab_bif0 h; obtain ⟨h8, h⟩ := h
    replace h := ab_nt_ok h gn; obtain ⟨xn, rfl, en, h⟩ := h
    replace h := ab_nt_ok h gd; obtain ⟨xd, rfl, ed, h⟩ := h
    replace h := ab_nt_ok h gs; obtain ⟨xp, rfl, es, h⟩ := h
    replace h := ab_rf_ok h ga; obtain ⟨p, rfl, h⟩ := h
    replace h := ab_rf_ok h g0; obtain ⟨p0, rfl, h⟩ := h
    replace h := ab_cell_ok h; obtain ⟨hp, kd, n1, t, e, h⟩ := h
    replace h := ab_cell_ok h; obtain ⟨hp0, kd0, n0, t0, e0, h⟩ := h
    replace h := ab_bif0 h; obtain ⟨hk, h⟩ := h
    replace hk := ab_and2 hk; obtain ⟨hk, hb⟩ := hk
    replace hk := ab_and2 hk; obtain ⟨hk, hk0⟩ := hk
    obtain ⟨b0, b1⟩ := ab_and2 hb
    replace hk := ab_beq hk
    replace hk0 := ab_beq hk0
    have b0 : xp.toNatClampNeg + xn.toNatClampNeg ≤ n0 := ab_ble b0
    have b1 : xd.toNatClampNeg + xn.toNatClampNeg ≤ n1 := ab_ble b1
    subst hk
    subst hk0
    obtain ⟨c1, c2⟩ := ab_cell_at hr hp e
    obtain ⟨c3, c4⟩ := ab_cell_at hr hp0 e0
    have c1 : lay[p]? = some (1, n1) := c1
    have c3 : lay[p0]? = some (1, n0) := c3
    have hd : n1 < 2 ^ ab_dp 1 n1 := Nat.lt_log2_self
    obtain ⟨t', q1, q2⟩ := ab_cpl_ok _ _ _ h (by omega)
    obtain ⟨r1', r2', r3'⟩ := hr
    have hp8 : p < 2 ^ 8 := Nat.lt_of_lt_of_le hp r2'
    obtain ⟨mm, q3, q4⟩ := ab_ts_ok _ _ _ _ q1 hp8
    refine ⟨(lv', r4, (sm_row m.1 p (va_cpy (m.1 p0) (m.1 p) xp.toNatClampNeg xd.toNatClampNeg xn.toNatClampNeg), m.2)), ?_, lv, r, (M.1, mm), hl, hs, ⟨r1', r2', fun p' hp' => ?_⟩, q3⟩
    · simp only [sm_cpy, c1, c3]
      rw [if_neg]
      rw [ab_sum_ok hs]
      have := ab_ble h8
      rintro (q | q | q | q | q | q)
      · exact es q
      · exact ed q
      · exact en q
      · omega
      · omega
      · omega
    · have q5 := q4 p' (show p' < 2 ^ 8 by have : p' < M.1 := hp'; show p' < 256; omega)
      have r4 := r3' p' hp'
      show lay[p']? = some ((ab_tg mm p').1, (ab_tg mm p').2.1) ∧ ∀ j', j' < ab_bd (ab_tg mm p').1 (ab_tg mm p').2.1 → ab_g xs (ab_tg (ab_tg mm p').2.2 j') (ab_val (lay, (sm_row m.1 p (va_cpy (m.1 p0) (m.1 p) xp.toNatClampNeg xd.toNatClampNeg xn.toNatClampNeg), m.2)) p' (ab_tg mm p').1 j')
      by_cases cc : p' = p
      · rw [if_pos cc] at q5
        rw [q5]
        rw [cc]
        refine ⟨c1, fun j hj => ?_⟩
        have hj : j < n1 := hj
        show ab_g xs (ab_tg t' j) (.int (sm_row m.1 p _ p j))
        rw [q2 j (by omega)]
        have e5 : sm_row m.1 p (va_cpy (m.1 p0) (m.1 p) xp.toNatClampNeg xd.toNatClampNeg xn.toNatClampNeg) p j = va_cpy (m.1 p0) (m.1 p) xp.toNatClampNeg xd.toNatClampNeg xn.toNatClampNeg j := by simp [sm_row]
        rw [e5]
        unfold va_cpy
        by_cases c5 : xd.toNatClampNeg ≤ j ∧ j < xd.toNatClampNeg + xn.toNatClampNeg
        · rw [if_pos c5, if_pos c5]
          exact c4 _ (by show _ < n0; omega)
        · rw [if_neg c5, if_neg c5]
          exact c2 _ hj
      · rw [if_neg cc] at q5
        rw [q5]
        refine ⟨r4.1, fun j hj => ?_⟩
        have := r4.2 j hj
        have e6 : ∀ j, sm_row m.1 p (va_cpy (m.1 p0) (m.1 p) xp.toNatClampNeg xd.toNatClampNeg xn.toNatClampNeg) p' j = m.1 p' j := fun j => by simp [sm_row, cc]
        simp only [ab_val] at this ⊢
        rw [e6, e6]
        exact this
  · cases h
