/-! cells -/
noncomputable def ab_val (w : sm_W) (p kd j : Nat) : Value := if kd = 0 then (if j % 2 = 1 then sm_rv (w.2.2.2 p (j / 2)) else .int (w.2.1 p (j / 2))) else if kd = 4 then .long (w.2.2.1 p j) else .int (w.2.1 p j)
noncomputable def ab_bd (kd n : Nat) : Nat := if kd = 0 then 256 else n
noncomputable def ab_dp (kd n : Nat) : Nat := ab_if (Nat.beq kd 0) (8) (Nat.succ (Nat.log2 n))
noncomputable def ab_rm (xs : Nat → Int32) (M : ab_M) (w : sm_W) : Prop := w.1.length = M.1 ∧ M.1 ≤ 256 ∧ ∀ p, p < M.1 → w.1[p]? = some ((ab_tg M.2 p).1, (ab_tg M.2 p).2.1) ∧ ∀ j, j < ab_bd (ab_tg M.2 p).1 (ab_tg M.2 p).2.1 → ab_g xs (ab_tg (ab_tg M.2 p).2.2 j) (ab_val w p (ab_tg M.2 p).1 j)
noncomputable def ab_mset (M : ab_M) (p kd n : Nat) (t : ab_T) (j : Nat) (a : ab_V) (c : ab_M → Bool) : Bool := ab_ts a t (ab_dp kd n) j (fun t' => ab_ts ((kd, n, t') : ab_Q) M.2 8 p (fun m => c (M.1, m)))
noncomputable def ab_cell (M : ab_M) (p : Nat) (c : Nat → Nat → ab_T → Bool) : Bool := ab_if (Nat.blt p M.1) ((match ab_tg M.2 p with | (kd, n, t) => c kd n t)) (false)
noncomputable def ab_rf (a : ab_V) (c : Nat → Bool) : Bool := ab_if (Nat.beq a.1 2) (Int.rec (motive := fun _ => Bool) (fun n => c n) (fun _ => false) a.2) (false)
noncomputable def ab_ix (a : ab_V) (n : Nat) (c : Nat → Bool) : Bool := ab_if (Nat.beq a.1 0) (Int.rec (motive := fun _ => Bool) (fun j => ab_if (Nat.blt j n) (c j) (false)) (fun _ => false) a.2) (false)
noncomputable def ab_ok (xs : Nat → Int32) (lay : List (Nat × Nat)) (o : sm_O) (k : ab_L → List ab_V → ab_M → Bool) : Prop := ∃ q, o = some q ∧ ∃ (lv1 : ab_L) (st1 : List ab_V) (M1 : ab_M), ab_gl xs lv1 q.1 ∧ ab_gs xs st1 q.2.1 ∧ ab_rm xs M1 (lay, q.2.2) ∧ k lv1 st1 M1 = true
section AbM
variable {xs : Nat → Int32} {M : ab_M} {w w' : sm_W} {p kd n j : Nat} {t : ab_T} {a : ab_V} {v : Value}
theorem ab_dp_ok (h : j < ab_bd kd n) : j < 2 ^ ab_dp kd n := by
  unfold ab_bd at h
  unfold ab_dp
  cases e : Nat.beq kd 0 with
  | true => rw [if_pos (ab_beq e)] at h; exact h
  | false =>
    rw [if_neg (ab_bne e)] at h
    exact Nat.lt_trans h Nat.lt_log2_self
theorem ab_mset_ok {c : ab_M → Bool} (hr : ab_rm xs M w) (hp : p < M.1) (e : ab_tg M.2 p = (kd, n, t)) (hj : j < ab_bd kd n) (ha : ab_g xs a v) (hl : w'.1 = w.1) (h1 : ab_val w' p kd j = v) (h2 : ∀ j', j' ≠ j → ab_val w' p kd j' = ab_val w p kd j') (h3 : ∀ p' kd' j', p' ≠ p → ab_val w' p' kd' j' = ab_val w p' kd' j') (h : ab_mset M p kd n t j a c = true) : ∃ M', ab_rm xs M' w' ∧ c M' = true := by
  obtain ⟨r1, r2, r3⟩ := hr
  obtain ⟨t', q1, q2⟩ := ab_ts_ok _ _ _ _ h (ab_dp_ok hj)
  obtain ⟨m, q3, q4⟩ := ab_ts_ok _ _ _ _ q1 (show p < 2 ^ 8 by show p < 256; omega)
  refine ⟨(M.1, m), ⟨by rw [hl]; exact r1, r2, fun p' hp' => ?_⟩, q3⟩
  have q5 := q4 p' (show p' < 2 ^ 8 by have : p' < M.1 := hp'; show p' < 256; omega)
  show w'.1[p']? = some ((ab_tg m p').1, (ab_tg m p').2.1) ∧ ∀ j', j' < ab_bd (ab_tg m p').1 (ab_tg m p').2.1 → ab_g xs (ab_tg (ab_tg m p').2.2 j') (ab_val w' p' (ab_tg m p').1 j')
  have r4 := r3 p' hp'
  by_cases c1 : p' = p
  · rw [if_pos c1] at q5
    rw [q5, hl]
    rw [c1] at r4 ⊢
    rw [e] at r4
    refine ⟨r4.1, fun j' hj' => ?_⟩
    have q6 := q2 j' (ab_dp_ok hj')
    show ab_g xs (ab_tg t' j') (ab_val w' p kd j')
    rw [q6]
    by_cases c2 : j' = j
    · rw [if_pos c2, c2, h1]; exact ha
    · rw [if_neg c2, h2 _ c2]; exact r4.2 j' hj'
  · rw [if_neg c1] at q5
    rw [q5, hl]
    refine ⟨r4.1, fun j' hj' => ?_⟩
    rw [h3 _ _ _ c1]
    exact r4.2 j' hj'
theorem ab_cell_ok {c : Nat → Nat → ab_T → Bool} (h : ab_cell M p c = true) : p < M.1 ∧ ∃ kd n t, ab_tg M.2 p = (kd, n, t) ∧ c kd n t = true := by
  obtain ⟨h1, h2⟩ := ab_bif0 h
  refine ⟨ab_blt h1, (ab_tg M.2 p).1, (ab_tg M.2 p).2.1, (ab_tg M.2 p).2.2, rfl, ?_⟩
  exact h2
theorem ab_cell_at (hr : ab_rm xs M w) (hp : p < M.1) (e : ab_tg M.2 p = (kd, n, t)) : w.1[p]? = some (kd, n) ∧ ∀ j, j < ab_bd kd n → ab_g xs (ab_tg t j) (ab_val w p kd j) := by
  have := hr.2.2 p hp
  rw [e] at this
  exact this
theorem ab_rf_ok {c : Nat → Bool} (h : ab_rf a c = true) (hg : ab_g xs a v) : ∃ p, v = .ref p ∧ c p = true := by
  obtain ⟨h1, h2⟩ := ab_bif0 h
  obtain ⟨p, rfl, e⟩ := ab_ref_of (ab_beq h1) hg
  refine ⟨p, rfl, ?_⟩
  rw [e] at h2
  exact h2
theorem ab_ix_ok {c : Nat → Bool} (h : ab_ix a n c = true) (hg : ab_g xs a v) : ∃ x : Int32, v = .int x ∧ ¬ (x < 0 ∨ n ≤ x.toNatClampNeg) ∧ x.toNatClampNeg < n ∧ c x.toNatClampNeg = true := by
  obtain ⟨h1, h2⟩ := ab_bif0 h
  obtain ⟨x, rfl, e⟩ := ab_0_of (ab_beq h1) hg
  have e0 : (0 : Int32).toInt = 0 := by decide
  cases q : a.2 with
  | negSucc j => rw [q] at h2; cases h2
  | ofNat j =>
    rw [q] at h2 e
    have h2 : (ab_if (Nat.blt j n) (c j) (false)) = true := h2
    obtain ⟨h3, h4⟩ := ab_bif0 h2
    have h3 := ab_blt h3
    have ex : x.toNatClampNeg = j := by show x.toInt.toNat = j; rw [e]; rfl
    refine ⟨x, rfl, ?_, by rw [ex]; exact h3, by rw [ex]; exact h4⟩
    rw [ex]
    rintro (c | c)
    · rw [Int32.lt_iff_toInt_lt, e, e0] at c
      have : (Int.ofNat j : Int) = (j : Int) := rfl
      omega
    · omega
end AbM
/-! the simple instructions, one by one -/
section AbI
variable {xs : Nat → Int32} {E : ab_E} {lv : ab_L} {st : List ab_V} {M : ab_M} {lv' : sm_V} {st' : List Value} {lay : List (Nat × Nat)} {m : sm_Y} {k : ab_L → List ab_V → ab_M → Bool}
theorem ab_ok_p {o : Option (List Value)} {s' : List Value} {s : List ab_V} (e : o = some s') (hl : ab_gl xs lv lv') (hs : ab_gs xs s s') (hr : ab_rm xs M (lay, m)) (h : k lv s M = true) : ab_ok xs lay (sm_p lv' m o) k := ⟨(lv', s', m), by rw [e]; rfl, lv, s, M, hl, hs, hr, h⟩
noncomputable def ai_ci (x : Int32) (lv : ab_L) (st : List ab_V) (M : ab_M) (k : ab_L → List ab_V → ab_M → Bool) : Bool := ab_fi x.toInt (fun i => k lv ((0, i) :: st) M)
theorem ai_ci_ok {x : Int32} (hl : ab_gl xs lv lv') (hs : ab_gs xs st st') (hr : ab_rm xs M (lay, m)) (h : ai_ci x lv st M k = true) : ab_ok xs lay (some (lv', .int x :: st', m)) k := by
  unfold ai_ci at h
  rw [ab_fi_eq] at h
  exact ⟨_, rfl, lv, (0, x.toInt) :: st, M, hl, ⟨ab_gi0 _, hs⟩, hr, h⟩
noncomputable def ai_cl (x : Int64) (lv : ab_L) (st : List ab_V) (M : ab_M) (k : ab_L → List ab_V → ab_M → Bool) : Bool := ab_fi x.toInt (fun i => k lv ((4, i) :: st) M)
theorem ai_cl_ok {x : Int64} (hl : ab_gl xs lv lv') (hs : ab_gs xs st st') (hr : ab_rm xs M (lay, m)) (h : ai_cl x lv st M k = true) : ab_ok xs lay (some (lv', .long x :: st', m)) k := by
  unfold ai_cl at h
  rw [ab_fi_eq] at h
  exact ⟨_, rfl, lv, (4, x.toInt) :: st, M, hl, ⟨Or.inl ⟨rfl, rfl⟩, hs⟩, hr, h⟩
noncomputable def ai_ldi (j : Nat) (E : ab_E) (lv : ab_L) (st : List ab_V) (M : ab_M) (k : ab_L → List ab_V → ab_M → Bool) : Bool := ab_lk lv j (fun a => ab_if (ab_isI a.1) (ab_nrm E a (fun a => k lv (a :: st) M)) (false))
theorem ai_ldi_ok {j : Nat} (hE : ab_sat xs E) (hl : ab_gl xs lv lv') (hs : ab_gs xs st st') (hr : ab_rm xs M (lay, m)) (h : ai_ldi j E lv st M k = true) : ab_ok xs lay (sm_p lv' m (sm_ldi lv' j st')) k := by
  unfold ai_ldi at h
  · replace h := ab_lk_ok hl h
    obtain ⟨a, v, e1, g, h⟩ := h
    replace h := ab_bif0 h
    obtain ⟨h1, h⟩ := h
    obtain ⟨x, rfl, gx⟩ := ab_isI_of h1 g
    obtain ⟨r, g1, g2⟩ := ab_nrm_ok h hE gx
    exact ab_ok_p (s' := .int x :: st') (s := r :: st) (by simp only [sm_ldi, e1]) hl ⟨g1, hs⟩ hr g2
noncomputable def ai_ldl (j : Nat) (lv : ab_L) (st : List ab_V) (M : ab_M) (k : ab_L → List ab_V → ab_M → Bool) : Bool := ab_lk lv j (fun a => ab_if (ab_oo (Nat.beq a.1 4) (Nat.beq a.1 5)) (k lv (a :: st) M) (false))
theorem ab_45 {a : ab_V} (h : (ab_oo (Nat.beq a.1 4) (Nat.beq a.1 5)) = true) : a.1 = 4 ∨ a.1 = 5 := by
  rcases ab_or2 h with h | h
  · exact Or.inl (ab_beq h)
  · exact Or.inr (ab_beq h)
theorem ai_ldl_ok {j : Nat} (hl : ab_gl xs lv lv') (hs : ab_gs xs st st') (hr : ab_rm xs M (lay, m)) (h : ai_ldl j lv st M k = true) : ab_ok xs lay (sm_p lv' m (sm_ldl lv' j st')) k := by
  unfold ai_ldl at h
  · replace h := ab_lk_ok hl h
    obtain ⟨a, v, e1, g, h⟩ := h
    replace h := ab_bif0 h
    obtain ⟨h1, h⟩ := h
    obtain ⟨x, rfl, -⟩ := ab_long_of (ab_45 h1) g
    exact ab_ok_p (s' := .long x :: st') (s := a :: st) (by simp only [sm_ldl, e1]) hl ⟨g, hs⟩ hr h
noncomputable def ai_lda (j : Nat) (lv : ab_L) (st : List ab_V) (M : ab_M) (k : ab_L → List ab_V → ab_M → Bool) : Bool := ab_lk lv j (fun a => ab_if (ab_oo (Nat.beq a.1 2) (Nat.beq a.1 1)) (k lv (a :: st) M) (false))
theorem ai_lda_ok {j : Nat} (hl : ab_gl xs lv lv') (hs : ab_gs xs st st') (hr : ab_rm xs M (lay, m)) (h : ai_lda j lv st M k = true) : ab_ok xs lay (sm_p lv' m (sm_lda lv' j st')) k := by
  unfold ai_lda at h
  · replace h := ab_lk_ok hl h
    obtain ⟨a, v, e1, g, h⟩ := h
    replace h := ab_bif0 h
    obtain ⟨h1, h⟩ := h
    rcases ab_or2 h1 with h1 | h1
    · obtain ⟨p, rfl, -⟩ := ab_ref_of (ab_beq h1) g
      exact ab_ok_p (s' := .ref p :: st') (s := a :: st) (by simp only [sm_lda, e1]) hl ⟨g, hs⟩ hr h
    · have := ab_null_of (ab_beq h1) g
      subst this
      exact ab_ok_p (s' := .null :: st') (s := a :: st) (by simp only [sm_lda, e1]) hl ⟨g, hs⟩ hr h
noncomputable def ai_sti (j nL : Nat) (lv : ab_L) (st : List ab_V) (M : ab_M) (k : ab_L → List ab_V → ab_M → Bool) : Bool := List.rec (motive := fun _ => Bool) false (fun a r _ => ab_if (ab_an (ab_isI a.1) (Nat.blt j nL)) (k (ab_s1 lv j a) r M) (false)) st
theorem ai_sti_ok {j nL : Nat} (hl : ab_gl xs lv lv') (hs : ab_gs xs st st') (hr : ab_rm xs M (lay, m)) (h : ai_sti j nL lv st M k = true) : ab_ok xs lay (sm_sti lv' j nL st' m) k := by
  cases st with
  | nil => cases h
  | cons a r =>
    obtain ⟨h1, h⟩ := ab_bif0 h
    obtain ⟨h1, h2⟩ := ab_and2 h1
    replace hs := ab_gs_cons hs; obtain ⟨v, r', rfl, g, hs⟩ := hs
    obtain ⟨x, rfl, gx⟩ := ab_isI_of h1 g
    exact ⟨_, by simp only [sm_sti]; rw [if_pos (ab_blt h2)], _, _, _, ab_s1_ok hl g, hs, hr, h⟩
noncomputable def ai_stl (j nL : Nat) (lv : ab_L) (st : List ab_V) (M : ab_M) (k : ab_L → List ab_V → ab_M → Bool) : Bool := List.rec (motive := fun _ => Bool) false (fun a r _ => ab_if (ab_an ((ab_oo (Nat.beq a.1 4) (Nat.beq a.1 5))) (Nat.blt (Nat.succ j) nL)) (k (ab_s2 lv j a) r M) (false)) st
theorem ai_stl_ok {j nL : Nat} (hl : ab_gl xs lv lv') (hs : ab_gs xs st st') (hr : ab_rm xs M (lay, m)) (h : ai_stl j nL lv st M k = true) : ab_ok xs lay (sm_stl lv' j nL st' m) k := by
  cases st with
  | nil => cases h
  | cons a r =>
    obtain ⟨h1, h⟩ := ab_bif0 h
    obtain ⟨h1, h2⟩ := ab_and2 h1
    replace hs := ab_gs_cons hs; obtain ⟨v, r', rfl, g, hs⟩ := hs
    obtain ⟨x, rfl, gx⟩ := ab_long_of (ab_45 h1) g
    exact ⟨_, by simp only [sm_stl]; rw [if_pos (ab_blt h2)], _, _, _, ab_s2_ok hl g, hs, hr, h⟩
noncomputable def ai_sta (j nL : Nat) (lv : ab_L) (st : List ab_V) (M : ab_M) (k : ab_L → List ab_V → ab_M → Bool) : Bool := List.rec (motive := fun _ => Bool) false (fun a r _ => ab_if (ab_an ((ab_oo (Nat.beq a.1 2) (Nat.beq a.1 1))) (Nat.blt j nL)) (k (ab_s1 lv j a) r M) (false)) st
theorem ai_sta_ok {j nL : Nat} (hl : ab_gl xs lv lv') (hs : ab_gs xs st st') (hr : ab_rm xs M (lay, m)) (h : ai_sta j nL lv st M k = true) : ab_ok xs lay (sm_sta lv' j nL st' m) k := by
  cases st with
  | nil => cases h
  | cons a r =>
    obtain ⟨h1, h⟩ := ab_bif0 h
    obtain ⟨h1, h2⟩ := ab_and2 h1
    replace hs := ab_gs_cons hs; obtain ⟨v, r', rfl, g, hs⟩ := hs
    rcases ab_or2 h1 with h1 | h1
    · obtain ⟨p, rfl, -⟩ := ab_ref_of (ab_beq h1) g
      exact ⟨_, by simp only [sm_sta]; rw [if_pos (ab_blt h2)], _, _, _, ab_s1_ok hl g, hs, hr, h⟩
    · have := ab_null_of (ab_beq h1) g
      subst this
      exact ⟨_, by simp only [sm_sta]; rw [if_pos (ab_blt h2)], _, _, _, ab_s1_ok hl g, hs, hr, h⟩
noncomputable def ai_inc (j : Nat) (n : Int) (nL : Nat) (E : ab_E) (lv : ab_L) (st : List ab_V) (M : ab_M) (k : ab_L → List ab_V → ab_M → Bool) : Bool := ab_lk lv j (fun a => ab_if (Nat.blt j nL) (ab_add E a (0, (Int32.ofInt n).toInt) (fun v => k (ab_s1 lv j v) st M)) (false))
theorem ai_inc_ok {j nL : Nat} {n : Int} (hE : ab_sat xs E) (hl : ab_gl xs lv lv') (hs : ab_gs xs st st') (hr : ab_rm xs M (lay, m)) (h : ai_inc j n nL E lv st M k = true) : ab_ok xs lay (sm_inc lv' j n nL st' m) k := by
  unfold ai_inc at h
  · replace h := ab_lk_ok hl h
    obtain ⟨a, v, e1, g, h⟩ := h
    replace h := ab_bif0 h
    obtain ⟨h1, h⟩ := h
    obtain ⟨x, y, r, rfl, e2, g1, g2⟩ := ab_add_ok hE _ _ _ _ _ h g (show ab_g xs (0, (Int32.ofInt n).toInt) (.int (Int32.ofInt n)) from ab_gi0 _)
    cases e2
    exact ⟨_, by simp only [sm_inc, e1]; rw [if_pos (ab_blt h1)], _, _, _, ab_s1_ok hl g1, hs, hr, g2⟩
noncomputable def ai_ii (bin : ab_V → ab_V → (ab_V → Bool) → Bool) (lv : ab_L) (st : List ab_V) (M : ab_M) (k : ab_L → List ab_V → ab_M → Bool) : Bool := List.rec (motive := fun _ => Bool) false (fun b r_1 _ => List.rec (motive := fun _ => Bool) false (fun a r _ => bin a b (fun v => k lv (v :: r) M)) r_1) st
theorem ab_two {P : List ab_V → Prop} (h0 : P []) (h1 : ∀ a, P [a]) (h2 : ∀ a b r, P (a :: b :: r)) : ∀ st, P st
  | [] => h0
  | [a] => h1 a
  | a :: b :: r => h2 a b r
theorem ai_ii_ok {bin : ab_V → ab_V → (ab_V → Bool) → Bool} {f : Int32 → Int32 → Int32} (hb : ab_binok xs bin f) (hl : ab_gl xs lv lv') (hs : ab_gs xs st st') (hr : ab_rm xs M (lay, m)) (h : ai_ii bin lv st M k = true) : ab_ok xs lay (sm_p lv' m (sm_ii f st')) k := by
  revert hs h
  refine ab_two (P := fun st => ab_gs xs st st' → ai_ii bin lv st M k = true → _) (fun _ h => by cases h) (fun _ _ h => by cases h) (fun b a r hs h => ?_) st
  replace hs := ab_gs_cons hs; obtain ⟨u, r1, rfl, gb, hs⟩ := hs
  replace hs := ab_gs_cons hs; obtain ⟨v, r2, rfl, ga, hs⟩ := hs
  obtain ⟨x, y, z, rfl, rfl, g1, g2⟩ := hb _ _ _ _ _ h ga gb
  exact ab_ok_p (s' := .int (f x y) :: r2) (s := z :: r) rfl hl ⟨g1, hs⟩ hr g2
noncomputable def ai_iq (f : Int32 → Int32 → Int32) (lv : ab_L) (st : List ab_V) (M : ab_M) (k : ab_L → List ab_V → ab_M → Bool) : Bool := List.rec (motive := fun _ => Bool) false (fun b r_1 _ => List.rec (motive := fun _ => Bool) false (fun a r _ => ab_if (ab_an ((ab_an (Nat.beq a.1 0) (Nat.beq b.1 0))) (!(ab_eq b.2 0))) (ab_fi (f (Int32.ofInt a.2) (Int32.ofInt b.2)).toInt (fun i => k lv ((0, i) :: r) M)) (false)) r_1) st
theorem ai_iq_ok {f : Int32 → Int32 → Int32} (hl : ab_gl xs lv lv') (hs : ab_gs xs st st') (hr : ab_rm xs M (lay, m)) (h : ai_iq f lv st M k = true) : ab_ok xs lay (sm_p lv' m (sm_iq f st')) k := by
  revert hs h
  refine ab_two (P := fun st => ab_gs xs st st' → ai_iq f lv st M k = true → _) (fun _ h => by cases h) (fun _ _ h => by cases h) (fun b a r hs h => ?_) st
  replace hs := ab_gs_cons hs; obtain ⟨u, r1, rfl, gb, hs⟩ := hs
  replace hs := ab_gs_cons hs; obtain ⟨v, r2, rfl, ga, hs⟩ := hs
  obtain ⟨h1, h⟩ := ab_bif0 h
  obtain ⟨h1, h3⟩ := ab_and2 h1
  obtain ⟨h1, h2⟩ := ab_and2 h1
  obtain ⟨x, rfl, gx⟩ := ab_isI_of (ab_isI0 (ab_beq h1)) ga
  obtain ⟨y, rfl, gy⟩ := ab_isI_of (ab_isI0 (ab_beq h2)) gb
  rw [ab_fi_eq, ← ab_cI (ab_beq h1) gx, ← ab_cI (ab_beq h2) gy] at h
  refine ab_ok_p (s' := .int (f x y) :: r2) (s := (0, (f x y).toInt) :: r) ?_ hl ⟨ab_gi0 _, hs⟩ hr h
  simp only [sm_iq]
  rw [if_neg]
  intro e
  subst e
  have e0 : (0 : Int32).toInt = 0 := by decide
  have := ab_cI2 (ab_beq h2) gy
  rw [e0] at this
  have h4 : ab_eq b.2 0 = true := ab_eq_iff.mpr this.symm
  rw [h4] at h3
  cases h3
noncomputable def ai_i1 (f : Int32 → Int32) (lv : ab_L) (st : List ab_V) (M : ab_M) (k : ab_L → List ab_V → ab_M → Bool) : Bool := List.rec (motive := fun _ => Bool) false (fun a r _ => ab_if (Nat.beq a.1 0) (ab_fi (f (Int32.ofInt a.2)).toInt (fun i => k lv ((0, i) :: r) M)) (ab_if (ab_isI a.1) (k lv ((3, 0) :: r) M) (false))) st
theorem ai_i1_ok {f : Int32 → Int32} (hl : ab_gl xs lv lv') (hs : ab_gs xs st st') (hr : ab_rm xs M (lay, m)) (h : ai_i1 f lv st M k = true) : ab_ok xs lay (sm_p lv' m (sm_i1 (fun x => .int (f x)) st')) k := by
  cases st with
  | nil => cases h
  | cons a r =>
    replace hs := ab_gs_cons hs; obtain ⟨v, r', rfl, g, hs⟩ := hs
    rcases ab_bif h with ⟨h1, h⟩ | ⟨-, h⟩
    · obtain ⟨x, rfl, gx⟩ := ab_isI_of (ab_isI0 (ab_beq h1)) g
      rw [ab_fi_eq, ← ab_cI (ab_beq h1) gx] at h
      exact ab_ok_p (s' := .int (f x) :: r') (s := (0, (f x).toInt) :: r) rfl hl ⟨ab_gi0 _, hs⟩ hr h
    · obtain ⟨h1, h⟩ := ab_bif0 h
      obtain ⟨x, rfl, gx⟩ := ab_isI_of h1 g
      exact ab_ok_p (s' := .int (f x) :: r') (s := (3, 0) :: r) rfl hl ⟨ab_gi3 _ _, hs⟩ hr h
noncomputable def ai_i2l (lv : ab_L) (st : List ab_V) (M : ab_M) (k : ab_L → List ab_V → ab_M → Bool) : Bool := List.rec (motive := fun _ => Bool) false (fun a r _ => ab_if (Nat.beq a.1 0) (ab_fi (Int32.ofInt a.2).toInt64.toInt (fun i => k lv ((4, i) :: r) M)) (ab_if (ab_isI a.1) (k lv ((5, 0) :: r) M) (false))) st
theorem ai_i2l_ok (hl : ab_gl xs lv lv') (hs : ab_gs xs st st') (hr : ab_rm xs M (lay, m)) (h : ai_i2l lv st M k = true) : ab_ok xs lay (sm_p lv' m (sm_i1 (fun x => .long x.toInt64) st')) k := by
  cases st with
  | nil => cases h
  | cons a r =>
    replace hs := ab_gs_cons hs; obtain ⟨v, r', rfl, g, hs⟩ := hs
    rcases ab_bif h with ⟨h1, h⟩ | ⟨-, h⟩
    · obtain ⟨x, rfl, gx⟩ := ab_isI_of (ab_isI0 (ab_beq h1)) g
      rw [ab_fi_eq, ← ab_cI (ab_beq h1) gx] at h
      exact ab_ok_p (s' := .long x.toInt64 :: r') (s := (4, x.toInt64.toInt) :: r) rfl hl ⟨Or.inl ⟨rfl, rfl⟩, hs⟩ hr h
    · obtain ⟨h1, h⟩ := ab_bif0 h
      obtain ⟨x, rfl, gx⟩ := ab_isI_of h1 g
      exact ab_ok_p (s' := .long x.toInt64 :: r') (s := (5, 0) :: r) rfl hl ⟨Or.inr rfl, hs⟩ hr h
theorem ab_cL {a : ab_V} {x : Int64} (h : a.1 = 4) (hg : a.1 = 4 → x.toInt = a.2) : x = Int64.ofInt a.2 := by rw [← hg h, Int64.ofInt_toInt]
noncomputable def ai_l2i (lv : ab_L) (st : List ab_V) (M : ab_M) (k : ab_L → List ab_V → ab_M → Bool) : Bool := List.rec (motive := fun _ => Bool) false (fun a r _ => ab_if (Nat.beq a.1 4) (ab_fi (Int64.ofInt a.2).toInt32.toInt (fun i => k lv ((0, i) :: r) M)) (ab_if (Nat.beq a.1 5) (k lv ((3, 0) :: r) M) (false))) st
theorem ai_l2i_ok (hl : ab_gl xs lv lv') (hs : ab_gs xs st st') (hr : ab_rm xs M (lay, m)) (h : ai_l2i lv st M k = true) : ab_ok xs lay (sm_p lv' m (sm_l1 (fun x => .int x.toInt32) st')) k := by
  cases st with
  | nil => cases h
  | cons a r =>
    replace hs := ab_gs_cons hs; obtain ⟨v, r', rfl, g, hs⟩ := hs
    rcases ab_bif h with ⟨h1, h⟩ | ⟨-, h⟩
    · obtain ⟨x, rfl, gx⟩ := ab_long_of (Or.inl (ab_beq h1)) g
      rw [ab_fi_eq, ← ab_cL (ab_beq h1) gx] at h
      exact ab_ok_p (s' := .int x.toInt32 :: r') (s := (0, x.toInt32.toInt) :: r) rfl hl ⟨ab_gi0 _, hs⟩ hr h
    · obtain ⟨h1, h⟩ := ab_bif0 h
      obtain ⟨x, rfl, gx⟩ := ab_long_of (Or.inr (ab_beq h1)) g
      exact ab_ok_p (s' := .int x.toInt32 :: r') (s := (3, 0) :: r) rfl hl ⟨ab_gi3 _ _, hs⟩ hr h
noncomputable def ai_ll (f : Int64 → Int64 → Int64) (lv : ab_L) (st : List ab_V) (M : ab_M) (k : ab_L → List ab_V → ab_M → Bool) : Bool := List.rec (motive := fun _ => Bool) false (fun b r_1 _ => List.rec (motive := fun _ => Bool) false (fun a r _ => ab_if (ab_an (Nat.beq a.1 4) (Nat.beq b.1 4)) (ab_fi (f (Int64.ofInt a.2) (Int64.ofInt b.2)).toInt (fun i => k lv ((4, i) :: r) M)) (ab_if (ab_an ((ab_oo (Nat.beq a.1 4) (Nat.beq a.1 5))) ((ab_oo (Nat.beq b.1 4) (Nat.beq b.1 5)))) (k lv ((5, 0) :: r) M) (false))) r_1) st
theorem ai_ll_ok {f : Int64 → Int64 → Int64} (hl : ab_gl xs lv lv') (hs : ab_gs xs st st') (hr : ab_rm xs M (lay, m)) (h : ai_ll f lv st M k = true) : ab_ok xs lay (sm_p lv' m (sm_ll f st')) k := by
  revert hs h
  refine ab_two (P := fun st => ab_gs xs st st' → ai_ll f lv st M k = true → _) (fun _ h => by cases h) (fun _ _ h => by cases h) (fun b a r hs h => ?_) st
  replace hs := ab_gs_cons hs; obtain ⟨u, r1, rfl, gb, hs⟩ := hs
  replace hs := ab_gs_cons hs; obtain ⟨v, r2, rfl, ga, hs⟩ := hs
  rcases ab_bif h with ⟨h1, h⟩ | ⟨-, h⟩
  · obtain ⟨h1, h2⟩ := ab_and2 h1
    obtain ⟨x, rfl, gx⟩ := ab_long_of (Or.inl (ab_beq h1)) ga
    obtain ⟨y, rfl, gy⟩ := ab_long_of (Or.inl (ab_beq h2)) gb
    rw [ab_fi_eq, ← ab_cL (ab_beq h1) gx, ← ab_cL (ab_beq h2) gy] at h
    exact ab_ok_p (s' := .long (f x y) :: r2) (s := (4, (f x y).toInt) :: r) rfl hl ⟨Or.inl ⟨rfl, rfl⟩, hs⟩ hr h
  · obtain ⟨h1, h⟩ := ab_bif0 h
    obtain ⟨h1, h2⟩ := ab_and2 h1
    obtain ⟨x, rfl, -⟩ := ab_long_of (ab_45 h1) ga
    obtain ⟨y, rfl, -⟩ := ab_long_of (ab_45 h2) gb
    exact ab_ok_p (s' := .long (f x y) :: r2) (s := (5, 0) :: r) rfl hl ⟨Or.inr rfl, hs⟩ hr h
noncomputable def ai_lc (lv : ab_L) (st : List ab_V) (M : ab_M) (k : ab_L → List ab_V → ab_M → Bool) : Bool := List.rec (motive := fun _ => Bool) false (fun b r_1 _ => List.rec (motive := fun _ => Bool) false (fun a r _ => ab_if (ab_an (Nat.beq a.1 4) (Nat.beq b.1 4)) (ab_fi (lg_cmp (Int64.ofInt a.2) (Int64.ofInt b.2)).toInt (fun i => k lv ((0, i) :: r) M)) (ab_if (ab_an ((ab_oo (Nat.beq a.1 4) (Nat.beq a.1 5))) ((ab_oo (Nat.beq b.1 4) (Nat.beq b.1 5)))) (k lv ((3, 0) :: r) M) (false))) r_1) st
theorem ai_lc_ok (hl : ab_gl xs lv lv') (hs : ab_gs xs st st') (hr : ab_rm xs M (lay, m)) (h : ai_lc lv st M k = true) : ab_ok xs lay (sm_p lv' m (sm_lc st')) k := by
  revert hs h
  refine ab_two (P := fun st => ab_gs xs st st' → ai_lc lv st M k = true → _) (fun _ h => by cases h) (fun _ _ h => by cases h) (fun b a r hs h => ?_) st
  replace hs := ab_gs_cons hs; obtain ⟨u, r1, rfl, gb, hs⟩ := hs
  replace hs := ab_gs_cons hs; obtain ⟨v, r2, rfl, ga, hs⟩ := hs
  rcases ab_bif h with ⟨h1, h⟩ | ⟨-, h⟩
  · obtain ⟨h1, h2⟩ := ab_and2 h1
    obtain ⟨x, rfl, gx⟩ := ab_long_of (Or.inl (ab_beq h1)) ga
    obtain ⟨y, rfl, gy⟩ := ab_long_of (Or.inl (ab_beq h2)) gb
    rw [ab_fi_eq, ← ab_cL (ab_beq h1) gx, ← ab_cL (ab_beq h2) gy] at h
    exact ab_ok_p (s' := .int (lg_cmp x y) :: r2) (s := (0, (lg_cmp x y).toInt) :: r) rfl hl ⟨ab_gi0 _, hs⟩ hr h
  · obtain ⟨h1, h⟩ := ab_bif0 h
    obtain ⟨h1, h2⟩ := ab_and2 h1
    obtain ⟨x, rfl, -⟩ := ab_long_of (ab_45 h1) ga
    obtain ⟨y, rfl, -⟩ := ab_long_of (ab_45 h2) gb
    exact ab_ok_p (s' := .int (lg_cmp x y) :: r2) (s := (3, 0) :: r) rfl hl ⟨ab_gi3 _ _, hs⟩ hr h
noncomputable def ai_li (f : Int64 → Int32 → Int64) (lv : ab_L) (st : List ab_V) (M : ab_M) (k : ab_L → List ab_V → ab_M → Bool) : Bool := List.rec (motive := fun _ => Bool) false (fun b r_1 _ => List.rec (motive := fun _ => Bool) false (fun a r _ => ab_if (ab_an (Nat.beq a.1 4) (Nat.beq b.1 0)) (ab_fi (f (Int64.ofInt a.2) (Int32.ofInt b.2)).toInt (fun i => k lv ((4, i) :: r) M)) (ab_if (ab_an ((ab_oo (Nat.beq a.1 4) (Nat.beq a.1 5))) (ab_isI b.1)) (k lv ((5, 0) :: r) M) (false))) r_1) st
theorem ai_li_ok {f : Int64 → Int32 → Int64} (hl : ab_gl xs lv lv') (hs : ab_gs xs st st') (hr : ab_rm xs M (lay, m)) (h : ai_li f lv st M k = true) : ab_ok xs lay (sm_p lv' m (sm_li f st')) k := by
  revert hs h
  refine ab_two (P := fun st => ab_gs xs st st' → ai_li f lv st M k = true → _) (fun _ h => by cases h) (fun _ _ h => by cases h) (fun b a r hs h => ?_) st
  replace hs := ab_gs_cons hs; obtain ⟨u, r1, rfl, gb, hs⟩ := hs
  replace hs := ab_gs_cons hs; obtain ⟨v, r2, rfl, ga, hs⟩ := hs
  rcases ab_bif h with ⟨h1, h⟩ | ⟨-, h⟩
  · obtain ⟨h1, h2⟩ := ab_and2 h1
    obtain ⟨x, rfl, gx⟩ := ab_long_of (Or.inl (ab_beq h1)) ga
    obtain ⟨y, rfl, gy⟩ := ab_isI_of (ab_isI0 (ab_beq h2)) gb
    rw [ab_fi_eq, ← ab_cL (ab_beq h1) gx, ← ab_cI (ab_beq h2) gy] at h
    exact ab_ok_p (s' := .long (f x y) :: r2) (s := (4, (f x y).toInt) :: r) rfl hl ⟨Or.inl ⟨rfl, rfl⟩, hs⟩ hr h
  · obtain ⟨h1, h⟩ := ab_bif0 h
    obtain ⟨h1, h2⟩ := ab_and2 h1
    obtain ⟨x, rfl, -⟩ := ab_long_of (ab_45 h1) ga
    obtain ⟨y, rfl, -⟩ := ab_isI_of h2 gb
    exact ab_ok_p (s' := .long (f x y) :: r2) (s := (5, 0) :: r) rfl hl ⟨Or.inr rfl, hs⟩ hr h
noncomputable def ab_c1 (a : ab_V) : Bool := Nat.beq (ab_cat a) 1
noncomputable def ai_dup (lv : ab_L) (st : List ab_V) (M : ab_M) (k : ab_L → List ab_V → ab_M → Bool) : Bool := List.rec (motive := fun _ => Bool) false (fun a r _ => ab_if (ab_c1 a) (k lv (a :: a :: r) M) (false)) st
theorem ai_dup_ok (hl : ab_gl xs lv lv') (hs : ab_gs xs st st') (hr : ab_rm xs M (lay, m)) (h : ai_dup lv st M k = true) : ab_ok xs lay (sm_p lv' m (sm_dup st')) k := by
  cases st with
  | nil => cases h
  | cons a r =>
    replace hs := ab_gs_cons hs; obtain ⟨v, r', rfl, g, hs⟩ := hs
    obtain ⟨h1, h⟩ := ab_bif0 h
    exact ab_ok_p (s' := v :: v :: r') (s := a :: a :: r) (by simp only [sm_dup]; rw [if_pos (by rw [ab_cat_of g]; exact ab_beq h1)]) hl ⟨g, g, hs⟩ hr h
noncomputable def ai_pop (lv : ab_L) (st : List ab_V) (M : ab_M) (k : ab_L → List ab_V → ab_M → Bool) : Bool := List.rec (motive := fun _ => Bool) false (fun a r _ => ab_if (ab_c1 a) (k lv r M) (false)) st
theorem ai_pop_ok (hl : ab_gl xs lv lv') (hs : ab_gs xs st st') (hr : ab_rm xs M (lay, m)) (h : ai_pop lv st M k = true) : ab_ok xs lay (sm_p lv' m (sm_pop st')) k := by
  cases st with
  | nil => cases h
  | cons a r =>
    replace hs := ab_gs_cons hs; obtain ⟨v, r', rfl, g, hs⟩ := hs
    obtain ⟨h1, h⟩ := ab_bif0 h
    exact ab_ok_p (s' := r') (s := r) (by simp only [sm_pop]; rw [if_pos (by rw [ab_cat_of g]; exact ab_beq h1)]) hl hs hr h
noncomputable def ai_dupx1 (lv : ab_L) (st : List ab_V) (M : ab_M) (k : ab_L → List ab_V → ab_M → Bool) : Bool := List.rec (motive := fun _ => Bool) false (fun a r_1 _ => List.rec (motive := fun _ => Bool) false (fun b r _ => ab_if (ab_an (ab_c1 a) (ab_c1 b)) (k lv (a :: b :: a :: r) M) (false)) r_1) st
theorem ai_dupx1_ok (hl : ab_gl xs lv lv') (hs : ab_gs xs st st') (hr : ab_rm xs M (lay, m)) (h : ai_dupx1 lv st M k = true) : ab_ok xs lay (sm_p lv' m (sm_dupx1 st')) k := by
  revert hs h
  refine ab_two (P := fun st => ab_gs xs st st' → ai_dupx1 lv st M k = true → _) (fun _ h => by cases h) (fun _ _ h => by cases h) (fun a b r hs h => ?_) st
  replace hs := ab_gs_cons hs; obtain ⟨u, r1, rfl, ga, hs⟩ := hs
  replace hs := ab_gs_cons hs; obtain ⟨v, r2, rfl, gb, hs⟩ := hs
  obtain ⟨h1, h⟩ := ab_bif0 h
  obtain ⟨h1, h2⟩ := ab_and2 h1
  exact ab_ok_p (s' := u :: v :: u :: r2) (s := a :: b :: a :: r) (by simp only [sm_dupx1]; rw [if_pos ⟨by rw [ab_cat_of ga]; exact ab_beq h1, by rw [ab_cat_of gb]; exact ab_beq h2⟩]) hl ⟨ga, gb, ga, hs⟩ hr h
noncomputable def ai_dup2 (lv : ab_L) (st : List ab_V) (M : ab_M) (k : ab_L → List ab_V → ab_M → Bool) : Bool := List.rec (motive := fun _ => Bool) false (fun a r_1 _ => List.rec (motive := fun _ => Bool) false (fun b r _ => ab_if (ab_an (ab_c1 a) (ab_c1 b)) (k lv (a :: b :: a :: b :: r) M) (false)) r_1) st
theorem ai_dup2_ok (hl : ab_gl xs lv lv') (hs : ab_gs xs st st') (hr : ab_rm xs M (lay, m)) (h : ai_dup2 lv st M k = true) : ab_ok xs lay (sm_p lv' m (sm_dup2 st')) k := by
  revert hs h
  refine ab_two (P := fun st => ab_gs xs st st' → ai_dup2 lv st M k = true → _) (fun _ h => by cases h) (fun _ _ h => by cases h) (fun a b r hs h => ?_) st
  replace hs := ab_gs_cons hs; obtain ⟨u, r1, rfl, ga, hs⟩ := hs
  replace hs := ab_gs_cons hs; obtain ⟨v, r2, rfl, gb, hs⟩ := hs
  obtain ⟨h1, h⟩ := ab_bif0 h
  obtain ⟨h1, h2⟩ := ab_and2 h1
  exact ab_ok_p (s' := u :: v :: u :: v :: r2) (s := a :: b :: a :: b :: r) (by simp only [sm_dup2]; rw [if_pos ⟨by rw [ab_cat_of ga]; exact ab_beq h1, by rw [ab_cat_of gb]; exact ab_beq h2⟩]) hl ⟨ga, gb, ga, gb, hs⟩ hr h
end AbI
