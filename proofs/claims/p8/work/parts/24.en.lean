/-! stores, fields, one instruction -/
section EnI3
variable {tb : en_Tb} {X : sm_W → Prop} {W : en_W} {w0 : en_A} {ρ : List Int} {E : en_E} {S : en_S} {lv : en_L} {st : List en_V} {lv' : sm_V} {st' : List Value} {lay : List (Nat × Nat)} {m : sm_Y} {k : en_K1}
theorem en_wall_ok {p : Nat} (h : en_wall W p = true) (j : Nat) : en_wok W p j = true := by
  obtain ⟨q, h1, h2⟩ := List.any_eq_true.mp h
  refine List.any_eq_true.mpr ⟨q, h1, ?_⟩
  obtain ⟨h3, h4⟩ := en_and2 h2
  refine Bool.and_eq_true_iff.mpr ⟨h3, ?_⟩
  split at h4
  · rfl
  · cases h4
noncomputable def ei_pI1 (tb : en_Tb) (W : en_W) (lv : en_L) (r : List en_V) (S : en_S) (E : en_E) (k : en_K1) (a : en_V) (i : en_V) (p : Nat) : Bool := match en_cell tb p with
  | some d => bif (Nat.beq d.1 1 && en_ix E i d.2.1) && (en_isI a.1 && (en_wall W p && !(en_fixc tb p))) then (match en_fiv d.2.2[0]? with
    | some q => bif en_sub (en_iv E a) q then k lv r ((0, p, i, a) :: S.filter (en_keepI p i)) E else false
    | none => false) else false
  | none => false
noncomputable def ei_pI (tb : en_Tb) (W : en_W) (lv : en_L) (st : List en_V) (S : en_S) (E : en_E) (k : en_K1) : Bool := match st with
  | a :: i :: b :: r => en_rf b (ei_pI1 tb W lv r S E k a i)
  | _ => false
theorem ei_pI_ok (hX : en_Xok tb X) (hR : en_R tb X W w0 ρ E S lv st lv' st' (lay, m)) (h : ei_pI tb W lv st S E k = true) : en_ok tb X W w0 lay (sm_pI lv' lay m st') k := by
  revert hR h
  refine en_three (P := fun st => en_R tb X W w0 ρ E S lv st lv' st' (lay, m) → ei_pI tb W lv st S E k = true → _) (fun _ h => by cases h) (fun _ _ h => by cases h) (fun _ _ _ h => by cases h) (fun a i b r hR h => ?_) st
  obtain ⟨y, r0, e, ga, hs⟩ := en_gs_cons hR.2.2.2.2.1
  subst e
  replace hs := en_gs_cons hs; obtain ⟨u, r1, rfl, gi, hs⟩ := hs
  replace hs := en_gs_cons hs; obtain ⟨v, r2, rfl, gb, hs⟩ := hs
  replace h := en_rf_ok (ρ := ρ) h gb; obtain ⟨p, rfl, h⟩ := h
  unfold ei_pI1 at h
  split at h
  · next d hd =>
    replace h := en_bif0 h; obtain ⟨h1, h⟩ := h
    obtain ⟨h1, h4⟩ := en_and2 h1
    obtain ⟨h1, h2⟩ := en_and2 h1
    obtain ⟨h4, h5⟩ := en_and2 h4
    obtain ⟨h5, h9⟩ := en_and2 h5
    have h9 : en_fixc tb p = false := by
      cases e : en_fixc tb p with
      | false => rfl
      | true => rw [e] at h9; cases h9
    have h1 := en_beq h1
    obtain ⟨x, rfl, hx, hx2, gx⟩ := en_ix_ok h2 hR.1 gi
    obtain ⟨z, rfl, gz⟩ := en_isI_of h4 ga
    split at h
    · next q hq =>
      replace h := en_bif0 h; obtain ⟨h6, h⟩ := h
      have c1 : lay[p]? = some (d.1, d.2.1) := hR.2.1.1 p d hd
      rw [h1] at c1
      obtain ⟨k1, k2, k3⟩ := en_wrI hX (W := W) (w0 := w0.1) (S := S) hR.1 hR.2.1 hR.2.2.1 hR.2.2.2.2.2.1 gx gz (en_intA hd (by omega) hx2 hq) h6 (en_wall_ok h5 _) (en_fixc_ok h9 _)
      exact ⟨(lv', r2, (sm_up m.1 p x.toNatClampNeg z, m.2)), by simp only [sm_pI, c1]; rw [if_neg hx], ρ, E, _, lv, r, ⟨hR.1, k1, k2, hR.2.2.2.1, hs, k3, hR.2.2.2.2.2.2⟩, h⟩
    · cases h
  · cases h
noncomputable def ei_pB1 (tb : en_Tb) (W : en_W) (lv : en_L) (r : List en_V) (S : en_S) (E : en_E) (k : en_K1) (a : en_V) (i : en_V) (p : Nat) : Bool := match en_cell tb p with
  | some d => bif ((Nat.beq d.1 2 || Nat.beq d.1 3) && en_ix E i d.2.1) && (en_isI a.1 && (en_wall W p && !(en_fixc tb p))) then (match en_fiv d.2.2[0]? with
    | some q => bif en_sub (bif Nat.beq d.1 2 then (-128, 127) else (0, 1)) q then en_new E (bif Nat.beq d.1 2 then (-128, 127) else (0, 1)) (fun E v => bif en_sub (en_iv E v) q then k lv r ((0, p, i, v) :: S.filter (en_keepI p i)) E else false) else false
    | none => false) else false
  | none => false
noncomputable def ei_pB (tb : en_Tb) (W : en_W) (lv : en_L) (st : List en_V) (S : en_S) (E : en_E) (k : en_K1) : Bool := match st with
  | a :: i :: b :: r => en_rf b (ei_pB1 tb W lv r S E k a i)
  | _ => false
theorem en_narB (x : Int32) : -128 ≤ (vp_nar .byte x).toInt ∧ (vp_nar .byte x).toInt ≤ 127 := en_byte x
theorem en_narZ (x : Int32) : 0 ≤ (vp_nar .boolean x).toInt ∧ (vp_nar .boolean x).toInt ≤ 1 := by
  show 0 ≤ (x &&& 1).toInt ∧ (x &&& 1).toInt ≤ 1
  have : (x &&& 1).toBitVec.toNat ≤ 1 := by
    rw [Int32.toBitVec_and, BitVec.toNat_and]
    exact Nat.and_le_right
  exact en_bits2 this (by decide)
theorem ei_pB_ok (hX : en_Xok tb X) (hR : en_R tb X W w0 ρ E S lv st lv' st' (lay, m)) (h : ei_pB tb W lv st S E k = true) : en_ok tb X W w0 lay (sm_pB lv' lay m st') k := by
  revert hR h
  refine en_three (P := fun st => en_R tb X W w0 ρ E S lv st lv' st' (lay, m) → ei_pB tb W lv st S E k = true → _) (fun _ h => by cases h) (fun _ _ h => by cases h) (fun _ _ _ h => by cases h) (fun a i b r hR h => ?_) st
  obtain ⟨y, r0, e, ga, hs⟩ := en_gs_cons hR.2.2.2.2.1
  subst e
  replace hs := en_gs_cons hs; obtain ⟨u, r1, rfl, gi, hs⟩ := hs
  replace hs := en_gs_cons hs; obtain ⟨v, r2, rfl, gb, hs⟩ := hs
  replace h := en_rf_ok (ρ := ρ) h gb; obtain ⟨p, rfl, h⟩ := h
  unfold ei_pB1 at h
  split at h
  · next d hd =>
    replace h := en_bif0 h; obtain ⟨h1, h⟩ := h
    obtain ⟨h1, h4⟩ := en_and2 h1
    obtain ⟨h1, h2⟩ := en_and2 h1
    obtain ⟨h4, h5⟩ := en_and2 h4
    obtain ⟨h5, h9⟩ := en_and2 h5
    have h9 : en_fixc tb p = false := by
      cases e : en_fixc tb p with
      | false => rfl
      | true => rw [e] at h9; cases h9
    obtain ⟨x, rfl, hx, hx2, gx⟩ := en_ix_ok h2 hR.1 gi
    obtain ⟨z, rfl, gz⟩ := en_isI_of h4 ga
    split at h
    · next q hq =>
      replace h := en_bif0 h; obtain ⟨h6, h⟩ := h
      have c1 : lay[p]? = some (d.1, d.2.1) := hR.2.1.1 p d hd
      cases e2 : Nat.beq d.1 2 with
      | true =>
        rw [e2] at h
        have e2 := en_beq e2
        rw [e2] at c1
        obtain ⟨E', t, g1, g2, g3⟩ := en_new_ok hR.1 h (vp_nar .byte z).toInt (en_narB z)
        replace g3 := en_bif0 g3; obtain ⟨g3, g4⟩ := g3
        have hR' := en_R_app [(vp_nar .byte z).toInt] g1 hR
        obtain ⟨k1, k2, k3⟩ := en_wrI hX (W := W) (w0 := w0.1) (S := S) (x := vp_nar .byte z) g1 hR'.2.1 hR'.2.2.1 hR'.2.2.2.2.2.1 (en_gi_app _ gx) g2 (en_intA hd (by omega) hx2 hq) g3 (en_wall_ok h5 _) (en_fixc_ok h9 _)
        exact ⟨(lv', r2, (sm_up m.1 p x.toNatClampNeg (vp_nar .byte z), m.2)), by simp only [sm_pB, c1]; rw [if_neg hx], _, E', _, lv, r, ⟨g1, k1, k2, hR'.2.2.2.1, en_gs_app' _ hs, k3, hR'.2.2.2.2.2.2⟩, g4⟩
      | false =>
        rw [e2] at h
        have e3 : d.1 = 3 := by
          rcases Bool.or_eq_true_iff.mp h1 with h1 | h1
          · rw [e2] at h1; cases h1
          · exact en_beq h1
        rw [e3] at c1
        obtain ⟨E', t, g1, g2, g3⟩ := en_new_ok hR.1 h (vp_nar .boolean z).toInt (en_narZ z)
        replace g3 := en_bif0 g3; obtain ⟨g3, g4⟩ := g3
        have hR' := en_R_app [(vp_nar .boolean z).toInt] g1 hR
        obtain ⟨k1, k2, k3⟩ := en_wrI hX (W := W) (w0 := w0.1) (S := S) (x := vp_nar .boolean z) g1 hR'.2.1 hR'.2.2.1 hR'.2.2.2.2.2.1 (en_gi_app _ gx) g2 (en_intA hd (by omega) hx2 hq) g3 (en_wall_ok h5 _) (en_fixc_ok h9 _)
        exact ⟨(lv', r2, (sm_up m.1 p x.toNatClampNeg (vp_nar .boolean z), m.2)), by simp only [sm_pB, c1]; rw [if_neg hx], _, E', _, lv, r, ⟨g1, k1, k2, hR'.2.2.2.1, en_gs_app' _ hs, k3, hR'.2.2.2.2.2.2⟩, g4⟩
    · cases h
  · cases h
noncomputable def ei_pL1 (tb : en_Tb) (lv : en_L) (r : List en_V) (S : en_S) (E : en_E) (k : en_K1) (a : en_V) (i : en_V) (p : Nat) : Bool := match en_cell tb p with
  | some d => bif (Nat.beq d.1 4 && en_ix E i d.2.1) && (Nat.beq a.1 5 && !(en_fixc tb p)) then k lv r S E else false
  | none => false
noncomputable def ei_pL (tb : en_Tb) (lv : en_L) (st : List en_V) (S : en_S) (E : en_E) (k : en_K1) : Bool := match st with
  | a :: i :: b :: r => en_rf b (ei_pL1 tb lv r S E k a i)
  | _ => false
theorem ei_pL_ok (hX : en_Xok tb X) (hR : en_R tb X W w0 ρ E S lv st lv' st' (lay, m)) (h : ei_pL tb lv st S E k = true) : en_ok tb X W w0 lay (sm_pL lv' lay m st') k := by
  revert hR h
  refine en_three (P := fun st => en_R tb X W w0 ρ E S lv st lv' st' (lay, m) → ei_pL tb lv st S E k = true → _) (fun _ h => by cases h) (fun _ _ h => by cases h) (fun _ _ _ h => by cases h) (fun a i b r hR h => ?_) st
  obtain ⟨y, r0, e, ga, hs⟩ := en_gs_cons hR.2.2.2.2.1
  subst e
  replace hs := en_gs_cons hs; obtain ⟨u, r1, rfl, gi, hs⟩ := hs
  replace hs := en_gs_cons hs; obtain ⟨v, r2, rfl, gb, hs⟩ := hs
  replace h := en_rf_ok (ρ := ρ) h gb; obtain ⟨p, rfl, h⟩ := h
  unfold ei_pL1 at h
  split at h
  · next d hd =>
    replace h := en_bif0 h; obtain ⟨h1, h⟩ := h
    obtain ⟨h1, h4⟩ := en_and2 h1
    obtain ⟨h1, h2⟩ := en_and2 h1
    have h1 := en_beq h1
    obtain ⟨h4, h9⟩ := en_and2 h4
    have h9 : en_fixc tb p = false := by
      cases e : en_fixc tb p with
      | false => rfl
      | true => rw [e] at h9; cases h9
    obtain ⟨x, rfl, hx, hx2, gx⟩ := en_ix_ok h2 hR.1 gi
    obtain ⟨z, rfl⟩ := en_long_of (en_beq h4) ga
    have c1 : lay[p]? = some (d.1, d.2.1) := hR.2.1.1 p d hd
    rw [h1] at c1
    have hm := hR.2.1
    exact ⟨(lv', r2, (m.1, sm_up m.2.1 p x.toNatClampNeg z, m.2.2)), by simp only [sm_pL, c1]; rw [if_neg hx], ρ, E, S, lv, r, ⟨hR.1, ⟨hm.1, hm.2.1, hm.2.2.1, hm.2.2.2.1, hX.2.2 _ _ _ _ _ (en_fixc_ok h9 _) hm.2.2.2.2⟩, fun e he => hR.2.2.1 e he, hR.2.2.2.1, hs, hR.2.2.2.2.2⟩, h⟩
  · cases h
/-! fields -/
noncomputable def en_rdR (tb : en_Tb) (p f : Nat) (lv : en_L) (st : List en_V) (S : en_S) (E : en_E) (k : en_K1) : Bool := match en_find S 1 p (0, (f : Int)) with
  | some v => k lv (v :: st) S E
  | none => match en_refs tb p f with
    | [a] => k lv ((2, (a : Int)) :: st) S E
    | [a, b] => k lv ((2, (a : Int)) :: st) ((1, p, (0, (f : Int)), (2, (a : Int))) :: S) E && k lv ((2, (b : Int)) :: st) ((1, p, (0, (f : Int)), (2, (b : Int))) :: S) E
    | _ => false
noncomputable def ei_get1 (tb : en_Tb) (c f : Nat) (lv : en_L) (r : List en_V) (S : en_S) (E : en_E) (k : en_K1) (p : Nat) : Bool := match en_cell tb p with
  | some d => bif Nat.beq d.1 0 && Nat.beq d.2.1 c then (bif Nat.beq (sm_cd c f) 1 then en_rdR tb p f lv r S E k else match en_fiv d.2.2[f]? with
    | some q => en_rd p (0, (f : Int)) q lv r S E k
    | none => false) else false
  | none => false
noncomputable def ei_get (tb : en_Tb) (c f : Nat) (lv : en_L) (st : List en_V) (S : en_S) (E : en_E) (k : en_K1) : Bool := match st with
  | b :: r => en_rf b (ei_get1 tb c f lv r S E k)
  | _ => false
theorem en_rdR_ok {p f : Nat} {s : List en_V} {s' : List Value} {o : Option (List Value)} (hR : en_R tb X W w0 ρ E S lv st lv' st' (lay, m)) (hs : en_gs ρ s s') (e : o = some (sm_rv (m.2.2 p f) :: s')) (h : en_rdR tb p f lv s S E k = true) : en_ok tb X W w0 lay (sm_p lv' m o) k := by
  unfold en_rdR at h
  split at h
  · next v e1 =>
    have h1 := hR.2.2.1 _ (en_find_ok e1)
    obtain ⟨n, q, g1, g2, g3⟩ := h1.2 rfl
    have g1 : ((0 : Nat), (f : Int)) = (0, (n : Int)) := g1
    have g2 : v = (2, (q : Int)) := g2
    have ef : f = n := by have := (Prod.ext_iff.mp g1).2; simp only at this; omega
    subst ef
    have g3 : m.2.2 p f = some q := g3
    refine en_okp (s := v :: s) e hR ⟨?_, hs⟩ h
    rw [g3, g2]
    exact ⟨rfl, rfl⟩
  · split at h
    · next a e2 =>
      obtain ⟨r, hr1, hr2⟩ := hR.2.1.2.2.1 p f (by rw [e2]; exact List.cons_ne_nil _ _)
      rw [e2] at hr1
      have : r = a := by simpa using hr1
      subst this
      have hr2 : m.2.2 p f = some r := hr2
      refine en_okp (s := (2, (r : Int)) :: s) e hR ⟨?_, hs⟩ h
      rw [hr2]
      exact ⟨rfl, rfl⟩
    · next a b e2 =>
      obtain ⟨r, hr1, hr2⟩ := hR.2.1.2.2.1 p f (by rw [e2]; exact List.cons_ne_nil _ _)
      rw [e2] at hr1
      have hr2 : m.2.2 p f = some r := hr2
      obtain ⟨h1, h2⟩ := en_and2 h
      have key : ∀ x, r = x → k lv ((2, (x : Int)) :: s) ((1, p, (0, (f : Int)), (2, (x : Int))) :: S) E = true → en_ok tb X W w0 lay (sm_p lv' m o) k := by
        intro x ex hk
        subst ex
        refine ⟨(lv', sm_rv (m.2.2 p f) :: s', m), by rw [e]; rfl, ρ, E, (1, p, (0, (f : Int)), (2, (r : Int))) :: S, lv, (2, (r : Int)) :: s, ⟨hR.1, hR.2.1, ?_, hR.2.2.2.1, ⟨?_, hs⟩, hR.2.2.2.2.2⟩, hk⟩
        · intro e' he
          rcases List.mem_cons.mp he with rfl | he
          · exact ⟨fun c => (by cases c), fun _ => ⟨f, r, rfl, rfl, hr2⟩⟩
          · exact hR.2.2.1 e' he
        · rw [hr2]
          exact ⟨rfl, rfl⟩
      simp only [List.mem_cons, List.not_mem_nil, or_false] at hr1
      rcases hr1 with c | c
      · exact key a c h1
      · exact key b c h2
    · cases h
theorem en_intF {p f : Nat} {d : en_D} {q : Int × Int} (hd : en_cell tb p = some d) (h0 : d.1 = 0) (hq : en_fiv d.2.2[f]? = some q) : en_int tb p f = some q := by
  unfold en_int
  rw [hd]
  dsimp only
  have e1 : Nat.beq d.1 0 = true := by rw [h0]; rfl
  rw [e1]
  exact hq
theorem ei_get_ok {c f : Nat} (hR : en_R tb X W w0 ρ E S lv st lv' st' (lay, m)) (h : ei_get tb c f lv st S E k = true) : en_ok tb X W w0 lay (sm_p lv' m (sm_get lay m c f st')) k := by
  cases st with
  | nil => cases h
  | cons b r =>
    obtain ⟨v, r2, e, gb, hs⟩ := en_gs_cons hR.2.2.2.2.1
    subst e
    replace h := en_rf_ok (ρ := ρ) h gb; obtain ⟨p, rfl, h⟩ := h
    unfold ei_get1 at h
    split at h
    · next d hd =>
      replace h := en_bif0 h; obtain ⟨h1, h⟩ := h
      obtain ⟨h1, h2⟩ := en_and2 h1
      have h1 := en_beq h1
      have h2 := en_beq h2
      have c1 : lay[p]? = some (d.1, d.2.1) := hR.2.1.1 p d hd
      rw [h1, h2] at c1
      rcases en_bif h with ⟨hc, h⟩ | ⟨hc, h⟩
      · have hc := en_beq hc
        refine en_rdR_ok hR hs ?_ h
        simp only [sm_get, c1]
        rw [if_pos trivial, if_pos hc]
      · have hc := en_bne hc
        split at h
        · next q hq =>
          refine en_rd_ok (n := f) hR hs (en_gi0 _) (hR.2.1.2.1 p f q (en_intF hd h1 hq)) ?_ h
          simp only [sm_get, c1]
          rw [if_pos trivial, if_neg hc]
        · cases h
    · cases h
noncomputable def ei_put1 (tb : en_Tb) (W : en_W) (c f : Nat) (lv : en_L) (r : List en_V) (S : en_S) (E : en_E) (k : en_K1) (a : en_V) (p : Nat) : Bool := match en_cell tb p with
  | some d => bif (Nat.beq d.1 0 && Nat.beq d.2.1 c) && (en_wok W p f && !(en_fix tb p f)) then (bif Nat.beq (sm_cd c f) 1 then en_rf a (fun q => bif (en_refs tb p f).any (fun i => Nat.beq i q) then k lv r ((1, p, (0, (f : Int)), (2, (q : Int))) :: S.filter (en_keepR p f)) E else false) else match en_fiv d.2.2[f]? with
    | some q => bif (en_isI a.1 && en_sub (en_iv E a) q) && (Nat.beq (sm_cd c f) 0 || (Nat.beq (sm_cd c f) 2 && en_sub (en_iv E a) (0, 1))) then k lv r ((0, p, (0, (f : Int)), a) :: S.filter (en_keepI p (0, (f : Int)))) E else false
    | none => false) else false
  | none => false
noncomputable def ei_put (tb : en_Tb) (W : en_W) (c f : Nat) (lv : en_L) (st : List en_V) (S : en_S) (E : en_E) (k : en_K1) : Bool := match st with
  | a :: b :: r => en_rf b (ei_put1 tb W c f lv r S E k a)
  | _ => false
theorem ei_put_ok (hX : en_Xok tb X) {c f : Nat} (hR : en_R tb X W w0 ρ E S lv st lv' st' (lay, m)) (h : ei_put tb W c f lv st S E k = true) : en_ok tb X W w0 lay (sm_put lv' lay m c f st') k := by
  revert hR h
  refine en_two (P := fun st => en_R tb X W w0 ρ E S lv st lv' st' (lay, m) → ei_put tb W c f lv st S E k = true → _) (fun _ h => by cases h) (fun _ _ h => by cases h) (fun a b r hR h => ?_) st
  obtain ⟨u, r1, e, ga, hs⟩ := en_gs_cons hR.2.2.2.2.1
  subst e
  replace hs := en_gs_cons hs; obtain ⟨v, r2, rfl, gb, hs⟩ := hs
  replace h := en_rf_ok (ρ := ρ) h gb; obtain ⟨p, rfl, h⟩ := h
  unfold ei_put1 at h
  split at h
  · next d hd =>
    replace h := en_bif0 h; obtain ⟨h1, h⟩ := h
    obtain ⟨h1, h3⟩ := en_and2 h1
    obtain ⟨h3, h9⟩ := en_and2 h3
    have h9 : en_fix tb p f = false := by
      cases e : en_fix tb p f with
      | false => rfl
      | true => rw [e] at h9; cases h9
    obtain ⟨h1, h2⟩ := en_and2 h1
    have h1 := en_beq h1
    have h2 := en_beq h2
    have c1 : lay[p]? = some (d.1, d.2.1) := hR.2.1.1 p d hd
    rw [h1, h2] at c1
    rcases en_bif h with ⟨hc, h⟩ | ⟨-, h⟩
    · have hc := en_beq hc
      obtain ⟨q, rfl, h⟩ := en_rf_ok (ρ := ρ) h ga
      replace h := en_bif0 h; obtain ⟨h4, h⟩ := h
      obtain ⟨i, h5, h6⟩ := List.any_eq_true.mp h4
      have h6 := en_beq h6
      subst h6
      obtain ⟨k1, k2, k3⟩ := en_wrR hX (W := W) (w0 := w0.1) (S := S) (ρ := ρ) hR.2.1 hR.2.2.1 hR.2.2.2.2.2.1 h5 h3 h9
      exact ⟨(lv', r2, (m.1, m.2.1, sm_up m.2.2 p f (some i))), by simp only [sm_put, c1, hc]; rfl, ρ, E, _, lv, r, ⟨hR.1, k1, k2, hR.2.2.2.1, hs, k3, hR.2.2.2.2.2.2⟩, h⟩
    · split at h
      · next q hq =>
        replace h := en_bif0 h; obtain ⟨h4, h⟩ := h
        obtain ⟨h4, h5⟩ := en_and2 h4
        obtain ⟨h4, h6⟩ := en_and2 h4
        obtain ⟨x, rfl, gx⟩ := en_isI_of h4 ga
        obtain ⟨k1, k2, k3⟩ := en_wrI hX (W := W) (w0 := w0.1) (S := S) (i := (0, (f : Int))) hR.1 hR.2.1 hR.2.2.1 hR.2.2.2.2.2.1 (en_gi0 _) gx (en_intF hd h1 hq) h6 h3 h9
        refine ⟨(lv', r2, (sm_up m.1 p f x, m.2)), ?_, ρ, E, _, lv, r, ⟨hR.1, k1, k2, hR.2.2.2.1, hs, k3, hR.2.2.2.2.2.2⟩, h⟩
        rcases Bool.or_eq_true_iff.mp h5 with hc | hc
        · have hc := en_beq hc
          simp only [sm_put, c1, hc]
          rfl
        · obtain ⟨hc, h7⟩ := en_and2 hc
          have hc := en_beq hc
          have h7 := en_sub_of h7
          have i := en_ivx hR.1 gx
          have hx : x = 0 ∨ x = 1 := by
            have e0 : (0 : Int32).toInt = 0 := by decide
            have e1 : (1 : Int32).toInt = 1 := by decide
            simp only at h7
            rcases (show x.toInt = 0 ∨ x.toInt = 1 by omega) with q | q
            · exact Or.inl (en_ofI (by rw [q, e0]))
            · exact Or.inr (en_ofI (by rw [q, e1]))
          simp only [sm_put, c1, hc]
          rw [if_pos trivial, if_pos hx]
      · cases h
  · cases h
/-! Math -/
noncomputable def en_sum (st : List en_V) : Nat := List.rec (motive := fun _ => Nat) 0 (fun a _ ih => Nat.add (en_cat a) ih) st
theorem en_sum_ok : ∀ {st : List en_V} {st' : List Value}, en_gs ρ st st' → (st'.map fun v => v.category).sum = en_sum st
  | [], [], _ => rfl
  | a :: r, v :: r', h => by
    simp only [List.map_cons, List.sum_cons]
    rw [en_sum_ok h.2, en_cat_of h.1]
    rfl
  | [], _ :: _, h => h.elim
  | _ :: _, [], h => h.elim
noncomputable def ei_ma (bin : en_E → en_V → en_V → (en_E → en_V → Bool) → Bool) (lv : en_L) (st : List en_V) (S : en_S) (E : en_E) (k : en_K1) : Bool := match st with
  | b :: a :: r => bif Nat.ble (en_sum r) 8 then bin E a b (fun E v => k lv (v :: r) S E) else false
  | _ => false
theorem ei_ma_ok {bin : en_E → en_V → en_V → (en_E → en_V → Bool) → Bool} {f : Int32 → Int32 → Int32} (hb : en_binok bin f) (hR : en_R tb X W w0 ρ E S lv st lv' st' (lay, m)) (h : ei_ma bin lv st S E k = true) : en_ok tb X W w0 lay (sm_p lv' m (sm_ma f st')) k := by
  revert hR h
  refine en_two (P := fun st => en_R tb X W w0 ρ E S lv st lv' st' (lay, m) → ei_ma bin lv st S E k = true → _) (fun _ h => by cases h) (fun _ _ h => by cases h) (fun b a r hR h => ?_) st
  obtain ⟨u, r1, e, gb, hs⟩ := en_gs_cons hR.2.2.2.2.1
  subst e
  replace hs := en_gs_cons hs; obtain ⟨v, r2, rfl, ga, hs⟩ := hs
  replace h := en_bif0 h; obtain ⟨h1, h⟩ := h
  obtain ⟨x, y, z, E', ys, rfl, rfl, g0, g1, g2⟩ := hb _ _ _ _ _ _ _ hR.1 h ga gb
  refine en_okp (s' := .int (f x y) :: r2) (s := z :: r) ?_ (en_R_app ys g0 hR) ⟨g1, en_gs_app' ys hs⟩ g2
  simp only [sm_ma]
  rw [if_pos (by rw [en_sum_ok hs]; exact en_ble h1)]
noncomputable def ei_mb (lv : en_L) (st : List en_V) (S : en_S) (E : en_E) (k : en_K1) : Bool := match st with
  | a :: r => bif Nat.ble (en_sum r) 8 && en_isI a.1 then en_new E en_full (fun E v => k lv (v :: r) S E) else false
  | _ => false
theorem ei_mb_ok {f : Int32 → Int32} (hR : en_R tb X W w0 ρ E S lv st lv' st' (lay, m)) (h : ei_mb lv st S E k = true) : en_ok tb X W w0 lay (sm_p lv' m (sm_mb f st')) k := by
  cases st with
  | nil => cases h
  | cons a r =>
    obtain ⟨v, r2, e, ga, hs⟩ := en_gs_cons hR.2.2.2.2.1
    subst e
    replace h := en_bif0 h; obtain ⟨h1, h⟩ := h
    obtain ⟨h1, h2⟩ := en_and2 h1
    obtain ⟨x, rfl, -⟩ := en_isI_of h2 ga
    refine ei_fresh (x := f x) (s := r) (s' := r2) ?_ hR hs en_crange h
    simp only [sm_mb]
    rw [if_pos (by rw [en_sum_ok hs]; exact en_ble h1)]
/-! one instruction -/
noncomputable def en_one (tb : en_Tb) (W : en_W) (nL : Nat) (i : Instr) (ops : List Nat) (lv : en_L) (st : List en_V) (S : en_S) (E : en_E) (k : en_K1) : Bool := match i with
  | .iconst n => k lv ((0, (Int32.ofInt n).toInt) :: st) S E
  | .bipush n => k lv ((0, (Int8.ofInt n).toInt32.toInt) :: st) S E
  | .sipush n => k lv ((0, (Int16.ofInt n).toInt32.toInt) :: st) S E
  | .lconst _ => k lv ((5, 0) :: st) S E
  | .ldc _ => k lv ((0, (Int32.ofNat (ops.getD 0 0)).toInt) :: st) S E
  | .ldc_w _ => k lv ((0, (Int32.ofNat (ops.getD 0 0)).toInt) :: st) S E
  | .ldc2_w _ => k lv ((5, 0) :: st) S E
  | .aconst_null => k lv ((1, 0) :: st) S E
  | .iload j => ei_ldi j lv st S E k
  | .iload_n j => ei_ldi j lv st S E k
  | .lload j => ei_ldl j lv st S E k
  | .lload_n j => ei_ldl j lv st S E k
  | .aload j => ei_lda j lv st S E k
  | .aload_n j => ei_lda j lv st S E k
  | .istore j => ei_sti j nL lv st S E k
  | .istore_n j => ei_sti j nL lv st S E k
  | .lstore j => ei_stl j nL lv st S E k
  | .lstore_n j => ei_stl j nL lv st S E k
  | .astore j => ei_sta j nL lv st S E k
  | .astore_n j => ei_sta j nL lv st S E k
  | .iinc j n => ei_inc j n nL lv st S E k
  | .iadd => ei_ii en_add lv st S E k
  | .isub => ei_ii en_subv lv st S E k
  | .imul => ei_ii (en_bin (fun x y => x * y) en_gmul) lv st S E k
  | .iand => ei_ii (en_bin (fun x y => x &&& y) en_gand) lv st S E k
  | .ior => ei_ii (en_bin (fun x y => x ||| y) en_gor) lv st S E k
  | .ixor => ei_ii (en_bin (fun x y => x ^^^ y) en_gfull) lv st S E k
  | .ishl => ei_ii (en_bin (fun x y => x <<< (y &&& 31)) en_gshl) lv st S E k
  | .ishr => ei_ii (en_bin (fun x y => x >>> (y &&& 31)) en_gfull) lv st S E k
  | .iushr => ei_ii (en_bin (fun x y => (x.toUInt32 >>> (y.toUInt32 &&& Int32.toUInt32 31)).toInt32) en_gfull) lv st S E k
  | .idiv => ei_div lv st S E k
  | .irem => ei_rem lv st S E k
  | .ineg => ei_i1 en_gneg lv st S E k
  | .i2b => ei_i1 en_gbyte lv st S E k
  | .i2l => ei_i2l lv st S E k
  | .l2i => ei_l2i lv st S E k
  | .ladd => ei_ll lv st S E k
  | .lsub => ei_ll lv st S E k
  | .lmul => ei_ll lv st S E k
  | .land => ei_ll lv st S E k
  | .lor => ei_ll lv st S E k
  | .lshl => ei_li lv st S E k
  | .lshr => ei_li lv st S E k
  | .lcmp => ei_lc lv st S E k
  | .dup => ei_dup lv st S E k
  | .dup_x1 => ei_dupx1 lv st S E k
  | .dup2 => ei_dup2 lv st S E k
  | .pop => ei_pop lv st S E k
  | .iaload => ei_gI tb lv st S E k
  | .baload => ei_gB tb lv st S E k
  | .laload => ei_gL tb lv st S E k
  | .arraylength => ei_len tb lv st S E k
  | .iastore => ei_pI tb W lv st S E k
  | .bastore => ei_pB tb W lv st S E k
  | .lastore => ei_pL tb lv st S E k
  | .getfield _ => ei_get tb (ops.getD 0 0) (ops.getD 1 0) lv st S E k
  | .putfield _ => ei_put tb W (ops.getD 0 0) (ops.getD 1 0) lv st S E k
  | .getstatic _ => k lv ((2, (ops.getD 0 0 : Nat)) :: st) S E
  | .invokestatic _ => match ops with
    | 1 :: _ => ei_ma (en_bin (fun x y => if x < y then y else x) en_gmax) lv st S E k
    | 2 :: _ => ei_ma (en_bin (fun x y => if y < x then y else x) en_gmin) lv st S E k
    | 3 :: _ => ei_mb lv st S E k
    | _ => false
  | _ => false
set_option maxHeartbeats 4000000 in
theorem en_one_ok (hX : en_Xok tb X) {Sc : sm_C} {nL : Nat} {i : Instr} {ops : List Nat} (hR : en_R tb X W w0 ρ E S lv st lv' st' (lay, m)) (h : en_one tb W nL i ops lv st S E k = true) : en_ok tb X W w0 lay (sm_one Sc nL i ops lv' st' lay m) k := by
  cases i with
  | iconst n => exact ei_push hR (en_gi0 _) h
  | bipush n => exact ei_push hR (en_gi0 _) h
  | sipush n => exact ei_push hR (en_gi0 _) h
  | lconst n => exact ei_push (a := (5, 0)) hR rfl h
  | ldc n => exact ei_push hR (en_gi0 _) h
  | ldc_w n => exact ei_push hR (en_gi0 _) h
  | ldc2_w n => exact ei_push (a := (5, 0)) hR rfl h
  | aconst_null => exact ei_push (a := (1, 0)) hR rfl h
  | iload j => exact ei_ldi_ok hR h
  | iload_n j => exact ei_ldi_ok hR h
  | lload j => exact ei_ldl_ok hR h
  | lload_n j => exact ei_ldl_ok hR h
  | aload j => exact ei_lda_ok hR h
  | aload_n j => exact ei_lda_ok hR h
  | istore j => exact ei_sti_ok hR h
  | istore_n j => exact ei_sti_ok hR h
  | lstore j => exact ei_stl_ok hR h
  | lstore_n j => exact ei_stl_ok hR h
  | astore j => exact ei_sta_ok hR h
  | astore_n j => exact ei_sta_ok hR h
  | iinc j n => exact ei_inc_ok hR h
  | iadd => exact ei_ii_ok en_add_ok hR h
  | isub => exact ei_ii_ok en_subv_ok hR h
  | imul => exact ei_ii_ok (en_bin_ok en_gmul_ok) hR h
  | iand => exact ei_ii_ok (en_bin_ok en_gand_ok) hR h
  | ior => exact ei_ii_ok (en_bin_ok en_gor_ok) hR h
  | ixor => exact ei_ii_ok (en_bin_ok (en_gfull_ok _)) hR h
  | ishl => exact ei_ii_ok (en_bin_ok en_gshl_ok) hR h
  | ishr => exact ei_ii_ok (en_bin_ok (en_gfull_ok _)) hR h
  | iushr => exact ei_ii_ok (en_bin_ok (en_gfull_ok _)) hR h
  | idiv => exact ei_div_ok hR h
  | irem => exact ei_rem_ok hR h
  | ineg => exact ei_i1_ok en_gneg_ok hR h
  | i2b => exact ei_i1_ok en_gbyte_ok hR h
  | i2l => exact ei_i2l_ok hR h
  | l2i => exact ei_l2i_ok hR h
  | ladd => exact ei_ll_ok hR h
  | lsub => exact ei_ll_ok hR h
  | lmul => exact ei_ll_ok hR h
  | land => exact ei_ll_ok hR h
  | lor => exact ei_ll_ok hR h
  | lshl => exact ei_li_ok hR h
  | lshr => exact ei_li_ok hR h
  | lcmp => exact ei_lc_ok hR h
  | dup => exact ei_dup_ok hR h
  | dup_x1 => exact ei_dupx1_ok hR h
  | dup2 => exact ei_dup2_ok hR h
  | pop => exact ei_pop_ok hR h
  | iaload => exact ei_gI_ok hR h
  | baload => exact ei_gB_ok hR h
  | laload => exact ei_gL_ok hR h
  | arraylength => exact ei_len_ok hR h
  | iastore => exact ei_pI_ok hX hR h
  | bastore => exact ei_pB_ok hX hR h
  | lastore => exact ei_pL_ok hX hR h
  | getfield x => exact ei_get_ok hR h
  | putfield x => exact ei_put_ok hX hR h
  | getstatic x => exact ei_push hR ⟨rfl, rfl⟩ h
  | invokestatic x =>
    show en_ok tb X W w0 lay (sm_st4 ops lv' lay m st') k
    match ops, h with
    | 1 :: r, h => exact ei_ma_ok (en_bin_ok en_gmax_ok) hR h
    | 2 :: r, h => exact ei_ma_ok (en_bin_ok en_gmin_ok) hR h
    | 3 :: r, h => exact ei_mb_ok hR h
  | _ => cases h
end EnI3
