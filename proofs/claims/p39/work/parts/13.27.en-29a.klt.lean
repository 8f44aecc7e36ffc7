section
/-! regions: from a cut to the next cuts, to calls by contract, to the end -/
def en_ol (r : Option en_V) (st : List en_V) : List en_V := match r with
  | none => st
  | some a => a :: st
abbrev en_J : Type := Nat → en_L → List en_V → en_S → en_E → Bool
abbrev en_KR : Type := Option en_V → en_S → en_E → Bool
abbrev en_In : Type := Nat → List en_V → en_S → en_E → en_KR → Bool
noncomputable def en_rcv1 (tb : en_Tb) (ci p : Nat) : Bool := match en_cell tb p with
  | some d => Nat.beq d.1 0 && Nat.beq d.2.1 ci
  | none => false
noncomputable def en_rcv (tb : en_Tb) (inst ci : Nat) (st : List en_V) (n : Nat) : Bool := bif Nat.beq inst 0 then true else match st.drop n with
  | b :: _ => en_rf b (en_rcv1 tb ci)
  | [] => false
noncomputable def en_call (tb : en_Tb) (T : List en_Ct) (W : en_W) (D : Nat) (P : Nat → sm_M) (inl : en_In) (g inst ci : Nat) (lv : en_L) (st : List en_V) (S : en_S) (E : en_E) (k : en_K1) : Bool :=
  bif (en_rcv tb inst ci st (P g).2.2.2.2.1 && Nat.ble ((P g).2.2.2.2.1 + inst) st.length) && ((Nat.beq (P g).2.2.2.2.2.1 0 && Nat.beq (P g).2.2.2.2.2.2.1 0) && (Nat.ble (en_slots (st.take ((P g).2.2.2.2.1 + inst)).reverse) (P g).2.2.1 && Nat.ble (en_sum (st.drop ((P g).2.2.2.2.1 + inst))) 8)) then (match T.find? (en_match E g (st.take ((P g).2.2.2.2.1 + inst)).reverse) with
    | some c => bif (Nat.blt c.2.2.2.2.2 D && en_wsub c.2.2.2.2.1 W) && c.2.2.1.all (en_pfc tb S E) then en_res c.2.2.2.1 E (fun r E => k lv (en_ol r (st.drop ((P g).2.2.2.2.1 + inst))) (S.filter (en_keepC c.2.2.2.2.1)) E) else false
    | none => inl g (st.take ((P g).2.2.2.2.1 + inst)).reverse S E (fun r S E => k lv (en_ol r (st.drop ((P g).2.2.2.2.1 + inst))) S E)) else false
noncomputable def en_else (tb : en_Tb) (T : List en_Ct) (W : en_W) (D : Nat) (P : Nat → sm_M) (inl : en_In) (nL : Nat) (i : Instr) (ops : List Nat) (lv : en_L) (st : List en_V) (S : en_S) (E : en_E) (k : en_K1) : Bool := match ops with
  | g :: inst :: ci :: _ :: _ :: _ :: _ :: _ => en_call tb T W D P inl g inst ci lv st S E k
  | ops => en_one tb W nL i ops lv st S E k
noncomputable def en_rok (t : en_Fd) (E : en_E) (a : en_V) : Bool := en_pm E t a || (Nat.beq t.1 3 && (Nat.beq a.1 2 && (en_eq a.2 t.2.1 || en_eq a.2 t.2.2)))
def en_z (Mt : sm_M) : Bool := Nat.beq Mt.2.2.2.2.2.1 0 && Nat.beq Mt.2.2.2.2.2.2.1 0
noncomputable def en_step (tb : en_Tb) (T : List en_Ct) (W : en_W) (D : Nat) (P : Nat → sm_M) (inl : en_In) (Mt : sm_M) (kr : en_KR) (jmp : en_J) (i : Instr) (ops : List Nat) (ih : en_K1) (lv : en_L) (st : List en_V) (S : en_S) (E : en_E) : Bool := match i with
  | .goto _ => jmp (ops.getD 0 0) lv st S E
  | .ifCond c _ => en_b1 c E st (fun r E => jmp (ops.getD 0 0) lv r S E) (fun r E => jmp (ops.getD 1 0) lv r S E)
  | .if_icmp c _ => en_b2 c E st (fun r E => jmp (ops.getD 0 0) lv r S E) (fun r E => jmp (ops.getD 1 0) lv r S E)
  | .ifnull _ => en_bn st (fun r => jmp (ops.getD 0 0) lv r S E) (fun r => jmp (ops.getD 1 0) lv r S E)
  | .ifnonnull _ => en_bn st (fun r => jmp (ops.getD 1 0) lv r S E) (fun r => jmp (ops.getD 0 0) lv r S E)
  | .tableswitch _ lo _ _ => match st with
    | a :: r => bif en_isI a.1 then en_sw a (fun b E => jmp b lv r S E) (ops.getD 0 0) lo (ops.drop 1) E else false
    | [] => false
  | .lookupswitch _ ps => match st with
    | a :: r => bif en_isI a.1 then en_lo a (fun b E => jmp b lv r S E) (ops.getD 0 0) ps.toList (ops.drop 1) E else false
    | [] => false
  | .ireturn => match st with
    | [a] => (en_z Mt && (en_isI a.1 && (!(sm_isZ Mt.2.2.2.1) || en_sub (en_iv E a) (0, 1)))) && kr (some a) S E
    | _ => false
  | .lreturn => match st with
    | [a] => (en_z Mt && Nat.beq a.1 5) && kr (some a) S E
    | _ => false
  | .areturn => match st with
    | [a] => (en_z Mt && Nat.beq a.1 2) && kr (some a) S E
    | _ => false
  | .return_ => match st with
    | [] => en_z Mt && kr none S E
    | _ => false
  | .new _ => false
  | .newarray _ => false
  | i => en_else tb T W D P inl Mt.2.2.1 i ops lv st S E ih
noncomputable def en_blk (tb : en_Tb) (T : List en_Ct) (W : en_W) (D : Nat) (P : Nat → sm_M) (inl : en_In) (Mt : sm_M) (kr : en_KR) (jmp : en_J) (fall : Nat) (is : List (Instr × List Nat)) : en_K1 := List.rec (motive := fun _ => en_K1) (fun lv st S E => jmp fall lv st S E) (fun q _ ih lv st S E => en_step tb T W D P inl Mt kr jmp q.1 q.2 ih lv st S E) is
abbrev en_KC : Type := Nat → List en_V → List en_V → en_S → en_E → Bool
noncomputable def en_go (tb : en_Tb) (T : List en_Ct) (W : en_W) (D : Nat) (P : Nat → sm_M) (inl : en_In) (Mt : sm_M) (kr : en_KR) (kc : en_KC) (n : Nat) : en_J := Nat.rec (motive := fun _ => en_J) (fun _ _ _ _ _ => false) (fun _ jmp b lv st S E => bif Nat.beq b 0 then false else match Mt.2.2.2.2.2.2.2.2[b]? with
    | none => false
    | some (_, some live, _, _) => en_pick live lv (fun vs => kc b vs st S E)
    | some (_, none, fall, is) => en_blk tb T W D P inl Mt kr jmp fall is lv st S E) n
/-- at a cut that has a pattern -/
noncomputable def en_mchk (cur : Option (Int × List Int)) (c : en_Cu) (vs : List en_V) (E : en_E) : Bool := en_le 0 (c.2.2.2.2.1 + (en_ml c.2.2.2.2.2 vs).1 + en_low (en_ml c.2.2.2.2.2 vs).2 E) && (match cur with
  | none => true
  | some q => en_le 1 (q.1 - (c.2.2.2.2.1 + (en_ml c.2.2.2.2.2 vs).1) + en_low (en_vadd q.2 (en_vneg (en_ml c.2.2.2.2.2 vs).2)) E))
noncomputable def en_cchk (tb : en_Tb) (cur : Option (Int × List Int)) (c : en_Cu) (vs : List en_V) (S : en_S) (E : en_E) : Bool := c.2.2.2.1.all (en_pfc tb S E) && en_mchk cur c vs E
noncomputable def en_cutAt (cuts : List en_Cu) (b : Nat) (vs st : List en_V) (E : en_E) : Option en_Cu := cuts.find? (fun c => Nat.beq c.1 b && (en_pms E c.2.1 vs && en_pms E c.2.2.1 st))
noncomputable def en_run (tb : en_Tb) (T : List en_Ct) (W : en_W) (P : Nat → sm_M) (n : Nat) : Nat → Nat → List en_Cu → Option (Int × List Int) → en_KR → en_KC := Nat.rec (motive := fun _ => Nat → Nat → List en_Cu → Option (Int × List Int) → en_KR → en_KC) (fun _ _ _ _ _ _ _ _ _ _ => false) (fun _ rec f D cuts cur kr b vs st S E => match (P f).2.2.2.2.2.2.2.2[b]? with
  | some (_, some live, fall, is) => en_blk tb T W D P (fun g as S E kr' => bif Nat.beq D 0 then false else rec g (D - 1) [] none kr' 0 as [] S E) (P f) kr (en_go tb T W D P (fun g as S E kr' => bif Nat.beq D 0 then false else rec g (D - 1) [] none kr' 0 as [] S E) (P f) kr (fun b vs st S E => match en_cutAt cuts b vs st E with
    | some c => en_cchk tb cur c vs S E
    | none => rec f D cuts cur kr b vs st S E) 64) fall is (bif Nat.beq b 0 then en_args 0 vs else en_zip live vs) st S E
  | _ => false) n
noncomputable def en_fin (res : en_Fd) : en_KR := fun r _ E => match r with
  | none => Nat.beq res.1 9
  | some a => en_rok res E a
/-- the region of a cut, and of the entry -/
noncomputable def en_reg (tb : en_Tb) (T : List en_Ct) (P : Nat → sm_M) (cuts : List en_Cu) (k : en_Ct) (c : en_Cu) : Bool := en_ini c.2.1 [] (fun E vs => en_ini c.2.2.1 E (fun E st => en_inf c.2.2.2.1 E [] (fun E S => en_run tb T k.2.2.2.2.1 P 40 k.1 k.2.2.2.2.2 cuts (some (c.2.2.2.2.1 + (en_ml c.2.2.2.2.2 vs).1, (en_ml c.2.2.2.2.2 vs).2)) (en_fin k.2.2.2.1) c.1 vs st S E)))
noncomputable def en_ent (tb : en_Tb) (T : List en_Ct) (P : Nat → sm_M) (cuts : List en_Cu) (c : en_Ct) : Bool := en_ini c.2.1 [] (fun E vs => en_inf c.2.2.1 E [] (fun E S => en_run tb T c.2.2.2.2.1 P 40 c.1 c.2.2.2.2.2 cuts none (en_fin c.2.2.2.1) 0 vs [] S E))
noncomputable def en_chk (tb : en_Tb) (T : List en_Ct) (P : Nat → sm_M) (cuts : List en_Cu) (c : en_Ct) : Bool := en_ent tb T P cuts c && cuts.all (en_reg tb T P cuts c)
section EnX
variable {tb : en_Tb} {X : sm_W → Prop} {T : List en_Ct} {W : en_W} {D : Nat} {P : Nat → sm_M} {Sc : sm_C} {Mt : sm_M} {res : en_Fd} {w0 : en_A} {d f : Nat} {inl : en_In} {kr : en_KR} {Φ : sm_Z → Prop} {J : Nat → Nat → sm_V → List Value → sm_W → Nat × Nat → Option sm_Z} {jmp : en_J} {fall : Nat}
def en_Ph (tb : en_Tb) (X : sm_W → Prop) (W : en_W) (res : en_Fd) (w : sm_W) (z : sm_Z) : Prop := en_pr res z.1 ∧ en_mem tb X z.2 ∧ en_fr W w z.2
def en_jok (tb : en_Tb) (X : sm_W → Prop) (W : en_W) (w0 : en_A) (Φ : sm_Z → Prop) (jmp : en_J) (J : Nat → Nat → sm_V → List Value → sm_W → Nat × Nat → Option sm_Z) : Prop := ∀ (b : Nat) (ρ : List Int) (E : en_E) (S : en_S) (lv : en_L) (st : List en_V) (lv' : sm_V) (st' : List Value) (w : sm_W), jmp b lv st S E = true → en_R tb X W w0 ρ E S lv st lv' st' w → sm_ev (fun n => J n b lv' st' w (0, 0)) Φ
/-- what an end is worth -/
def en_krok (tb : en_Tb) (X : sm_W → Prop) (W : en_W) (w0 : en_A) (Φ : sm_Z → Prop) (kr : en_KR) : Prop := ∀ (ρ : List Int) (E : en_E) (S : en_S) (r : Option en_V) (r' : Option Value) (w : sm_W), kr r S E = true → en_sat ρ E → en_mem tb X w → en_st ρ w S → en_or ρ r r' → en_fr W w0.1 w → (∃ ys, ρ = w0.2 ++ ys) → Φ (r', w)
/-- what a call without a contract is worth -/
def en_inok (tb : en_Tb) (X : sm_W → Prop) (P : Nat → sm_M) (Sc : sm_C) (d : Nat) (W : en_W) (w0 : en_A) (inl : en_In) : Prop := ∀ (g : Nat) (ρ : List Int) (E : en_E) (S : en_S) (as : List en_V) (as' : List Value) (w : sm_W) (kr : en_KR) (Ψ : sm_Z → Prop), inl g as S E kr = true → en_sat ρ E → en_mem tb X w → en_st ρ w S → en_gs ρ as as' → en_fr W w0.1 w → en_krok tb X W (w0.1, ρ) Ψ kr → ∃ d', d = d' + 1 ∧ sm_wp P Sc d' g 0 as' [] w (0, 0) Ψ
theorem en_ol_ok {ρ : List Int} {r : Option en_V} {r' : Option Value} {st : List en_V} {st' : List Value} (h : en_or ρ r r') (hs : en_gs ρ st st') : en_gs ρ (en_ol r st) (r'.toList ++ st') := by
  cases r with
  | none => cases r' with
    | none => exact hs
    | some v => exact h.elim
  | some a => cases r' with
    | none => exact h.elim
    | some v => exact ⟨h, hs⟩
theorem en_rcv_ok {ρ : List Int} {inst ci n : Nat} {w : sm_W} {st : List en_V} {st' : List Value} (hs : en_gs ρ st st') (hm : en_mem tb X w) (h : en_rcv tb inst ci st n = true) : sm_rc inst ci w.1 st' n = true := by
  unfold en_rcv at h
  unfold sm_rc
  cases inst with
  | zero => rfl
  | succ i =>
    have h : (match st.drop n with
      | b :: _ => en_rf b (en_rcv1 tb ci)
      | [] => false) = true := h
    have hs := en_gs_drop n hs
    cases e : st.drop n with
    | nil => rw [e] at h; cases h
    | cons b r =>
      rw [e] at h hs
      obtain ⟨v, r', e2, g, -⟩ := en_gs_cons hs
      rw [e2]
      have h : en_rf b (en_rcv1 tb ci) = true := h
      replace h := en_rf_ok (ρ := ρ) h g; obtain ⟨p, rfl, h⟩ := h
      unfold en_rcv1 at h
      split at h
      · next d hd =>
        obtain ⟨h1, h2⟩ := en_and2 h
        have h1 := en_beq h1
        have h2 := en_beq h2
        have c1 := hm.1 p d hd
        rw [h1, h2] at c1
        dsimp only
        rw [c1]
        exact decide_eq_true rfl
      · cases h
theorem en_else_ok {i : Instr} {ops : List Nat} {ρ : List Int} {E : en_E} {S : en_S} {lv : en_L} {st : List en_V} {lv' : sm_V} {st' : List Value} {w : sm_W} {kk : en_K1} {K : Nat → sm_V → List Value → sm_W → Nat × Nat → Option sm_Z} (hX : en_Xok tb X) (hT : ∀ c ∈ T, en_hold tb X P Sc c) (hD : D ≤ d) (hI : en_inok tb X P Sc d W w0 inl)
    (hk : ∀ (ρ : List Int) (E : en_E) (S : en_S) (lv : en_L) (st : List en_V) (lv' : sm_V) (st' : List Value) (w : sm_W), kk lv st S E = true → en_R tb X W w0 ρ E S lv st lv' st' w → sm_ev (fun n => K n lv' st' w (0, 0)) Φ)
    (hR : en_R tb X W w0 ρ E S lv st lv' st' w) (h : en_else tb T W D P inl Mt.2.2.1 i ops lv st S E kk = true) : sm_ev (fun n => sm_else P Sc (sm_run P Sc n) d Mt i ops lv' st' w (0, 0) (K n)) Φ := by
  unfold en_else at h
  split at h
  · next g inst ci a1 a2 a3 a4 r =>
    unfold en_call at h
    replace h := en_bif0 h
    obtain ⟨q, h⟩ := h
    obtain ⟨q1, q⟩ := en_and2 q
    obtain ⟨q1, q2⟩ := en_and2 q1
    obtain ⟨q3, q5⟩ := en_and2 q
    obtain ⟨q3, q4⟩ := en_and2 q3
    obtain ⟨q5, q6⟩ := en_and2 q5
    have hs := hR.2.2.2.2.1
    have ga := en_gs_rev (en_gs_take ((P g).2.2.2.2.1 + inst) hs)
    have gd := en_gs_drop ((P g).2.2.2.2.1 + inst) hs
    have hlen := en_gs_len hs
    have q1 := en_rcv_ok hs hR.2.1 q1
    have q2 := en_ble q2
    have q3 := en_beq q3
    have q4 := en_beq q4
    have q5 : (lg_sl (st'.take ((P g).2.2.2.2.1 + inst)).reverse).length ≤ (P g).2.2.1 := by rw [en_slots_ok ga]; exact en_ble q5
    have q6 : ((st'.drop ((P g).2.2.2.2.1 + inst)).map fun v => v.category).sum ≤ 8 := by rw [en_sum_ok gd]; exact en_ble q6
    have go : ∀ d', d = d' + 1 → sm_wp P Sc d' g 0 (st'.take ((P g).2.2.2.2.1 + inst)).reverse [] w (0, 0) (fun z => sm_ev (fun n => K n lv' (z.1.toList ++ st'.drop ((P g).2.2.2.2.1 + inst)) z.2 (0, 0)) Φ) → sm_ev (fun n => sm_else P Sc (sm_run P Sc n) d Mt i (g :: inst :: ci :: a1 :: a2 :: a3 :: a4 :: r) lv' st' w (0, 0) (K n)) Φ := by
      intro d' ed hw2
      subst ed
      obtain ⟨N1, z1, ⟨N2, z2, k1, k2⟩, k3⟩ := sm_ev_wp hw2
      refine ⟨max N1 N2, z2, k1, fun n hn => ?_⟩
      show sm_else P Sc (sm_run P Sc n) (d' + 1) Mt i (g :: inst :: ci :: a1 :: a2 :: a3 :: a4 :: r) lv' st' w (0, 0) (K n) = some z2
      unfold sm_else
      dsimp only
      unfold sm_inv
      rw [if_neg]
      · have k3' := k3 n (by omega)
        dsimp only at k3' ⊢
        rw [k3', q3, q4]
        exact k2 n (by omega)
      · rw [q3, q4]
        rintro (q | q | q | q | q | q)
        · rw [q1] at q; cases q
        · omega
        · omega
        · omega
        · simp only at q; omega
        · simp only at q; omega
    split at h
    · next c hc =>
      replace h := en_bif0 h
      obtain ⟨q7, h⟩ := h
      obtain ⟨q7, q9⟩ := en_and2 q7
      obtain ⟨q7, q8⟩ := en_and2 q7
      have q7 := en_blt q7
      have hcm := List.mem_of_find?_eq_some hc
      have hcp := List.find?_some hc
      obtain ⟨hc1, hc2⟩ := en_and2 hcp
      have hc1 := en_beq hc1
      have hpv := en_pms_ok hR.1 hc2 ga
      have hpf := en_pf_ok q9 hR.1 hR.2.1 hR.2.2.1
      have ed : d = (d - 1) + 1 := by omega
      have hw := hT c hcm (d - 1) (by omega) _ w hpv hR.2.1 hpf
      rw [hc1] at hw
      refine go (d - 1) ed (sm_wp_mono hw (fun z hq => ?_))
      obtain ⟨z1, z2⟩ := z
      obtain ⟨p1, p2, p3⟩ := hq
      obtain ⟨ys, E', rr, g1, g2, g3⟩ := en_res_ok h hR.1 p1
      refine hk _ _ _ _ _ _ _ _ g3 ⟨g1, p2, ?_, en_gl_app ys hR.2.2.2.1, en_ol_ok g2 (en_gs_app' ys gd), ?_, ?_⟩
      · exact en_st_app ys (en_keepC_ok p3 hR.2.2.1)
      · exact en_fr_tr hR.2.2.2.2.2.1 ⟨p3.1, fun p j hh => p3.2 p j (en_wsub_ok q8 hh)⟩
      · obtain ⟨zs, e⟩ := hR.2.2.2.2.2.2
        exact ⟨zs ++ ys, by rw [e, List.append_assoc]⟩
    · obtain ⟨d', ed, hw⟩ := hI g ρ E S _ _ w _ (fun z => sm_ev (fun n => K n lv' (z.1.toList ++ st'.drop ((P g).2.2.2.2.1 + inst)) z.2 (0, 0)) Φ) h hR.1 hR.2.1 hR.2.2.1 ga hR.2.2.2.2.2.1 (by
        intro ρ2 E2 S2 r2 r2' w2 e g1 g2 g3 g4 g5 g6
        obtain ⟨ys, ey⟩ := g6
        have ey : ρ2 = ρ ++ ys := ey
        subst ey
        refine hk _ _ _ _ _ _ _ _ e ⟨g1, g2, g3, en_gl_app ys hR.2.2.2.1, en_ol_ok g4 (en_gs_app' ys gd), g5, ?_⟩
        obtain ⟨zs, e⟩ := hR.2.2.2.2.2.2
        exact ⟨zs ++ ys, by rw [e, List.append_assoc]⟩)
      exact go d' ed hw
  · next hno =>
    obtain ⟨q, e1, ρ1, E1, S1, lv1, st1, g1, g2⟩ := en_one_ok hX (Sc := Sc) (lay := w.1) (m := w.2) hR h
    obtain ⟨N, z, k1, k2⟩ := hk _ _ _ _ _ _ _ _ g2 g1
    refine ⟨N, z, k1, fun n hn => ?_⟩
    show sm_else P Sc (sm_run P Sc n) d Mt i ops lv' st' w (0, 0) (K n) = some z
    unfold sm_else
    split
    · next g inst ci a1 a2 a3 a4 r => exact absurd rfl (hno g inst ci a1 a2 a3 a4 r)
    · rw [e1]; exact k2 n hn
theorem en_z_of (h : en_z Mt = true) : ((0, 0) : Nat × Nat) = (Mt.2.2.2.2.2.1, Mt.2.2.2.2.2.2.1) := by
  obtain ⟨h1, h2⟩ := en_and2 h
  rw [en_beq h1, en_beq h2]
theorem en_rok_ok {ρ : List Int} {E : en_E} {a : en_V} {v : Value} (h : en_rok res E a = true) (hE : en_sat ρ E) (hg : en_g ρ a v) : en_pr res (some v) := by
  rcases Bool.or_eq_true_iff.mp h with h | h
  · exact Or.inl (en_pm_ok h hE hg)
  · obtain ⟨h1, h2⟩ := en_and2 h
    obtain ⟨h2, h3⟩ := en_and2 h2
    obtain ⟨p, rfl, e⟩ := en_ref_of (en_beq h2) hg
    refine Or.inr ⟨en_beq h1, ?_⟩
    rcases Bool.or_eq_true_iff.mp h3 with h3 | h3
    · exact Or.inl ⟨p, rfl, by rw [← en_eq_iff.mp h3, e]⟩
    · exact Or.inr ⟨p, rfl, by rw [← en_eq_iff.mp h3, e]⟩
set_option maxHeartbeats 4000000 in
theorem en_blk_ok (hX : en_Xok tb X) (hT : ∀ c ∈ T, en_hold tb X P Sc c) (hD : D ≤ d) (hI : en_inok tb X P Sc d W w0 inl) (hK : en_krok tb X W w0 Φ kr) (hj : en_jok tb X W w0 Φ jmp J) : ∀ (is : List (Instr × List Nat)) (ρ : List Int) (E : en_E) (S : en_S) (lv : en_L) (st : List en_V) (lv' : sm_V) (st' : List Value) (w : sm_W), en_blk tb T W D P inl Mt kr jmp fall is lv st S E = true → en_R tb X W w0 ρ E S lv st lv' st' w → sm_ev (fun n => sm_blk P Sc (sm_run P Sc n) (J n) d Mt fall is lv' st' w (0, 0)) Φ := by
  intro is
  induction is with
  | nil => intro ρ E S lv st lv' st' w h hR; exact hj _ _ _ _ _ _ _ _ _ h hR
  | cons q is ih =>
    obtain ⟨i, ops⟩ := q
    intro ρ E S lv st lv' st' w h hR
    have h : en_step tb T W D P inl Mt kr jmp i ops (en_blk tb T W D P inl Mt kr jmp fall is) lv st S E = true := h
    have hs := hR.2.2.2.2.1
    have mv : ∀ {r : List en_V} {r' : List Value} {E' : en_E}, en_gs ρ r r' → en_sat ρ E' → en_R tb X W w0 ρ E' S lv r lv' r' w := fun g1 g2 => ⟨g2, hR.2.1, hR.2.2.1, hR.2.2.2.1, g1, hR.2.2.2.2.2⟩
    have fin : ∀ r r', kr r S E = true → en_or ρ r r' → Φ (r', w) := fun r r' e g => hK ρ E S r r' w e hR.1 hR.2.1 hR.2.2.1 g hR.2.2.2.2.2.1 hR.2.2.2.2.2.2
    cases i with
    | goto off => exact hj _ _ _ _ _ _ _ _ _ h hR
    | ifCond c off => exact en_b1_ok (A := fun r n => J n (ops.getD 0 0) lv' r w (0, 0)) (B := fun r n => J n (ops.getD 1 0) lv' r w (0, 0)) hR.1 hs (fun r r' E' g1 g2 h => hj _ _ _ _ _ _ _ _ _ h (mv g1 g2)) (fun r r' E' g1 g2 h => hj _ _ _ _ _ _ _ _ _ h (mv g1 g2)) h
    | if_icmp c off => exact en_b2_ok (A := fun r n => J n (ops.getD 0 0) lv' r w (0, 0)) (B := fun r n => J n (ops.getD 1 0) lv' r w (0, 0)) hR.1 hs (fun r r' E' g1 g2 h => hj _ _ _ _ _ _ _ _ _ h (mv g1 g2)) (fun r r' E' g1 g2 h => hj _ _ _ _ _ _ _ _ _ h (mv g1 g2)) h
    | ifnull off => exact en_bn_ok (A := fun r n => J n (ops.getD 0 0) lv' r w (0, 0)) (B := fun r n => J n (ops.getD 1 0) lv' r w (0, 0)) hs (fun r r' g1 h => hj _ _ _ _ _ _ _ _ _ h (mv g1 hR.1)) (fun r r' g1 h => hj _ _ _ _ _ _ _ _ _ h (mv g1 hR.1)) h
    | ifnonnull off => exact en_bn_ok (A := fun r n => J n (ops.getD 1 0) lv' r w (0, 0)) (B := fun r n => J n (ops.getD 0 0) lv' r w (0, 0)) hs (fun r r' g1 h => hj _ _ _ _ _ _ _ _ _ h (mv g1 hR.1)) (fun r r' g1 h => hj _ _ _ _ _ _ _ _ _ h (mv g1 hR.1)) h
    | tableswitch df lo hi offs =>
      cases st with
      | nil => cases h
      | cons a r =>
        replace hs := en_gs_cons hs; obtain ⟨v, r', rfl, g, hs⟩ := hs
        replace h := en_bif0 h; obtain ⟨h1, h⟩ := h
        obtain ⟨x, rfl, gx⟩ := en_isI_of h1 g
        exact en_sw_ok (K := fun b n => J n b lv' r' w (0, 0)) gx (fun b E' g1 h => hj _ _ _ _ _ _ _ _ _ h (mv hs g1)) _ _ _ hR.1 h
    | lookupswitch df ps =>
      cases st with
      | nil => cases h
      | cons a r =>
        replace hs := en_gs_cons hs; obtain ⟨v, r', rfl, g, hs⟩ := hs
        replace h := en_bif0 h; obtain ⟨h1, h⟩ := h
        obtain ⟨x, rfl, gx⟩ := en_isI_of h1 g
        exact en_lo_ok (K := fun b n => J n b lv' r' w (0, 0)) gx (fun b E' g1 h => hj _ _ _ _ _ _ _ _ _ h (mv hs g1)) _ _ _ hR.1 h
    | ireturn =>
      match st, hs, h with
      | [], _, h => cases h
      | _ :: _ :: _, _, h => cases h
      | [a], hs, h =>
        replace hs := en_gs_cons hs; obtain ⟨v, r', rfl, g, hs⟩ := hs
        have e2 := en_gs_nil hs
        subst e2
        obtain ⟨h1, h2⟩ := en_and2 h
        obtain ⟨h1, h3⟩ := en_and2 h1
        obtain ⟨h3, h4⟩ := en_and2 h3
        obtain ⟨x, rfl, gx⟩ := en_isI_of h3 g
        have i := en_ivx hR.1 gx
        refine ⟨0, _, fin (some a) (some (.int x)) h2 g, fun n _ => ?_⟩
        show (if ((0, 0) : Nat × Nat) = _ then (if sm_isZ Mt.2.2.2.1 = true then (if x = 0 ∨ x = 1 then _ else _) else _) else _) = _
        rw [if_pos (en_z_of h1)]
        by_cases e : sm_isZ Mt.2.2.2.1 = true
        · rw [if_pos e, if_pos]
          rcases Bool.or_eq_true_iff.mp h4 with h4 | h4
          · rw [e] at h4; cases h4
          · have h4 := en_sub_of h4
            have e0 : (0 : Int32).toInt = 0 := by decide
            have e1 : (1 : Int32).toInt = 1 := by decide
            simp only at h4
            rcases (show x.toInt = 0 ∨ x.toInt = 1 by omega) with q | q
            · exact Or.inl (en_ofI (by rw [q, e0]))
            · exact Or.inr (en_ofI (by rw [q, e1]))
        · rw [if_neg e]
    | lreturn =>
      match st, hs, h with
      | [], _, h => cases h
      | _ :: _ :: _, _, h => cases h
      | [a], hs, h =>
        replace hs := en_gs_cons hs; obtain ⟨v, r', rfl, g, hs⟩ := hs
        have e2 := en_gs_nil hs
        subst e2
        obtain ⟨h1, h2⟩ := en_and2 h
        obtain ⟨h1, h3⟩ := en_and2 h1
        obtain ⟨x, rfl⟩ := en_long_of (en_beq h3) g
        refine ⟨0, _, fin (some a) (some (.long x)) h2 g, fun n _ => ?_⟩
        show (if ((0, 0) : Nat × Nat) = _ then _ else _) = _
        rw [if_pos (en_z_of h1)]
    | areturn =>
      match st, hs, h with
      | [], _, h => cases h
      | _ :: _ :: _, _, h => cases h
      | [a], hs, h =>
        replace hs := en_gs_cons hs; obtain ⟨v, r', rfl, g, hs⟩ := hs
        have e2 := en_gs_nil hs
        subst e2
        obtain ⟨h1, h2⟩ := en_and2 h
        obtain ⟨h1, h3⟩ := en_and2 h1
        obtain ⟨x, rfl, -⟩ := en_ref_of (en_beq h3) g
        refine ⟨0, _, fin (some a) (some (.ref x)) h2 g, fun n _ => ?_⟩
        show (if ((0, 0) : Nat × Nat) = _ then _ else _) = _
        rw [if_pos (en_z_of h1)]
    | return_ =>
      match st, hs, h with
      | _ :: _, _, h => cases h
      | [], hs, h =>
        have e2 := en_gs_nil hs
        subst e2
        obtain ⟨h1, h2⟩ := en_and2 h
        refine ⟨0, _, fin none none h2 trivial, fun n _ => ?_⟩
        show (if ((0, 0) : Nat × Nat) = _ then _ else _) = _
        rw [if_pos (en_z_of h1)]
    | new x => cases h
    | newarray x => cases h
    | _ =>
      have k1 := en_else_ok (K := fun n lv st w cs => sm_blk P Sc (sm_run P Sc n) (J n) d Mt fall is lv st w cs) hX hT hD hI ih hR h
      obtain ⟨N, z, k2, k3⟩ := k1
      exact ⟨N, z, k2, fun n hn => by show sm_blk _ _ _ _ _ _ _ _ _ _ _ _ = _; rw [sm_blk_else rfl]; exact k3 n hn⟩
/-- what a cut's continuation is worth -/
def en_kok (tb : en_Tb) (X : sm_W → Prop) (P : Nat → sm_M) (Sc : sm_C) (d f : Nat) (W : en_W) (w0 : en_A) (Φ : sm_Z → Prop) (kc : en_KC) : Prop := ∀ (b : Nat) (ρ : List Int) (E : en_E) (S : en_S) (vs st : List en_V) (vs' st' : List Value) (w : sm_W), kc b vs st S E = true → en_sat ρ E → en_mem tb X w → en_st ρ w S → en_gs ρ vs vs' → en_gs ρ st st' → en_fr W w0.1 w → (∃ ys, ρ = w0.2 ++ ys) → sm_wp P Sc d f b vs' st' w (0, 0) Φ
theorem en_go_ok {kc : en_KC} (hX : en_Xok tb X) (hT : ∀ c ∈ T, en_hold tb X P Sc c) (hD : D ≤ d) (hI : en_inok tb X P Sc d W w0 inl) (hK : en_krok tb X W w0 Φ kr) (hc : en_kok tb X P Sc d f W w0 Φ kc) : ∀ K : Nat, en_jok tb X W w0 Φ (en_go tb T W D P inl Mt kr kc K) (fun n => sm_go P Sc (sm_run P Sc n) d f Mt K) := by
  intro K
  induction K with
  | zero => intro b ρ E S lv st lv' st' w h; cases h
  | succ K ih =>
    intro b ρ E S lv st lv' st' w h hR
    have h : (bif Nat.beq b 0 then false else match Mt.2.2.2.2.2.2.2.2[b]? with
      | none => false
      | some (_, some live, _, _) => en_pick live lv (fun vs => kc b vs st S E)
      | some (_, none, fall, is) => en_blk tb T W D P inl Mt kr (en_go tb T W D P inl Mt kr kc K) fall is lv st S E) = true := h
    rcases en_bif h with ⟨-, h⟩ | ⟨hb, h⟩
    · cases h
    have hb := en_bne hb
    cases hB : Mt.2.2.2.2.2.2.2.2[b]? with
    | none => rw [hB] at h; cases h
    | some B =>
      obtain ⟨pcb, lo, fall, is⟩ := B
      rw [hB] at h
      cases lo with
      | some live =>
        have h : en_pick live lv (fun vs => kc b vs st S E) = true := h
        obtain ⟨vs, vs', p1, p2, h⟩ := en_pick_ok hR.2.2.2.1 h
        have e0 : ∀ n, sm_go P Sc (sm_run P Sc n) d f Mt (K + 1) b lv' st' w (0, 0) = sm_run P Sc n d f b vs' st' w (0, 0) := by
          intro n
          unfold sm_go
          rw [if_neg hb, hB]
          dsimp only
          rw [p1]
        simp only [e0]
        exact sm_ev_wp (hc _ _ _ _ _ _ _ _ _ h hR.1 hR.2.1 hR.2.2.1 p2 hR.2.2.2.2.1 hR.2.2.2.2.2.1 hR.2.2.2.2.2.2)
      | none =>
        have h : en_blk tb T W D P inl Mt kr (en_go tb T W D P inl Mt kr kc K) fall is lv st S E = true := h
        have e0 : ∀ n, sm_go P Sc (sm_run P Sc n) d f Mt (K + 1) b lv' st' w (0, 0) = sm_blk P Sc (sm_run P Sc n) (sm_go P Sc (sm_run P Sc n) d f Mt K) d Mt fall is lv' st' w (0, 0) := by
          intro n
          show sm_go P Sc (sm_run P Sc n) d f Mt (K + 1) b lv' st' w (0, 0) = _
          rw [sm_go, if_neg hb, hB]
        simp only [e0]
        exact en_blk_ok hX hT hD hI hK ih _ _ _ _ _ _ _ _ _ h hR
/-- the cuts with a pattern, from there on the method ends -/
def en_cok (tb : en_Tb) (X : sm_W → Prop) (P : Nat → sm_M) (Sc : sm_C) (d f : Nat) (W : en_W) (res : en_Fd) (cuts : List en_Cu) (lt : Int → Prop) : Prop := ∀ c, c ∈ cuts → ∀ (vs st : List Value) (w : sm_W), en_pvs c.2.1 vs → en_pvs c.2.2.1 st → en_mem tb X w → en_pf c.2.2.2.1 w → 0 ≤ c.2.2.2.2.1 + en_mv c.2.2.2.2.2 vs → lt (c.2.2.2.2.1 + en_mv c.2.2.2.2.2 vs) → sm_wp P Sc d f c.1 vs st w (0, 0) (en_Ph tb X W res w)
theorem en_Ph_tr {w1 w2 : sm_W} {z : sm_Z} (h1 : en_fr W w1 w2) (h2 : en_Ph tb X W res w2 z) : en_Ph tb X W res w1 z := ⟨h2.1, h2.2.1, en_fr_tr h1 h2.2.2⟩
theorem en_dot_app : ∀ (u xs ys : List Int), u.length ≤ xs.length → en_dot u (xs ++ ys) = en_dot u xs
  | [], _, _, _ => rfl
  | c :: u, [], _, h => by simp at h
  | c :: u, x :: xs, ys, h => by
    show c * x + en_dot u (xs ++ ys) = c * x + en_dot u xs
    rw [en_dot_app u xs ys (by simpa using h)]
theorem en_unit_len : ∀ (k : Nat) (c : Int), (en_unit k c).length = k + 1
  | 0, _ => rfl
  | k + 1, c => by simp only [en_unit, List.length_cons, en_unit_len k c]
theorem en_vadd_len : ∀ (u v : List Int) (n : Nat), u.length ≤ n → v.length ≤ n → (en_vadd u v).length ≤ n
  | [], v, n, _, h => h
  | a :: u, [], n, h, _ => h
  | a :: u, b :: v, 0, h, _ => by simp at h
  | a :: u, b :: v, n + 1, h1, h2 => by
    simp only [en_vadd, List.length_cons] at h1 h2 ⊢
    have := en_vadd_len u v n (by omega) (by omega)
    omega
theorem en_ml_len {ρ : List Int} : ∀ (cs : List Int) (as : List en_V) (vs : List Value), en_gs ρ as vs → (en_ml cs as).2.length ≤ ρ.length
  | [], _, _, _ => by simp only [en_ml, List.length_nil]; omega
  | c :: cs, [], _, _ => by simp only [en_ml, List.length_nil]; omega
  | c :: cs, a :: as, v :: vs, h => by
    have ih := en_ml_len cs as vs h.2
    show (bif Nat.beq a.1 0 then (c * a.2 + (en_ml cs as).1, (en_ml cs as).2) else bif Nat.ble 7 a.1 then (c * a.2 + (en_ml cs as).1, en_vadd (en_unit (a.1 - 7) c) (en_ml cs as).2) else en_ml cs as).2.length ≤ ρ.length
    cases e1 : Nat.beq a.1 0 with
    | true => exact ih
    | false =>
      cases e2 : Nat.ble 7 a.1 with
      | false => exact ih
      | true =>
        refine en_vadd_len _ _ _ ?_ ih
        rw [en_unit_len]
        have e2 := en_ble e2
        obtain ⟨x, hv, gx⟩ := en_isI_of (en_isI7 e2) h.1
        rcases gx with ⟨q, -⟩ | ⟨-, m, q, -⟩
        · omega
        · have := (List.getElem?_eq_some_iff.mp q).1
          omega
  | _ :: _, _ :: _, [], h => h.elim
theorem en_run_ok (hX : en_Xok tb X) (hT : ∀ c ∈ T, en_hold tb X P Sc c) : ∀ (n : Nat) (f D d : Nat) (cuts : List en_Cu) (cur : Option (Int × List Int)) (kr : en_KR) (w0 : en_A) (Φ : sm_Z → Prop) (lt : Int → Prop), D ≤ d → en_krok tb X W w0 Φ kr → (match cur with
    | none => ∀ n, lt n
    | some q => q.2.length ≤ w0.2.length ∧ ∀ n, n < q.1 + en_dot q.2 w0.2 → lt n) → (∀ c, c ∈ cuts → ∀ (vs st : List Value) (w : sm_W), en_pvs c.2.1 vs → en_pvs c.2.2.1 st → en_mem tb X w → en_pf c.2.2.2.1 w → 0 ≤ c.2.2.2.2.1 + en_mv c.2.2.2.2.2 vs → lt (c.2.2.2.2.1 + en_mv c.2.2.2.2.2 vs) → en_fr W w0.1 w → sm_wp P Sc d f c.1 vs st w (0, 0) Φ) → en_kok tb X P Sc d f W w0 Φ (en_run tb T W P n f D cuts cur kr) := by
  intro n
  induction n with
  | zero => intro f D d cuts cur kr w0 Φ lt _ _ _ _ b ρ E S vs st vs' st' w h; cases h
  | succ n ih =>
    intro f D d cuts cur kr w0 Φ lt hD hK hlt hcc b ρ E S vs st vs' st' w h hE hm hS hv hs hf ha
    have h : (match (P f).2.2.2.2.2.2.2.2[b]? with
      | some (_, some live, fall, is) => en_blk tb T W D P (fun g as S E kr' => bif Nat.beq D 0 then false else en_run tb T W P n g (D - 1) [] none kr' 0 as [] S E) (P f) kr (en_go tb T W D P (fun g as S E kr' => bif Nat.beq D 0 then false else en_run tb T W P n g (D - 1) [] none kr' 0 as [] S E) (P f) kr (fun b vs st S E => match en_cutAt cuts b vs st E with
        | some c => en_cchk tb cur c vs S E
        | none => en_run tb T W P n f D cuts cur kr b vs st S E) 64) fall is (bif Nat.beq b 0 then en_args 0 vs else en_zip live vs) st S E
      | _ => false) = true := h
    have hI : en_inok tb X P Sc d W w0 (fun g as S E kr' => bif Nat.beq D 0 then false else en_run tb T W P n g (D - 1) [] none kr' 0 as [] S E) := by
      intro g ρ E S as as' w kr2 Ψ h hE hm hS hv hf hk
      dsimp only at h
      rcases en_bif h with ⟨-, h⟩ | ⟨q, h⟩
      · cases h
      have q := en_bne q
      exact ⟨d - 1, by omega, ih g (D - 1) (d - 1) [] none kr2 (w0.1, ρ) Ψ (fun _ => True) (by omega) hk (fun _ => trivial) (fun c hc => by cases hc) 0 ρ E S as [] as' [] w h hE hm hS hv trivial hf ⟨[], by rw [List.append_nil]⟩⟩
    have hkc : en_kok tb X P Sc d f W w0 Φ (fun b vs st S E => match en_cutAt cuts b vs st E with
        | some c => en_cchk tb cur c vs S E
        | none => en_run tb T W P n f D cuts cur kr b vs st S E) := by
      intro b ρ E S vs st vs' st' w h hE hm hS hv hs hf ha
      dsimp only at h
      split at h
      · next c hc =>
        obtain ⟨h2, h4⟩ := en_and2 h
        obtain ⟨h4, h5⟩ := en_and2 h4
        have hcm := List.mem_of_find?_eq_some hc
        have hc' : cuts.find? (fun c => Nat.beq c.1 b && (en_pms E c.2.1 vs && en_pms E c.2.2.1 st)) = some c := hc
        have hcb0 := List.find?_some hc'
        obtain ⟨hcb1, hcb2⟩ := en_and2 hcb0
        obtain ⟨h1, h3⟩ := en_and2 hcb2
        have hcb := en_beq hcb1
        have ml := en_ml_ok c.2.2.2.2.2 vs vs' hv
        have lo1 := en_low_ok (en_ml c.2.2.2.2.2 vs).2 E ρ hE.1 hE.2
        have h4 := en_le_iff.mp h4
        have h0 : 0 ≤ c.2.2.2.2.1 + en_mv c.2.2.2.2.2 vs' := by omega
        have hl : lt (c.2.2.2.2.1 + en_mv c.2.2.2.2.2 vs') := by
          cases cur with
          | none => exact hlt _
          | some q =>
            obtain ⟨l1, l2⟩ := hlt
            refine l2 _ ?_
            have h5 := en_le_iff.mp h5
            have lo2 := en_low_ok (en_vadd q.2 (en_vneg (en_ml c.2.2.2.2.2 vs).2)) E ρ hE.1 hE.2
            rw [en_dot_add, en_dot_neg] at lo2
            obtain ⟨ys, e⟩ := ha
            have e2 : en_dot q.2 ρ = en_dot q.2 w0.2 := by rw [e]; exact en_dot_app _ _ _ l1
            omega
        have k1 := hcc c hcm vs' st' w (en_pms_ok hE h1 hv) (en_pms_ok hE h3 hs) hm (en_pf_ok h2 hE hm hS) h0 hl hf
        rw [hcb] at k1
        exact k1
      · exact ih f D d cuts cur kr w0 Φ lt hD hK hlt hcc b ρ E S vs st vs' st' w h hE hm hS hv hs hf ha
    split at h
    · next pcb live fall is e =>
      obtain ⟨N, z, k1, k2⟩ := en_blk_ok (J := fun n => sm_go P Sc (sm_run P Sc n) d f (P f) 64) hX hT hD hI hK (en_go_ok hX hT hD hI hK hkc 64) is ρ E S _ st (if b = 0 then lv_args 0 vs' else live.zip vs') st' w h ⟨hE, hm, hS, by
        cases q : Nat.beq b 0 with
        | true => rw [if_pos (en_beq q)]; exact en_args_ok 0 hv
        | false => rw [if_neg (en_bne q)]; exact en_zip_ok hv, hs, hf, ha⟩
      refine ⟨N + 1, z, ?_, k1⟩
      show sm_F P Sc (sm_run P Sc N) d f b vs' st' w (0, 0) = some z
      unfold sm_F
      rw [e]
      exact k2 N (Nat.le_refl N)
    · cases h
theorem en_fin_ok {w : sm_W} {ys : List Int} : en_krok tb X W (w, ys) (en_Ph tb X W res w) (en_fin res) := by
  intro ρ E S r r' w2 h hE hm hS hr hf _
  refine ⟨?_, hm, hf⟩
  cases r with
  | none => cases r' with
    | none => exact en_beq h
    | some v => exact hr.elim
  | some a => cases r' with
    | none => exact hr.elim
    | some v => exact en_rok_ok h hE hr
end EnX
/-- a method that the engine has checked meets its contract -/
theorem en_chk_ok {tb : en_Tb} {X : sm_W → Prop} {T : List en_Ct} {P : Nat → sm_M} {Sc : sm_C} {cuts : List en_Cu} {c : en_Ct} (hX : en_Xok tb X) (hT : ∀ c ∈ T, en_hold tb X P Sc c) (h : en_chk tb T P cuts c = true) : en_hold tb X P Sc c := by
  obtain ⟨h1, h2⟩ := en_and2 h
  intro d hD vs w hv hm hp
  have sat0 : en_sat [] [] := ⟨rfl, fun k m q e => by cases e⟩
  have main : ∀ n : Nat, en_cok tb X P Sc d c.1 c.2.2.2.2.1 c.2.2.2.1 cuts (fun i => i < n) := by
    intro n
    induction n with
    | zero => intro c' _ vs st w _ _ _ _ h0 hl; exfalso; have hl : c'.2.2.2.2.1 + en_mv c'.2.2.2.2.2 vs < ((0 : Nat) : Int) := hl; omega
    | succ n ih =>
      intro c' hc vs st w hv hst hm hpf h0 hl
      have hr := List.all_eq_true.mp h2 c' hc
      unfold en_reg at hr
      obtain ⟨ys, E1, as, g1, g2, g3⟩ := en_ini_ok _ [] [] _ vs hr sat0 hv
      obtain ⟨ys2, E2, bs, k1, k2, k3⟩ := en_ini_ok _ _ E1 _ st g3 g1 hst
      obtain ⟨ys3, E3, S3, m1, m2, m3⟩ := en_inf_ok (w := w) _ _ E2 [] _ k3 k1 (fun e he => by cases he) hpf
      have hv2 := en_gs_app' ys3 (en_gs_app' ys2 g2)
      have ml := en_ml_ok c'.2.2.2.2.2 as vs hv2
      refine en_run_ok hX hT 40 c.1 c.2.2.2.2.2 d cuts (some (c'.2.2.2.2.1 + (en_ml c'.2.2.2.2.2 as).1, (en_ml c'.2.2.2.2.2 as).2)) _ (w, [] ++ ys ++ ys2 ++ ys3) (en_Ph tb X c.2.2.2.2.1 c.2.2.2.1 w) (fun i => i < (n : Int)) hD en_fin_ok ⟨en_ml_len _ _ _ hv2, fun i hi => ?_⟩ (fun c2 hc2 vs2 st2 w2 p1 p2 p3 p4 p5 p6 p7 => sm_wp_mono (ih c2 hc2 vs2 st2 w2 p1 p2 p3 p4 p5 p6) (fun z q => en_Ph_tr p7 q)) c'.1 _ _ _ _ _ _ _ _ m3 m1 hm m2 hv2 (en_gs_app' ys3 k2) en_fr_rf ⟨[], by rw [List.append_nil]⟩
      have hi : i < c'.2.2.2.2.1 + (en_ml c'.2.2.2.2.2 as).1 + en_dot (en_ml c'.2.2.2.2.2 as).2 ([] ++ ys ++ ys2 ++ ys3) := hi
      have hl : c'.2.2.2.2.1 + en_mv c'.2.2.2.2.2 vs < ((n + 1 : Nat) : Int) := hl
      show i < (n : Int)
      omega
  unfold en_ent at h1
  obtain ⟨ys, E1, as, g1, g2, g3⟩ := en_ini_ok _ [] [] _ vs h1 sat0 hv
  obtain ⟨ys3, E3, S3, m1, m2, m3⟩ := en_inf_ok (w := w) _ _ E1 [] _ g3 g1 (fun e he => by cases he) hp
  refine en_run_ok hX hT 40 c.1 c.2.2.2.2.2 d cuts none _ (w, [] ++ ys ++ ys3) (en_Ph tb X c.2.2.2.2.1 c.2.2.2.1 w) (fun _ => True) hD en_fin_ok (fun _ => trivial) (fun c2 hc2 vs2 st2 w2 p1 p2 p3 p4 p5 _ p7 => sm_wp_mono (main ((c2.2.2.2.2.1 + en_mv c2.2.2.2.2.2 vs2).toNat + 1) c2 hc2 vs2 st2 w2 p1 p2 p3 p4 p5 (by show _ < (((c2.2.2.2.2.1 + en_mv c2.2.2.2.2.2 vs2).toNat + 1 : Nat) : Int); omega)) (fun z q => en_Ph_tr p7 q)) 0 _ _ _ _ _ _ _ _ m3 m1 hm m2 (en_gs_app' ys3 g2) trivial en_fr_rf ⟨[], by rw [List.append_nil]⟩
end
section
/-! the intervals of the cells, found by a program of ours (wip/en) -/
def kl_tb_0 : en_D := (0, 11, [(1, 1, 0), (1, 2, 0), (1, 37, 0), (1, 45, 0), (1, 74, 0), (1, 82, 0), (1, 90, 0), (1, 98, 0), (1, 103, 0), (2, 12, 49), (0, 0, 2000), (0, -1, 2000), (0, 0, 1), (0, 0, 1)])
def kl_tb_1 : en_D := (2, 2000, [(0, -128, 127)])
def kl_tb_2 : en_D := (0, 7, [(1, 3, 0), (1, 7, 0), (1, 9, 0), (1, 10, 0), (1, 11, 0), (0, 0, 35), (2, 12, 49), (0, 0, 21), (0, 0, 9), (0, -1, 9), (0, -2147483648, 2147483647), (0, -1, 2000)])
def kl_tb_3 : en_D := (0, 9, [(1, 4, 0), (1, 5, 0), (1, 6, 0), (0, 0, 501)])
def kl_tb_4 : en_D := (1, 502, [(0, 0, 21)])
def kl_tb_5 : en_D := (1, 502, [(0, 0, 2000)])
def kl_tb_6 : en_D := (4, 502, [])
def kl_tb_7 : en_D := (0, 3, [(1, 8, 0), (0, 0, 14), (0, -2147483648, 2147483647), (0, -2147483648, 2147483647)])
def kl_tb_8 : en_D := (1, 15, [(0, -2147483648, 2147483647)])
def kl_tb_9 : en_D := (4, 35, [])
def kl_tb_10 : en_D := (1, 35, [(0, 0, 21)])
def kl_tb_11 : en_D := (1, 35, [(0, -1, 9)])
def kl_tb_12 : en_D := (0, 10, [(0, 0, 4), (0, 0, 6), (0, 0, 10), (0, 0, 10), (0, 0, 5), (0, 0, 45), (0, 0, 1023), (1, 13, 0), (1, 14, 0), (1, 15, 0), (1, 16, 0), (1, 21, 0), (1, 22, 0), (1, 23, 0), (1, 24, 0), (1, 29, 0), (1, 34, 0), (1, 35, 0), (1, 36, 0)])
def kl_tb_13 : en_D := (1, 36, [(0, -2147483648, 2147483647)])
def kl_tb_14 : en_D := (1, 10, [(0, -1, 9)])
def kl_tb_15 : en_D := (1, 10, [(0, -1, 9)])
def kl_tb_16 : en_D := (0, 8, [(1, 17, 0), (1, 18, 0), (1, 19, 0), (1, 20, 0)])
def kl_tb_17 : en_D := (1, 10, [(0, 0, 9)])
def kl_tb_18 : en_D := (1, 10, [(0, -1, 9)])
def kl_tb_19 : en_D := (1, 10, [(0, -2147483648, 2147483647)])
def kl_tb_20 : en_D := (1, 10, [(0, -2147483648, 2147483647)])
def kl_tb_21 : en_D := (1, 10, [(0, -2147483648, 100)])
def kl_tb_22 : en_D := (1, 10, [(0, 0, 4)])
def kl_tb_23 : en_D := (1, 40, [(0, 0, 3)])
def kl_tb_24 : en_D := (0, 8, [(1, 25, 0), (1, 26, 0), (1, 27, 0), (1, 28, 0)])
def kl_tb_25 : en_D := (1, 120, [(0, 0, 9)])
def kl_tb_26 : en_D := (1, 120, [(0, -1, 9)])
def kl_tb_27 : en_D := (1, 120, [(0, -2147483648, 2147483647)])
def kl_tb_28 : en_D := (1, 120, [(0, -2147483648, 2147483647)])
def kl_tb_29 : en_D := (0, 8, [(1, 30, 0), (1, 31, 0), (1, 32, 0), (1, 33, 0)])
def kl_tb_30 : en_D := (1, 5, [(0, 0, 9)])
def kl_tb_31 : en_D := (1, 5, [(0, -1, 9)])
def kl_tb_32 : en_D := (1, 5, [(0, -2147483648, 2147483647)])
def kl_tb_33 : en_D := (1, 5, [(0, -2147483648, 2147483647)])
def kl_tb_34 : en_D := (1, 45, [(0, 0, 9)])
def kl_tb_35 : en_D := (1, 45, [(0, 0, 9)])
def kl_tb_36 : en_D := (1, 45, [(0, -2147483648, 2147483647)])
def kl_tb_37 : en_D := (0, 4, [(0, 0, 1023), (0, 0, 6), (1, 38, 0), (1, 39, 0), (1, 40, 0)])
def kl_tb_38 : en_D := (1, 10, [(0, -1, 1440)])
def kl_tb_39 : en_D := (1, 55, [(0, -1, 3)])
def kl_tb_40 : en_D := (0, 8, [(1, 41, 0), (1, 42, 0), (1, 43, 0), (1, 44, 0)])
def kl_tb_41 : en_D := (1, 6, [(0, 0, 9)])
def kl_tb_42 : en_D := (1, 6, [(0, -1, 9)])
def kl_tb_43 : en_D := (1, 6, [(0, -2147483648, 2147483647)])
def kl_tb_44 : en_D := (1, 6, [(0, -2147483648, 2147483647)])
def kl_tb_45 : en_D := (0, 1, [(1, 46, 0), (1, 47, 0), (1, 48, 0)])
def kl_tb_46 : en_D := (1, 1000, [(0, -2147483648, 2147483647)])
def kl_tb_47 : en_D := (1, 1000, [(0, -2147483648, 2147483647)])
def kl_tb_48 : en_D := (4, 1000, [])
def kl_tb_49 : en_D := (0, 10, [(0, 0, 4), (0, 0, 6), (0, 0, 10), (0, 0, 10), (0, 0, 5), (0, 0, 45), (0, 0, 1023), (1, 50, 0), (1, 51, 0), (1, 52, 0), (1, 53, 0), (1, 58, 0), (1, 59, 0), (1, 60, 0), (1, 61, 0), (1, 66, 0), (1, 71, 0), (1, 72, 0), (1, 73, 0)])
def kl_tb_50 : en_D := (1, 36, [(0, -2147483648, 2147483647)])
def kl_tb_51 : en_D := (1, 10, [(0, -1, 9)])
def kl_tb_52 : en_D := (1, 10, [(0, -1, 9)])
def kl_tb_53 : en_D := (0, 8, [(1, 54, 0), (1, 55, 0), (1, 56, 0), (1, 57, 0)])
def kl_tb_54 : en_D := (1, 10, [(0, 0, 9)])
def kl_tb_55 : en_D := (1, 10, [(0, -1, 9)])
def kl_tb_56 : en_D := (1, 10, [(0, -2147483648, 2147483647)])
def kl_tb_57 : en_D := (1, 10, [(0, -2147483648, 2147483647)])
def kl_tb_58 : en_D := (1, 10, [(0, -2147483648, 100)])
def kl_tb_59 : en_D := (1, 10, [(0, 0, 4)])
def kl_tb_60 : en_D := (1, 40, [(0, 0, 3)])
def kl_tb_61 : en_D := (0, 8, [(1, 62, 0), (1, 63, 0), (1, 64, 0), (1, 65, 0)])
def kl_tb_62 : en_D := (1, 120, [(0, 0, 9)])
def kl_tb_63 : en_D := (1, 120, [(0, -1, 9)])
def kl_tb_64 : en_D := (1, 120, [(0, -2147483648, 2147483647)])
def kl_tb_65 : en_D := (1, 120, [(0, -2147483648, 2147483647)])
def kl_tb_66 : en_D := (0, 8, [(1, 67, 0), (1, 68, 0), (1, 69, 0), (1, 70, 0)])
def kl_tb_67 : en_D := (1, 5, [(0, 0, 9)])
def kl_tb_68 : en_D := (1, 5, [(0, -1, 9)])
def kl_tb_69 : en_D := (1, 5, [(0, -2147483648, 2147483647)])
def kl_tb_70 : en_D := (1, 5, [(0, -2147483648, 2147483647)])
def kl_tb_71 : en_D := (1, 45, [(0, 0, 9)])
def kl_tb_72 : en_D := (1, 45, [(0, 0, 9)])
def kl_tb_73 : en_D := (1, 45, [(0, -2147483648, 2147483647)])
def kl_tb_74 : en_D := (0, 2, [(1, 75, 0), (0, 0, 0), (1, 80, 0), (1, 81, 0), (2, 12, 49), (1, 37, 0), (0, 0, 60), (0, 0, 0), (0, 0, 0), (0, -1, -1), (0, 0, 0), (0, 0, 60), (0, 0, 1), (0, -2147483648, 2147483647), (0, -2147483648, 2147483647), (0, 0, 1), (0, 0, 0), (0, 0, 0)])
def kl_tb_75 : en_D := (0, 5, [(1, 76, 0), (1, 77, 0), (1, 78, 0), (1, 79, 0), (0, 1, 11), (0, 1, 121)])
def kl_tb_76 : en_D := (1, 7381, [(0, -2147483648, 2147483647)])
def kl_tb_77 : en_D := (1, 11, [(0, 0, 10)])
def kl_tb_78 : en_D := (1, 11, [(0, -2147483648, 2147483647)])
def kl_tb_79 : en_D := (1, 11, [(0, -2147483648, 2147483647)])
def kl_tb_80 : en_D := (1, 60, [(0, 0, 144)])
def kl_tb_81 : en_D := (1, 60, [(0, -2147483648, 2147483647)])
def kl_tb_82 : en_D := (0, 2, [(1, 83, 0), (0, 1, 1), (1, 88, 0), (1, 89, 0), (2, 12, 49), (1, 37, 0), (0, 0, 55), (0, 0, 0), (0, 0, 0), (0, -1, -1), (0, 0, 0), (0, 0, 55), (0, 0, 1), (0, 0, 0), (0, 0, 0), (0, 0, 0), (0, 0, 0), (0, 0, 0)])
def kl_tb_83 : en_D := (0, 5, [(1, 84, 0), (1, 85, 0), (1, 86, 0), (1, 87, 0), (0, 1, 11), (0, 1, 121)])
def kl_tb_84 : en_D := (1, 6776, [(0, -2147483648, 2147483647)])
def kl_tb_85 : en_D := (1, 11, [(0, 0, 10)])
def kl_tb_86 : en_D := (1, 11, [(0, -2147483648, 2147483647)])
def kl_tb_87 : en_D := (1, 11, [(0, -2147483648, 2147483647)])
def kl_tb_88 : en_D := (1, 55, [(0, 0, 144)])
def kl_tb_89 : en_D := (1, 55, [(0, -2147483648, 2147483647)])
def kl_tb_90 : en_D := (0, 2, [(1, 91, 0), (0, 0, 0), (1, 96, 0), (1, 97, 0), (2, 12, 49), (1, 37, 0), (0, 0, 0), (0, 0, 1023), (0, 0, 1440), (0, -1, 5), (0, 0, 1), (0, 0, 65), (0, 0, 1), (0, -2147483648, 2147483647), (0, -2147483648, 2147483647), (0, 0, 1), (0, -2147483648, 1440), (0, 0, 2147483647)])
def kl_tb_91 : en_D := (0, 5, [(1, 92, 0), (1, 93, 0), (1, 94, 0), (1, 95, 0), (0, 1, 12), (0, 1, 144)])
def kl_tb_92 : en_D := (1, 9504, [(0, -2147483648, 2147483647)])
def kl_tb_93 : en_D := (1, 12, [(0, 0, 11)])
def kl_tb_94 : en_D := (1, 12, [(0, -2147483648, 2147483647)])
def kl_tb_95 : en_D := (1, 12, [(0, -2147483648, 2147483647)])
def kl_tb_96 : en_D := (1, 65, [(0, 0, 240)])
def kl_tb_97 : en_D := (1, 65, [(0, -2147483648, 2147483647)])
def kl_tb_98 : en_D := (0, 6, [(1, 90, 0), (1, 99, 0), (1, 100, 0), (1, 101, 0), (0, 0, 252), (0, 0, 252), (1, 102, 0), (0, 0, 55), (0, 0, 1), (0, 0, 1), (0, 0, 1), (0, 0, 1)])
def kl_tb_99 : en_D := (3, 1024, [(0, 0, 1)])
def kl_tb_100 : en_D := (1, 252, [(0, 0, 1023)])
def kl_tb_101 : en_D := (1, 252, [(0, 0, 1023)])
def kl_tb_102 : en_D := (1, 55, [(0, 0, 144)])
def kl_tb_103 : en_D := (0, 0, [(1, 74, 0), (1, 45, 0), (1, 104, 0), (1, 105, 0), (1, 106, 0), (0, 0, 1)])
def kl_tb_104 : en_D := (1, 64, [(0, -2147483648, 2147483647)])
def kl_tb_105 : en_D := (1, 1024, [(0, -2147483648, 2147483647)])
def kl_tb_106 : en_D := (1, 1024, [(0, 0, 6)])
def kl_tb_t0 : Lean.RArray en_D := .branch 0 (.branch 0 (.branch 0 (.branch 0 (.leaf kl_tb_0) (.leaf (9, 0, []))) (.branch 0 (.leaf kl_tb_64) (.leaf (9, 0, [])))) (.branch 0 (.branch 0 (.leaf kl_tb_32) (.leaf (9, 0, []))) (.branch 0 (.leaf kl_tb_96) (.leaf (9, 0, []))))) (.branch 0 (.branch 0 (.branch 0 (.leaf kl_tb_16) (.leaf (9, 0, []))) (.branch 0 (.leaf kl_tb_80) (.leaf (9, 0, [])))) (.branch 0 (.branch 0 (.leaf kl_tb_48) (.leaf (9, 0, []))) (.branch 0 (.leaf (9, 0, [])) (.leaf (9, 0, [])))))
def kl_tb_t1 : Lean.RArray en_D := .branch 0 (.branch 0 (.branch 0 (.branch 0 (.leaf kl_tb_1) (.leaf (9, 0, []))) (.branch 0 (.leaf kl_tb_65) (.leaf (9, 0, [])))) (.branch 0 (.branch 0 (.leaf kl_tb_33) (.leaf (9, 0, []))) (.branch 0 (.leaf kl_tb_97) (.leaf (9, 0, []))))) (.branch 0 (.branch 0 (.branch 0 (.leaf kl_tb_17) (.leaf (9, 0, []))) (.branch 0 (.leaf kl_tb_81) (.leaf (9, 0, [])))) (.branch 0 (.branch 0 (.leaf kl_tb_49) (.leaf (9, 0, []))) (.branch 0 (.leaf (9, 0, [])) (.leaf (9, 0, [])))))
def kl_tb_t2 : Lean.RArray en_D := .branch 0 (.branch 0 (.branch 0 (.branch 0 (.leaf kl_tb_2) (.leaf (9, 0, []))) (.branch 0 (.leaf kl_tb_66) (.leaf (9, 0, [])))) (.branch 0 (.branch 0 (.leaf kl_tb_34) (.leaf (9, 0, []))) (.branch 0 (.leaf kl_tb_98) (.leaf (9, 0, []))))) (.branch 0 (.branch 0 (.branch 0 (.leaf kl_tb_18) (.leaf (9, 0, []))) (.branch 0 (.leaf kl_tb_82) (.leaf (9, 0, [])))) (.branch 0 (.branch 0 (.leaf kl_tb_50) (.leaf (9, 0, []))) (.branch 0 (.leaf (9, 0, [])) (.leaf (9, 0, [])))))
def kl_tb_t3 : Lean.RArray en_D := .branch 0 (.branch 0 (.branch 0 (.branch 0 (.leaf kl_tb_3) (.leaf (9, 0, []))) (.branch 0 (.leaf kl_tb_67) (.leaf (9, 0, [])))) (.branch 0 (.branch 0 (.leaf kl_tb_35) (.leaf (9, 0, []))) (.branch 0 (.leaf kl_tb_99) (.leaf (9, 0, []))))) (.branch 0 (.branch 0 (.branch 0 (.leaf kl_tb_19) (.leaf (9, 0, []))) (.branch 0 (.leaf kl_tb_83) (.leaf (9, 0, [])))) (.branch 0 (.branch 0 (.leaf kl_tb_51) (.leaf (9, 0, []))) (.branch 0 (.leaf (9, 0, [])) (.leaf (9, 0, [])))))
def kl_tb_t4 : Lean.RArray en_D := .branch 0 (.branch 0 (.branch 0 (.branch 0 (.leaf kl_tb_4) (.leaf (9, 0, []))) (.branch 0 (.leaf kl_tb_68) (.leaf (9, 0, [])))) (.branch 0 (.branch 0 (.leaf kl_tb_36) (.leaf (9, 0, []))) (.branch 0 (.leaf kl_tb_100) (.leaf (9, 0, []))))) (.branch 0 (.branch 0 (.branch 0 (.leaf kl_tb_20) (.leaf (9, 0, []))) (.branch 0 (.leaf kl_tb_84) (.leaf (9, 0, [])))) (.branch 0 (.branch 0 (.leaf kl_tb_52) (.leaf (9, 0, []))) (.branch 0 (.leaf (9, 0, [])) (.leaf (9, 0, [])))))
def kl_tb_t5 : Lean.RArray en_D := .branch 0 (.branch 0 (.branch 0 (.branch 0 (.leaf kl_tb_5) (.leaf (9, 0, []))) (.branch 0 (.leaf kl_tb_69) (.leaf (9, 0, [])))) (.branch 0 (.branch 0 (.leaf kl_tb_37) (.leaf (9, 0, []))) (.branch 0 (.leaf kl_tb_101) (.leaf (9, 0, []))))) (.branch 0 (.branch 0 (.branch 0 (.leaf kl_tb_21) (.leaf (9, 0, []))) (.branch 0 (.leaf kl_tb_85) (.leaf (9, 0, [])))) (.branch 0 (.branch 0 (.leaf kl_tb_53) (.leaf (9, 0, []))) (.branch 0 (.leaf (9, 0, [])) (.leaf (9, 0, [])))))
def kl_tb_t6 : Lean.RArray en_D := .branch 0 (.branch 0 (.branch 0 (.branch 0 (.leaf kl_tb_6) (.leaf (9, 0, []))) (.branch 0 (.leaf kl_tb_70) (.leaf (9, 0, [])))) (.branch 0 (.branch 0 (.leaf kl_tb_38) (.leaf (9, 0, []))) (.branch 0 (.leaf kl_tb_102) (.leaf (9, 0, []))))) (.branch 0 (.branch 0 (.branch 0 (.leaf kl_tb_22) (.leaf (9, 0, []))) (.branch 0 (.leaf kl_tb_86) (.leaf (9, 0, [])))) (.branch 0 (.branch 0 (.leaf kl_tb_54) (.leaf (9, 0, []))) (.branch 0 (.leaf (9, 0, [])) (.leaf (9, 0, [])))))
def kl_tb_t7 : Lean.RArray en_D := .branch 0 (.branch 0 (.branch 0 (.branch 0 (.leaf kl_tb_7) (.leaf (9, 0, []))) (.branch 0 (.leaf kl_tb_71) (.leaf (9, 0, [])))) (.branch 0 (.branch 0 (.leaf kl_tb_39) (.leaf (9, 0, []))) (.branch 0 (.leaf kl_tb_103) (.leaf (9, 0, []))))) (.branch 0 (.branch 0 (.branch 0 (.leaf kl_tb_23) (.leaf (9, 0, []))) (.branch 0 (.leaf kl_tb_87) (.leaf (9, 0, [])))) (.branch 0 (.branch 0 (.leaf kl_tb_55) (.leaf (9, 0, []))) (.branch 0 (.leaf (9, 0, [])) (.leaf (9, 0, [])))))
def kl_tb_t8 : Lean.RArray en_D := .branch 0 (.branch 0 (.branch 0 (.branch 0 (.leaf kl_tb_8) (.leaf (9, 0, []))) (.branch 0 (.leaf kl_tb_72) (.leaf (9, 0, [])))) (.branch 0 (.branch 0 (.leaf kl_tb_40) (.leaf (9, 0, []))) (.branch 0 (.leaf kl_tb_104) (.leaf (9, 0, []))))) (.branch 0 (.branch 0 (.branch 0 (.leaf kl_tb_24) (.leaf (9, 0, []))) (.branch 0 (.leaf kl_tb_88) (.leaf (9, 0, [])))) (.branch 0 (.branch 0 (.leaf kl_tb_56) (.leaf (9, 0, []))) (.branch 0 (.leaf (9, 0, [])) (.leaf (9, 0, [])))))
def kl_tb_t9 : Lean.RArray en_D := .branch 0 (.branch 0 (.branch 0 (.branch 0 (.leaf kl_tb_9) (.leaf (9, 0, []))) (.branch 0 (.leaf kl_tb_73) (.leaf (9, 0, [])))) (.branch 0 (.branch 0 (.leaf kl_tb_41) (.leaf (9, 0, []))) (.branch 0 (.leaf kl_tb_105) (.leaf (9, 0, []))))) (.branch 0 (.branch 0 (.branch 0 (.leaf kl_tb_25) (.leaf (9, 0, []))) (.branch 0 (.leaf kl_tb_89) (.leaf (9, 0, [])))) (.branch 0 (.branch 0 (.leaf kl_tb_57) (.leaf (9, 0, []))) (.branch 0 (.leaf (9, 0, [])) (.leaf (9, 0, [])))))
def kl_tb_t10 : Lean.RArray en_D := .branch 0 (.branch 0 (.branch 0 (.branch 0 (.leaf kl_tb_10) (.leaf (9, 0, []))) (.branch 0 (.leaf kl_tb_74) (.leaf (9, 0, [])))) (.branch 0 (.branch 0 (.leaf kl_tb_42) (.leaf (9, 0, []))) (.branch 0 (.leaf kl_tb_106) (.leaf (9, 0, []))))) (.branch 0 (.branch 0 (.branch 0 (.leaf kl_tb_26) (.leaf (9, 0, []))) (.branch 0 (.leaf kl_tb_90) (.leaf (9, 0, [])))) (.branch 0 (.branch 0 (.leaf kl_tb_58) (.leaf (9, 0, []))) (.branch 0 (.leaf (9, 0, [])) (.leaf (9, 0, [])))))
def kl_tb_t11 : Lean.RArray en_D := .branch 0 (.branch 0 (.branch 0 (.branch 0 (.leaf kl_tb_11) (.leaf (9, 0, []))) (.branch 0 (.leaf kl_tb_75) (.leaf (9, 0, [])))) (.branch 0 (.branch 0 (.leaf kl_tb_43) (.leaf (9, 0, []))) (.branch 0 (.leaf (9, 0, [])) (.leaf (9, 0, []))))) (.branch 0 (.branch 0 (.branch 0 (.leaf kl_tb_27) (.leaf (9, 0, []))) (.branch 0 (.leaf kl_tb_91) (.leaf (9, 0, [])))) (.branch 0 (.branch 0 (.leaf kl_tb_59) (.leaf (9, 0, []))) (.branch 0 (.leaf (9, 0, [])) (.leaf (9, 0, [])))))
def kl_tb_t12 : Lean.RArray en_D := .branch 0 (.branch 0 (.branch 0 (.branch 0 (.leaf kl_tb_12) (.leaf (9, 0, []))) (.branch 0 (.leaf kl_tb_76) (.leaf (9, 0, [])))) (.branch 0 (.branch 0 (.leaf kl_tb_44) (.leaf (9, 0, []))) (.branch 0 (.leaf (9, 0, [])) (.leaf (9, 0, []))))) (.branch 0 (.branch 0 (.branch 0 (.leaf kl_tb_28) (.leaf (9, 0, []))) (.branch 0 (.leaf kl_tb_92) (.leaf (9, 0, [])))) (.branch 0 (.branch 0 (.leaf kl_tb_60) (.leaf (9, 0, []))) (.branch 0 (.leaf (9, 0, [])) (.leaf (9, 0, [])))))
def kl_tb_t13 : Lean.RArray en_D := .branch 0 (.branch 0 (.branch 0 (.branch 0 (.leaf kl_tb_13) (.leaf (9, 0, []))) (.branch 0 (.leaf kl_tb_77) (.leaf (9, 0, [])))) (.branch 0 (.branch 0 (.leaf kl_tb_45) (.leaf (9, 0, []))) (.branch 0 (.leaf (9, 0, [])) (.leaf (9, 0, []))))) (.branch 0 (.branch 0 (.branch 0 (.leaf kl_tb_29) (.leaf (9, 0, []))) (.branch 0 (.leaf kl_tb_93) (.leaf (9, 0, [])))) (.branch 0 (.branch 0 (.leaf kl_tb_61) (.leaf (9, 0, []))) (.branch 0 (.leaf (9, 0, [])) (.leaf (9, 0, [])))))
def kl_tb_t14 : Lean.RArray en_D := .branch 0 (.branch 0 (.branch 0 (.branch 0 (.leaf kl_tb_14) (.leaf (9, 0, []))) (.branch 0 (.leaf kl_tb_78) (.leaf (9, 0, [])))) (.branch 0 (.branch 0 (.leaf kl_tb_46) (.leaf (9, 0, []))) (.branch 0 (.leaf (9, 0, [])) (.leaf (9, 0, []))))) (.branch 0 (.branch 0 (.branch 0 (.leaf kl_tb_30) (.leaf (9, 0, []))) (.branch 0 (.leaf kl_tb_94) (.leaf (9, 0, [])))) (.branch 0 (.branch 0 (.leaf kl_tb_62) (.leaf (9, 0, []))) (.branch 0 (.leaf (9, 0, [])) (.leaf (9, 0, [])))))
def kl_tb_t15 : Lean.RArray en_D := .branch 0 (.branch 0 (.branch 0 (.branch 0 (.leaf kl_tb_15) (.leaf (9, 0, []))) (.branch 0 (.leaf kl_tb_79) (.leaf (9, 0, [])))) (.branch 0 (.branch 0 (.leaf kl_tb_47) (.leaf (9, 0, []))) (.branch 0 (.leaf (9, 0, [])) (.leaf (9, 0, []))))) (.branch 0 (.branch 0 (.branch 0 (.leaf kl_tb_31) (.leaf (9, 0, []))) (.branch 0 (.leaf kl_tb_95) (.leaf (9, 0, [])))) (.branch 0 (.branch 0 (.leaf kl_tb_63) (.leaf (9, 0, []))) (.branch 0 (.leaf (9, 0, [])) (.leaf (9, 0, [])))))
def kl_tb : en_Tb := (107, .branch 0 (.branch 0 (.branch 0 (.branch 0 (kl_tb_t0) (kl_tb_t8)) (.branch 0 (kl_tb_t4) (kl_tb_t12))) (.branch 0 (.branch 0 (kl_tb_t2) (kl_tb_t10)) (.branch 0 (kl_tb_t6) (kl_tb_t14)))) (.branch 0 (.branch 0 (.branch 0 (kl_tb_t1) (kl_tb_t9)) (.branch 0 (kl_tb_t5) (kl_tb_t13))) (.branch 0 (.branch 0 (kl_tb_t3) (kl_tb_t11)) (.branch 0 (kl_tb_t7) (kl_tb_t15)))), [(75, [4, 5]), (77, []), (83, [4, 5]), (85, []), (91, [4, 5]), (93, []), (114, [])])
end
section
/-! what no interval says: a net's area is the square of its nodes, and each of its nodes stands for one of them -/
def kl_net (I : Nat → Nat → Int32) (p q : Nat) : Prop := (I p 5).toInt = (I p 4).toInt * (I p 4).toInt ∧ ∀ i : Nat, (i : Int) < (I p 4).toInt → 0 ≤ (I q i).toInt ∧ (I q i).toInt < (I p 4).toInt
/-- the reference's words, as its constructor has reckoned them -/
def pk_key : List Int64 := [16998, 8740067, 16819, 400577, 411, 257, 13903, 389777, 423, 1111, 47, 31519426, 307058, 1253, 10998956]
def pk_ok (L : sm_L) : Prop := ∀ j : Nat, j < 15 → L 114 j = pk_key.getD j 0
theorem pk_cg {L L' : sm_L} (h : ∀ j, L' 114 j = L 114 j) (k : pk_ok L) : pk_ok L' := fun j hj => by rw [h]; exact k j hj
def klX (w : sm_W) : Prop := w.1 = xLay ∧ kl_net w.2.1 75 77 ∧ kl_net w.2.1 83 85 ∧ kl_net w.2.1 91 93 ∧ pk_ok w.2.2.1
theorem kl_up {α : Type} {f : Nat → Nat → α} {p j a b : Nat} {x : α} (h : en_fix kl_tb p j = false) (h2 : en_fix kl_tb a b = true) : sm_up f p j x a b = f a b := by
  unfold sm_up
  by_cases h3 : a = p
  · by_cases h4 : b = j
    · subst h3; subst h4; rw [h] at h2; exact absurd h2 (by decide)
    · simp [h3, h4]
  · simp [h3]
theorem kl_netU {I : Nat → Nat → Int32} {p j a b : Nat} {x : Int32} (h : en_fix kl_tb p j = false) (h4 : en_fix kl_tb a 4 = true) (h5 : en_fix kl_tb a 5 = true) (h6 : ∀ i, en_fix kl_tb b i = true) (hX : kl_net I a b) : kl_net (sm_up I p j x) a b := by
  refine ⟨?_, ?_⟩
  · rw [kl_up h h4, kl_up h h5]; exact hX.1
  · intro i hi
    rw [kl_up h h4] at hi ⊢
    rw [kl_up h (h6 i)]
    exact hX.2 i hi
theorem klX_ok : en_Xok kl_tb klX := by
  refine ⟨?_, ?_, ?_⟩
  · intro lay m p j x h hX
    exact ⟨hX.1, kl_netU h (by decide +kernel) (by decide +kernel) (fun _ => rfl) hX.2.1, kl_netU h (by decide +kernel) (by decide +kernel) (fun _ => rfl) hX.2.2.1, kl_netU h (by decide +kernel) (by decide +kernel) (fun _ => rfl) hX.2.2.2.1, hX.2.2.2.2⟩
  · intro lay m p j r h hX; exact hX
  · intro lay m p j y h hX; exact ⟨hX.1, hX.2.1, hX.2.2.1, hX.2.2.2.1, pk_cg (fun i => kl_up h rfl) hX.2.2.2.2⟩
end
section
/-! conditions of the methods done by hand (wip/en/symk.py) -/
def kR (p : Nat) (R : sm_R) : sm_R := fun x j => bif Nat.beq x p && Nat.blt j 4 then some (p + 1 + j) else R x j
theorem kR_eq {p : Nat} {R : sm_R} (h : ∀ j, j < 4 → R p j = some (p + 1 + j)) : kR p R = R := by
  funext x j
  unfold kR
  cases e : (Nat.beq x p && Nat.blt j 4) with
  | false => rfl
  | true =>
    have e1 := Bool.and_eq_true_iff.mp e
    have e2 : x = p := Nat.eq_of_beq_eq_true e1.1
    have e3 : j < 4 := Nat.le_of_ble_eq_true e1.2
    rw [e2]; exact (h j e3).symm
theorem k75_hasLevel_0 {S : sm_C} {d : Nat} {Φ : sm_Z → Prop} {I : sm_I} {L : sm_L} {R : sm_R} {x1 : Int32} (h : ((x1 < 0 → Φ (some (.int (0 : Int32)), (xLay, I, L, (kR 75 R)))) ∧ (¬ x1 < 0 → (((Int32.ofNat 7381) < ((x1 + (1 : Int32)) * (I 75 5)) → Φ (some (.int (0 : Int32)), (xLay, I, L, (kR 75 R)))) ∧ (¬ (Int32.ofNat 7381) < ((x1 + (1 : Int32)) * (I 75 5)) → Φ (some (.int (1 : Int32)), (xLay, I, L, (kR 75 R)))))))) : sm_wp sm_P S d 249 0 [.ref 75, .int x1] [] (xLay, I, L, (kR 75 R)) (0, 0) Φ := sm_wp_step (⟨fun q2 => ⟨Or.inl rfl, ((h).1 q2)⟩, fun q2 => ⟨fun q1 => ⟨Or.inl rfl, ((((h).2 q2)).1 q1)⟩, fun q1 => ⟨Or.inr rfl, ((((h).2 q2)).2 q1)⟩⟩⟩)
theorem k75_hasNode_0 {S : sm_C} {d : Nat} {Φ : sm_Z → Prop} {I : sm_I} {L : sm_L} {R : sm_R} {x1 : Int32} (h : ((x1 < 0 → Φ (some (.int (0 : Int32)), (xLay, I, L, (kR 75 R)))) ∧ (¬ x1 < 0 → (((I 75 4) ≤ x1 → Φ (some (.int (0 : Int32)), (xLay, I, L, (kR 75 R)))) ∧ (¬ (I 75 4) ≤ x1 → Φ (some (.int (1 : Int32)), (xLay, I, L, (kR 75 R)))))))) : sm_wp sm_P S d 250 0 [.ref 75, .int x1] [] (xLay, I, L, (kR 75 R)) (0, 0) Φ := sm_wp_step (⟨fun q2 => ⟨Or.inl rfl, ((h).1 q2)⟩, fun q2 => ⟨fun q1 => ⟨Or.inl rfl, ((((h).2 q2)).1 q1)⟩, fun q1 => ⟨Or.inr rfl, ((((h).2 q2)).2 q1)⟩⟩⟩)
theorem k75_reach_0 {S : sm_C} {d : Nat} {Φ : sm_Z → Prop} {I : sm_I} {L : sm_L} {R : sm_R} {x1 : Int32} {x2 : Int32} {x3 : Int32} (h : sm_wp sm_P S d 249 0 [.ref 75, .int x1] [] (xLay, I, L, (kR 75 R)) (0, 0) (fun z => ∃ (r3 : Int32) (I1 : sm_I) (L2 : sm_L), z = (some (.int r3), (xLay, I1, L2, (kR 75 R))) ∧ ((r3 = 0 → Φ (some (.int (0 : Int32)), (xLay, I1, L2, (kR 75 R)))) ∧ (¬ r3 = 0 → sm_wp sm_P S d 250 0 [.ref 75, .int x2] [] (xLay, I1, L2, (kR 75 R)) (0, 0) (fun z => ∃ (r6 : Int32) (I4 : sm_I) (L5 : sm_L), z = (some (.int r6), (xLay, I4, L5, (kR 75 R))) ∧ ((r6 = 0 → Φ (some (.int (0 : Int32)), (xLay, I4, L5, (kR 75 R)))) ∧ (¬ r6 = 0 → sm_wp sm_P S d 250 0 [.ref 75, .int x3] [] (xLay, I4, L5, (kR 75 R)) (0, 0) (fun z => ∃ (r9 : Int32) (I7 : sm_I) (L8 : sm_L), z = (some (.int r9), (xLay, I7, L8, (kR 75 R))) ∧ ((r9 = 0 → Φ (some (.int (0 : Int32)), (xLay, I7, L8, (kR 75 R)))) ∧ (¬ r9 = 0 → ∀ n10 : Int32, n10 = (((x1 * (I7 75 5)) + (x2 * (I7 75 4))) + x3) → (vp_in n10 7381) ∧ Φ (some (.int (I7 76 n10.toNatClampNeg)), (xLay, I7, L8, (kR 75 R))))))))))))) : sm_wp sm_P S (d + 1) 255 0 [.ref 75, .int x1, .int x2, .int x3] [] (xLay, I, L, (kR 75 R)) (0, 0) Φ := sm_wp_step (sm_ci0 (h) (fun r3 I1 L2 q16 => ⟨fun q15 => ((q16).1 q15), fun q15 => sm_ci0 (((q16).2 q15)) (fun r6 I4 L5 q14 => ⟨fun q13 => ((q14).1 q13), fun q13 => sm_ci0 (((q14).2 q13)) (fun r9 I7 L8 q12 => ⟨fun q11 => ((q12).1 q11), fun q11 => ⟨((((q12).2 q11) _ rfl)).1, ((((q12).2 q11) _ rfl)).2⟩⟩)⟩)⟩))
theorem k75_copyUp_0 {S : sm_C} {d : Nat} {Φ : sm_Z → Prop} {I : sm_I} {L : sm_L} {R : sm_R} {x1 : Int32} (h : sm_wp sm_P S d 249 0 [.ref 75, .int x1] [] (xLay, I, L, (kR 75 R)) (0, 0) (fun z => ∃ (r3 : Int32) (I1 : sm_I) (L2 : sm_L), z = (some (.int r3), (xLay, I1, L2, (kR 75 R))) ∧ ((r3 = 0 → Φ (none, (xLay, I1, L2, (kR 75 R)))) ∧ (¬ r3 = 0 → sm_wp sm_P S d 249 0 [.ref 75, .int (x1 + (1 : Int32))] [] (xLay, I1, L2, (kR 75 R)) (0, 0) (fun z => ∃ (r6 : Int32) (I4 : sm_I) (L5 : sm_L), z = (some (.int r6), (xLay, I4, L5, (kR 75 R))) ∧ ((r6 = 0 → Φ (none, (xLay, I4, L5, (kR 75 R)))) ∧ (¬ r6 = 0 → ∀ n7 : Int32, n7 = ((x1 + (1 : Int32)) * (I4 75 5)) → (¬ (x1 * (I4 75 5)) < 0 ∧ ¬ n7 < 0 ∧ ¬ (I4 75 5) < 0 ∧ (x1 * (I4 75 5)).toNatClampNeg + (I4 75 5).toNatClampNeg ≤ 7381 ∧ n7.toNatClampNeg + (I4 75 5).toNatClampNeg ≤ 7381) ∧ ∀ I8 : sm_I, I8 = (sm_row I4 76 (va_cpy (I4 76) (I4 76) (x1 * (I4 75 5)).toNatClampNeg n7.toNatClampNeg (I4 75 5).toNatClampNeg)) → Φ (none, (xLay, I8, L5, (kR 75 R)))))))))) : sm_wp sm_P S (d + 1) 248 0 [.ref 75, .int x1] [] (xLay, I, L, (kR 75 R)) (0, 0) Φ := sm_wp_step (sm_ci0 (h) (fun r3 I1 L2 q12 => ⟨fun q11 => ((q12).1 q11), fun q11 => sm_ci0 (((q12).2 q11)) (fun r6 I4 L5 q10 => ⟨fun q9 => ((q10).1 q9), fun q9 => ⟨((((q10).2 q9) _ rfl)).1, (((((q10).2 q9) _ rfl)).2 _ rfl)⟩⟩)⟩))
theorem k75_blank_0 {S : sm_C} {d : Nat} {Φ : sm_Z → Prop} {I : sm_I} {L : sm_L} {R : sm_R} {x1 : Int32} (h : ((x1 < (1 : Int32) → Φ (none, (xLay, I, L, (kR 75 R)))) ∧ (¬ x1 < (1 : Int32) → ((x1 ≤ (Int32.ofNat 11) → ∀ I1 : sm_I, I1 = (sm_up (sm_up I 75 4 x1) 75 5 (x1 * x1)) → sm_wp sm_P S d 247 4 [.ref 75, .int (0 : Int32)] [] (xLay, I1, L, (kR 75 R)) (0, 0) Φ) ∧ (¬ x1 ≤ (Int32.ofNat 11) → Φ (none, (xLay, I, L, (kR 75 R)))))))) : sm_wp sm_P S d 247 0 [.ref 75, .int x1] [] (xLay, I, L, (kR 75 R)) (0, 0) Φ := sm_wp_step (⟨fun q3 => ((h).1 q3), fun q3 => ⟨fun q2 => (((((h).2 q3)).1 q2) _ rfl), fun q2 => ((((h).2 q3)).2 q2)⟩⟩)
theorem k75_blank_4 {S : sm_C} {d : Nat} {Φ : sm_Z → Prop} {I : sm_I} {L : sm_L} {R : sm_R} {x2 : Int32} (h : (((I 75 4) ≤ x2 → Φ (none, (xLay, I, L, (kR 75 R)))) ∧ (¬ (I 75 4) ≤ x2 → (vp_in x2 11) ∧ ∀ I1 : sm_I, I1 = (sm_up I 77 x2.toNatClampNeg x2) → (vp_in x2 11) ∧ ∀ I2 : sm_I, I2 = (sm_up I1 78 x2.toNatClampNeg (0 : Int32)) → (vp_in x2 11) ∧ ∀ I3 : sm_I, I3 = (sm_up I2 79 x2.toNatClampNeg (0 : Int32)) → sm_wp sm_P S d 247 6 [.ref 75, .int x2, .int (0 : Int32)] [] (xLay, I3, L, (kR 75 R)) (0, 0) Φ))) : sm_wp sm_P S d 247 4 [.ref 75, .int x2] [] (xLay, I, L, (kR 75 R)) (0, 0) Φ := sm_wp_step (⟨fun q4 => ((h).1 q4), fun q4 => ⟨(((h).2 q4)).1, ⟨(((((h).2 q4)).2 _ rfl)).1, ⟨(((((((h).2 q4)).2 _ rfl)).2 _ rfl)).1, ((((((((h).2 q4)).2 _ rfl)).2 _ rfl)).2 _ rfl)⟩⟩⟩⟩)
theorem k75_blank_6 {S : sm_C} {d : Nat} {Φ : sm_Z → Prop} {I : sm_I} {L : sm_L} {R : sm_R} {x2 : Int32} {x3 : Int32} (h : (((I 75 4) ≤ x3 → sm_wp sm_P S d 247 4 [.ref 75, .int (x2 + (1 : Int32))] [] (xLay, I, L, (kR 75 R)) (0, 0) Φ) ∧ (¬ (I 75 4) ≤ x3 → ((x2 = 0 → (vp_in ((x2 * (I 75 4)) + x3) 7381) ∧ ∀ I1 : sm_I, I1 = (sm_up I 76 ((x2 * (I 75 4)) + x3).toNatClampNeg (0 : Int32)) → sm_wp sm_P S d 247 6 [.ref 75, .int x2, .int (x3 + (1 : Int32))] [] (xLay, I1, L, (kR 75 R)) (0, 0) Φ) ∧ (¬ x2 = 0 → ((x2 = x3 → (vp_in ((x2 * (I 75 4)) + x3) 7381) ∧ ∀ I3 : sm_I, I3 = (sm_up I 76 ((x2 * (I 75 4)) + x3).toNatClampNeg (0 : Int32)) → sm_wp sm_P S d 247 6 [.ref 75, .int x2, .int (x3 + (1 : Int32))] [] (xLay, I3, L, (kR 75 R)) (0, 0) Φ) ∧ (¬ x2 = x3 → (vp_in ((x2 * (I 75 4)) + x3) 7381) ∧ ∀ I2 : sm_I, I2 = (sm_up I 76 ((x2 * (I 75 4)) + x3).toNatClampNeg (1440 : Int32)) → sm_wp sm_P S d 247 6 [.ref 75, .int x2, .int (x3 + (1 : Int32))] [] (xLay, I2, L, (kR 75 R)) (0, 0) Φ))))))) : sm_wp sm_P S d 247 6 [.ref 75, .int x2, .int x3] [] (xLay, I, L, (kR 75 R)) (0, 0) Φ := sm_wp_step (⟨fun q6 => ((h).1 q6), fun q6 => ⟨fun q5 => ⟨(((((h).2 q6)).1 q5)).1, ((((((h).2 q6)).1 q5)).2 _ rfl)⟩, fun q5 => ⟨fun q4 => ⟨(((((((h).2 q6)).2 q5)).1 q4)).1, ((((((((h).2 q6)).2 q5)).1 q4)).2 _ rfl)⟩, fun q4 => ⟨(((((((h).2 q6)).2 q5)).2 q4)).1, ((((((((h).2 q6)).2 q5)).2 q4)).2 _ rfl)⟩⟩⟩⟩)
theorem k75_tightenRow_0 {S : sm_C} {d : Nat} {Φ : sm_Z → Prop} {I : sm_I} {L : sm_L} {R : sm_R} {x1 : Int32} {x2 : Int32} {x3 : Int32} (h : sm_wp sm_P S d 257 1 [.ref 75, .int x1, .int x2, .int x3, .int (0 : Int32)] [] (xLay, I, L, (kR 75 R)) (0, 0) Φ) : sm_wp sm_P S d 257 0 [.ref 75, .int x1, .int x2, .int x3] [] (xLay, I, L, (kR 75 R)) (0, 0) Φ := sm_wp_step (h)
theorem k75_tightenRow_1 {S : sm_C} {d : Nat} {Φ : sm_Z → Prop} {I : sm_I} {L : sm_L} {R : sm_R} {x1 : Int32} {x2 : Int32} {x3 : Int32} {x4 : Int32} (h : (((I 75 4) ≤ x4 → Φ (none, (xLay, I, L, (kR 75 R)))) ∧ (¬ (I 75 4) ≤ x4 → (vp_in (x3 + x4) 7381) ∧ ∀ n1 : Int32, n1 = (x2 + (I 76 (x3 + x4).toNatClampNeg)) → (vp_in (x1 + x4) 7381) ∧ (((I 76 (x1 + x4).toNatClampNeg) ≤ n1 → sm_wp sm_P S d 257 1 [.ref 75, .int x1, .int x2, .int x3, .int (x4 + (1 : Int32))] [] (xLay, I, L, (kR 75 R)) (0, 0) Φ) ∧ (¬ (I 76 (x1 + x4).toNatClampNeg) ≤ n1 → (vp_in (x1 + x4) 7381) ∧ ∀ I2 : sm_I, I2 = (sm_up I 76 (x1 + x4).toNatClampNeg n1) → sm_wp sm_P S d 257 1 [.ref 75, .int x1, .int x2, .int x3, .int (x4 + (1 : Int32))] [] (xLay, I2, L, (kR 75 R)) (0, 0) Φ))))) : sm_wp sm_P S d 257 1 [.ref 75, .int x1, .int x2, .int x3, .int x4] [] (xLay, I, L, (kR 75 R)) (0, 0) Φ := sm_wp_step (⟨fun q4 => ((h).1 q4), fun q4 => ⟨(((h).2 q4)).1, ⟨(((((h).2 q4)).2 _ rfl)).1, ⟨fun q3 => (((((((h).2 q4)).2 _ rfl)).2).1 q3), fun q3 => ⟨((((((((h).2 q4)).2 _ rfl)).2).2 q3)).1, (((((((((h).2 q4)).2 _ rfl)).2).2 q3)).2 _ rfl)⟩⟩⟩⟩⟩)
theorem k75_tighten_0 {S : sm_C} {d : Nat} {Φ : sm_Z → Prop} {I : sm_I} {L : sm_L} {R : sm_R} {x1 : Int32} {x2 : Int32} {x3 : Int32} {x4 : Int32} (h : ((x1 < 0 → sm_wp sm_P S (d + 1) 256 4 [.ref 75, .int x1, .int x2, .int x3, .int x4] [.int (0 : Int32)] (xLay, I, L, (kR 75 R)) (0, 0) Φ) ∧ (¬ x1 < 0 → (((Int32.ofNat 7381) < ((x1 + (1 : Int32)) * (I 75 5)) → sm_wp sm_P S (d + 1) 256 4 [.ref 75, .int x1, .int x2, .int x3, .int x4] [.int (0 : Int32)] (xLay, I, L, (kR 75 R)) (0, 0) Φ) ∧ (¬ (Int32.ofNat 7381) < ((x1 + (1 : Int32)) * (I 75 5)) → sm_wp sm_P S (d + 1) 256 4 [.ref 75, .int x1, .int x2, .int x3, .int x4] [.int (1 : Int32)] (xLay, I, L, (kR 75 R)) (0, 0) Φ))))) : sm_wp sm_P S (d + 1) 256 0 [.ref 75, .int x1, .int x2, .int x3, .int x4] [] (xLay, I, L, (kR 75 R)) (0, 0) Φ := sm_wp_step (⟨fun q2 => ((h).1 q2), fun q2 => ⟨fun q1 => ((((h).2 q2)).1 q1), fun q1 => ((((h).2 q2)).2 q1)⟩⟩)
theorem k75_tighten_4 {S : sm_C} {d : Nat} {Φ : sm_Z → Prop} {I : sm_I} {L : sm_L} {R : sm_R} {x1 : Int32} {x2 : Int32} {x3 : Int32} {x4 : Int32} {s0 : Int32} (h : ((s0 = 0 → Φ (some (.int (0 : Int32)), (xLay, I, L, (kR 75 R)))) ∧ (¬ s0 = 0 → ((x2 < 0 → Φ (some (.int (0 : Int32)), (xLay, I, L, (kR 75 R)))) ∧ (¬ x2 < 0 → (((I 75 4) ≤ x2 → Φ (some (.int (0 : Int32)), (xLay, I, L, (kR 75 R)))) ∧ (¬ (I 75 4) ≤ x2 → ((x3 < 0 → Φ (some (.int (0 : Int32)), (xLay, I, L, (kR 75 R)))) ∧ (¬ x3 < 0 → ((x3 < (I 75 4) → ((x2 = x3 → ((x4 < 0 → Φ (some (.int (0 : Int32)), (xLay, I, L, (kR 75 R)))) ∧ (¬ x4 < 0 → Φ (some (.int (1 : Int32)), (xLay, I, L, (kR 75 R)))))) ∧ (¬ x2 = x3 → (vp_in x2 11) ∧ (vp_in x3 11) ∧ ∀ n1 : Int32, n1 = ((x4 - (I 79 x2.toNatClampNeg)) + (I 78 x3.toNatClampNeg)) → (vp_in x2 11) ∧ (vp_in x3 11) ∧ ∀ n2 : Int32, n2 = ((x1 * (I 75 5)) + ((I 77 x3.toNatClampNeg) * (I 75 4))) → ∀ n3 : Int32, n3 = (n2 + (I 77 x2.toNatClampNeg)) → (vp_in n3 7381) ∧ ((0 ≤ ((I 76 n3.toNatClampNeg) + n1) → ∀ n4 : Int32, n4 = (((x1 * (I 75 5)) + ((I 77 x2.toNatClampNeg) * (I 75 4))) + (I 77 x3.toNatClampNeg)) → (vp_in n4 7381) ∧ ((n1 < (I 76 n4.toNatClampNeg) → sm_wp sm_P S (d + 1) 256 21 [.ref 75, .int n1, .int (x1 * (I 75 5)), .int (I 77 x2.toNatClampNeg), .int (I 77 x3.toNatClampNeg), .int n2, .int (0 : Int32)] [] (xLay, I, L, (kR 75 R)) (0, 0) Φ) ∧ (¬ n1 < (I 76 n4.toNatClampNeg) → Φ (some (.int (1 : Int32)), (xLay, I, L, (kR 75 R)))))) ∧ (¬ 0 ≤ ((I 76 n3.toNatClampNeg) + n1) → Φ (some (.int (0 : Int32)), (xLay, I, L, (kR 75 R)))))))) ∧ (¬ x3 < (I 75 4) → Φ (some (.int (0 : Int32)), (xLay, I, L, (kR 75 R)))))))))))))) : sm_wp sm_P S (d + 1) 256 4 [.ref 75, .int x1, .int x2, .int x3, .int x4] [.int s0] (xLay, I, L, (kR 75 R)) (0, 0) Φ := sm_wp_step (⟨fun q13 => ⟨Or.inl rfl, ((h).1 q13)⟩, fun q13 => ⟨fun q12 => ⟨Or.inl rfl, ((((h).2 q13)).1 q12)⟩, fun q12 => ⟨fun q11 => ⟨Or.inl rfl, ((((((h).2 q13)).2 q12)).1 q11)⟩, fun q11 => ⟨fun q10 => ⟨Or.inl rfl, ((((((((h).2 q13)).2 q12)).2 q11)).1 q10)⟩, fun q10 => ⟨fun q9 => ⟨fun q8 => ⟨fun q7 => ⟨Or.inl rfl, ((((((((((((((h).2 q13)).2 q12)).2 q11)).2 q10)).1 q9)).1 q8)).1 q7)⟩, fun q7 => ⟨Or.inr rfl, ((((((((((((((h).2 q13)).2 q12)).2 q11)).2 q10)).1 q9)).1 q8)).2 q7)⟩⟩, fun q8 => ⟨(((((((((((((h).2 q13)).2 q12)).2 q11)).2 q10)).1 q9)).2 q8)).1, ⟨((((((((((((((h).2 q13)).2 q12)).2 q11)).2 q10)).1 q9)).2 q8)).2).1, ⟨((((((((((((((((h).2 q13)).2 q12)).2 q11)).2 q10)).1 q9)).2 q8)).2).2 _ rfl)).1, ⟨(((((((((((((((((h).2 q13)).2 q12)).2 q11)).2 q10)).1 q9)).2 q8)).2).2 _ rfl)).2).1, ⟨((((((((((((((((((((h).2 q13)).2 q12)).2 q11)).2 q10)).1 q9)).2 q8)).2).2 _ rfl)).2).2 _ rfl) _ rfl)).1, ⟨fun q6 => ⟨((((((((((((((((((((((((h).2 q13)).2 q12)).2 q11)).2 q10)).1 q9)).2 q8)).2).2 _ rfl)).2).2 _ rfl) _ rfl)).2).1 q6) _ rfl)).1, ⟨fun q5 => ((((((((((((((((((((((((((h).2 q13)).2 q12)).2 q11)).2 q10)).1 q9)).2 q8)).2).2 _ rfl)).2).2 _ rfl) _ rfl)).2).1 q6) _ rfl)).2).1 q5), fun q5 => ⟨Or.inr rfl, ((((((((((((((((((((((((((h).2 q13)).2 q12)).2 q11)).2 q10)).1 q9)).2 q8)).2).2 _ rfl)).2).2 _ rfl) _ rfl)).2).1 q6) _ rfl)).2).2 q5)⟩⟩⟩, fun q6 => ⟨Or.inl rfl, ((((((((((((((((((((((h).2 q13)).2 q12)).2 q11)).2 q10)).1 q9)).2 q8)).2).2 _ rfl)).2).2 _ rfl) _ rfl)).2).2 q6)⟩⟩⟩⟩⟩⟩⟩⟩, fun q9 => ⟨Or.inl rfl, ((((((((((h).2 q13)).2 q12)).2 q11)).2 q10)).2 q9)⟩⟩⟩⟩⟩⟩)
theorem k75_tighten_21 {S : sm_C} {d : Nat} {Φ : sm_Z → Prop} {I : sm_I} {L : sm_L} {R : sm_R} {x6 : Int32} {x7 : Int32} {x8 : Int32} {x9 : Int32} {x10 : Int32} {x11 : Int32} (h : (((I 75 4) ≤ x11 → Φ (some (.int (1 : Int32)), (xLay, I, L, (kR 75 R)))) ∧ (¬ (I 75 4) ≤ x11 → ∀ n1 : Int32, n1 = ((x7 + (x11 * (I 75 4))) + x8) → (vp_in n1 7381) ∧ ∀ n2 : Int32, n2 = ((I 76 n1.toNatClampNeg) + x6) → ∀ n3 : Int32, n3 = ((x7 + (x11 * (I 75 4))) + x9) → (vp_in n3 7381) ∧ (((I 76 n3.toNatClampNeg) ≤ n2 → sm_wp sm_P S (d + 1) 256 21 [.ref 75, .int x6, .int x7, .int x8, .int x9, .int x10, .int (x11 + (1 : Int32))] [] (xLay, I, L, (kR 75 R)) (0, 0) Φ) ∧ (¬ (I 76 n3.toNatClampNeg) ≤ n2 → sm_wp sm_P S d 257 0 [.ref 75, .int (x7 + (x11 * (I 75 4))), .int n2, .int x10] [] (xLay, I, L, (kR 75 R)) (0, 0) (fun z => ∃ (I4 : sm_I) (L5 : sm_L), z = (none, (xLay, I4, L5, (kR 75 R))) ∧ sm_wp sm_P S (d + 1) 256 21 [.ref 75, .int x6, .int x7, .int x8, .int x9, .int x10, .int (x11 + (1 : Int32))] [] (xLay, I4, L5, (kR 75 R)) (0, 0) Φ)))))) : sm_wp sm_P S (d + 1) 256 21 [.ref 75, .int x6, .int x7, .int x8, .int x9, .int x10, .int x11] [] (xLay, I, L, (kR 75 R)) (0, 0) Φ := sm_wp_step (⟨fun q9 => ⟨Or.inr rfl, ((h).1 q9)⟩, fun q9 => ⟨((((h).2 q9) _ rfl)).1, ⟨(((((((h).2 q9) _ rfl)).2 _ rfl) _ rfl)).1, ⟨fun q8 => (((((((((h).2 q9) _ rfl)).2 _ rfl) _ rfl)).2).1 q8), fun q8 => sm_cv0 ((((((((((h).2 q9) _ rfl)).2 _ rfl) _ rfl)).2).2 q8)) (fun I4 L5 q7 => q7)⟩⟩⟩⟩)
theorem k83_hasLevel_0 {S : sm_C} {d : Nat} {Φ : sm_Z → Prop} {I : sm_I} {L : sm_L} {R : sm_R} {x1 : Int32} (h : ((x1 < 0 → Φ (some (.int (0 : Int32)), (xLay, I, L, (kR 83 R)))) ∧ (¬ x1 < 0 → (((Int32.ofNat 6776) < ((x1 + (1 : Int32)) * (I 83 5)) → Φ (some (.int (0 : Int32)), (xLay, I, L, (kR 83 R)))) ∧ (¬ (Int32.ofNat 6776) < ((x1 + (1 : Int32)) * (I 83 5)) → Φ (some (.int (1 : Int32)), (xLay, I, L, (kR 83 R)))))))) : sm_wp sm_P S d 249 0 [.ref 83, .int x1] [] (xLay, I, L, (kR 83 R)) (0, 0) Φ := sm_wp_step (⟨fun q2 => ⟨Or.inl rfl, ((h).1 q2)⟩, fun q2 => ⟨fun q1 => ⟨Or.inl rfl, ((((h).2 q2)).1 q1)⟩, fun q1 => ⟨Or.inr rfl, ((((h).2 q2)).2 q1)⟩⟩⟩)
theorem k83_hasNode_0 {S : sm_C} {d : Nat} {Φ : sm_Z → Prop} {I : sm_I} {L : sm_L} {R : sm_R} {x1 : Int32} (h : ((x1 < 0 → Φ (some (.int (0 : Int32)), (xLay, I, L, (kR 83 R)))) ∧ (¬ x1 < 0 → (((I 83 4) ≤ x1 → Φ (some (.int (0 : Int32)), (xLay, I, L, (kR 83 R)))) ∧ (¬ (I 83 4) ≤ x1 → Φ (some (.int (1 : Int32)), (xLay, I, L, (kR 83 R)))))))) : sm_wp sm_P S d 250 0 [.ref 83, .int x1] [] (xLay, I, L, (kR 83 R)) (0, 0) Φ := sm_wp_step (⟨fun q2 => ⟨Or.inl rfl, ((h).1 q2)⟩, fun q2 => ⟨fun q1 => ⟨Or.inl rfl, ((((h).2 q2)).1 q1)⟩, fun q1 => ⟨Or.inr rfl, ((((h).2 q2)).2 q1)⟩⟩⟩)
theorem k83_reach_0 {S : sm_C} {d : Nat} {Φ : sm_Z → Prop} {I : sm_I} {L : sm_L} {R : sm_R} {x1 : Int32} {x2 : Int32} {x3 : Int32} (h : sm_wp sm_P S d 249 0 [.ref 83, .int x1] [] (xLay, I, L, (kR 83 R)) (0, 0) (fun z => ∃ (r3 : Int32) (I1 : sm_I) (L2 : sm_L), z = (some (.int r3), (xLay, I1, L2, (kR 83 R))) ∧ ((r3 = 0 → Φ (some (.int (0 : Int32)), (xLay, I1, L2, (kR 83 R)))) ∧ (¬ r3 = 0 → sm_wp sm_P S d 250 0 [.ref 83, .int x2] [] (xLay, I1, L2, (kR 83 R)) (0, 0) (fun z => ∃ (r6 : Int32) (I4 : sm_I) (L5 : sm_L), z = (some (.int r6), (xLay, I4, L5, (kR 83 R))) ∧ ((r6 = 0 → Φ (some (.int (0 : Int32)), (xLay, I4, L5, (kR 83 R)))) ∧ (¬ r6 = 0 → sm_wp sm_P S d 250 0 [.ref 83, .int x3] [] (xLay, I4, L5, (kR 83 R)) (0, 0) (fun z => ∃ (r9 : Int32) (I7 : sm_I) (L8 : sm_L), z = (some (.int r9), (xLay, I7, L8, (kR 83 R))) ∧ ((r9 = 0 → Φ (some (.int (0 : Int32)), (xLay, I7, L8, (kR 83 R)))) ∧ (¬ r9 = 0 → ∀ n10 : Int32, n10 = (((x1 * (I7 83 5)) + (x2 * (I7 83 4))) + x3) → (vp_in n10 6776) ∧ Φ (some (.int (I7 84 n10.toNatClampNeg)), (xLay, I7, L8, (kR 83 R))))))))))))) : sm_wp sm_P S (d + 1) 255 0 [.ref 83, .int x1, .int x2, .int x3] [] (xLay, I, L, (kR 83 R)) (0, 0) Φ := sm_wp_step (sm_ci0 (h) (fun r3 I1 L2 q16 => ⟨fun q15 => ((q16).1 q15), fun q15 => sm_ci0 (((q16).2 q15)) (fun r6 I4 L5 q14 => ⟨fun q13 => ((q14).1 q13), fun q13 => sm_ci0 (((q14).2 q13)) (fun r9 I7 L8 q12 => ⟨fun q11 => ((q12).1 q11), fun q11 => ⟨((((q12).2 q11) _ rfl)).1, ((((q12).2 q11) _ rfl)).2⟩⟩)⟩)⟩))
theorem k83_copyUp_0 {S : sm_C} {d : Nat} {Φ : sm_Z → Prop} {I : sm_I} {L : sm_L} {R : sm_R} {x1 : Int32} (h : sm_wp sm_P S d 249 0 [.ref 83, .int x1] [] (xLay, I, L, (kR 83 R)) (0, 0) (fun z => ∃ (r3 : Int32) (I1 : sm_I) (L2 : sm_L), z = (some (.int r3), (xLay, I1, L2, (kR 83 R))) ∧ ((r3 = 0 → Φ (none, (xLay, I1, L2, (kR 83 R)))) ∧ (¬ r3 = 0 → sm_wp sm_P S d 249 0 [.ref 83, .int (x1 + (1 : Int32))] [] (xLay, I1, L2, (kR 83 R)) (0, 0) (fun z => ∃ (r6 : Int32) (I4 : sm_I) (L5 : sm_L), z = (some (.int r6), (xLay, I4, L5, (kR 83 R))) ∧ ((r6 = 0 → Φ (none, (xLay, I4, L5, (kR 83 R)))) ∧ (¬ r6 = 0 → ∀ n7 : Int32, n7 = ((x1 + (1 : Int32)) * (I4 83 5)) → (¬ (x1 * (I4 83 5)) < 0 ∧ ¬ n7 < 0 ∧ ¬ (I4 83 5) < 0 ∧ (x1 * (I4 83 5)).toNatClampNeg + (I4 83 5).toNatClampNeg ≤ 6776 ∧ n7.toNatClampNeg + (I4 83 5).toNatClampNeg ≤ 6776) ∧ ∀ I8 : sm_I, I8 = (sm_row I4 84 (va_cpy (I4 84) (I4 84) (x1 * (I4 83 5)).toNatClampNeg n7.toNatClampNeg (I4 83 5).toNatClampNeg)) → Φ (none, (xLay, I8, L5, (kR 83 R)))))))))) : sm_wp sm_P S (d + 1) 248 0 [.ref 83, .int x1] [] (xLay, I, L, (kR 83 R)) (0, 0) Φ := sm_wp_step (sm_ci0 (h) (fun r3 I1 L2 q12 => ⟨fun q11 => ((q12).1 q11), fun q11 => sm_ci0 (((q12).2 q11)) (fun r6 I4 L5 q10 => ⟨fun q9 => ((q10).1 q9), fun q9 => ⟨((((q10).2 q9) _ rfl)).1, (((((q10).2 q9) _ rfl)).2 _ rfl)⟩⟩)⟩))
theorem k83_loose_0 {S : sm_C} {d : Nat} {Φ : sm_Z → Prop} {I : sm_I} {L : sm_L} {R : sm_R} {x1 : Int32} {x2 : Int32} {x3 : Int32} {x4 : Int32} (h : sm_wp sm_P S d 250 0 [.ref 83, .int x1] [] (xLay, I, L, (kR 83 R)) (0, 0) (fun z => ∃ (r3 : Int32) (I1 : sm_I) (L2 : sm_L), z = (some (.int r3), (xLay, I1, L2, (kR 83 R))) ∧ ((r3 = 0 → Φ (none, (xLay, I1, L2, (kR 83 R)))) ∧ (¬ r3 = 0 → sm_wp sm_P S d 250 0 [.ref 83, .int x2] [] (xLay, I1, L2, (kR 83 R)) (0, 0) (fun z => ∃ (r6 : Int32) (I4 : sm_I) (L5 : sm_L), z = (some (.int r6), (xLay, I4, L5, (kR 83 R))) ∧ ((r6 = 0 → Φ (none, (xLay, I4, L5, (kR 83 R)))) ∧ (¬ r6 = 0 → (vp_in x1 11) ∧ ∀ I7 : sm_I, I7 = (sm_up I4 85 x1.toNatClampNeg x2) → (vp_in x1 11) ∧ ∀ I8 : sm_I, I8 = (sm_up I7 86 x1.toNatClampNeg x3) → (vp_in x1 11) ∧ ∀ I9 : sm_I, I9 = (sm_up I8 87 x1.toNatClampNeg x4) → Φ (none, (xLay, I9, L5, (kR 83 R)))))))))) : sm_wp sm_P S (d + 1) 254 0 [.ref 83, .int x1, .int x2, .int x3, .int x4] [] (xLay, I, L, (kR 83 R)) (0, 0) Φ := sm_wp_step (sm_ci0 (h) (fun r3 I1 L2 q13 => ⟨fun q12 => ((q13).1 q12), fun q12 => sm_ci0 (((q13).2 q12)) (fun r6 I4 L5 q11 => ⟨fun q10 => ((q11).1 q10), fun q10 => ⟨(((q11).2 q10)).1, ⟨(((((q11).2 q10)).2 _ rfl)).1, ⟨(((((((q11).2 q10)).2 _ rfl)).2 _ rfl)).1, ((((((((q11).2 q10)).2 _ rfl)).2 _ rfl)).2 _ rfl)⟩⟩⟩⟩)⟩))
theorem k83_blank_0 {S : sm_C} {d : Nat} {Φ : sm_Z → Prop} {I : sm_I} {L : sm_L} {R : sm_R} {x1 : Int32} (h : ((x1 < (1 : Int32) → Φ (none, (xLay, I, L, (kR 83 R)))) ∧ (¬ x1 < (1 : Int32) → ((x1 ≤ (Int32.ofNat 11) → ∀ I1 : sm_I, I1 = (sm_up (sm_up I 83 4 x1) 83 5 (x1 * x1)) → sm_wp sm_P S d 247 4 [.ref 83, .int (0 : Int32)] [] (xLay, I1, L, (kR 83 R)) (0, 0) Φ) ∧ (¬ x1 ≤ (Int32.ofNat 11) → Φ (none, (xLay, I, L, (kR 83 R)))))))) : sm_wp sm_P S d 247 0 [.ref 83, .int x1] [] (xLay, I, L, (kR 83 R)) (0, 0) Φ := sm_wp_step (⟨fun q3 => ((h).1 q3), fun q3 => ⟨fun q2 => (((((h).2 q3)).1 q2) _ rfl), fun q2 => ((((h).2 q3)).2 q2)⟩⟩)
theorem k83_blank_4 {S : sm_C} {d : Nat} {Φ : sm_Z → Prop} {I : sm_I} {L : sm_L} {R : sm_R} {x2 : Int32} (h : (((I 83 4) ≤ x2 → Φ (none, (xLay, I, L, (kR 83 R)))) ∧ (¬ (I 83 4) ≤ x2 → (vp_in x2 11) ∧ ∀ I1 : sm_I, I1 = (sm_up I 85 x2.toNatClampNeg x2) → (vp_in x2 11) ∧ ∀ I2 : sm_I, I2 = (sm_up I1 86 x2.toNatClampNeg (0 : Int32)) → (vp_in x2 11) ∧ ∀ I3 : sm_I, I3 = (sm_up I2 87 x2.toNatClampNeg (0 : Int32)) → sm_wp sm_P S d 247 6 [.ref 83, .int x2, .int (0 : Int32)] [] (xLay, I3, L, (kR 83 R)) (0, 0) Φ))) : sm_wp sm_P S d 247 4 [.ref 83, .int x2] [] (xLay, I, L, (kR 83 R)) (0, 0) Φ := sm_wp_step (⟨fun q4 => ((h).1 q4), fun q4 => ⟨(((h).2 q4)).1, ⟨(((((h).2 q4)).2 _ rfl)).1, ⟨(((((((h).2 q4)).2 _ rfl)).2 _ rfl)).1, ((((((((h).2 q4)).2 _ rfl)).2 _ rfl)).2 _ rfl)⟩⟩⟩⟩)
theorem k83_blank_6 {S : sm_C} {d : Nat} {Φ : sm_Z → Prop} {I : sm_I} {L : sm_L} {R : sm_R} {x2 : Int32} {x3 : Int32} (h : (((I 83 4) ≤ x3 → sm_wp sm_P S d 247 4 [.ref 83, .int (x2 + (1 : Int32))] [] (xLay, I, L, (kR 83 R)) (0, 0) Φ) ∧ (¬ (I 83 4) ≤ x3 → ((x2 = 0 → (vp_in ((x2 * (I 83 4)) + x3) 6776) ∧ ∀ I1 : sm_I, I1 = (sm_up I 84 ((x2 * (I 83 4)) + x3).toNatClampNeg (0 : Int32)) → sm_wp sm_P S d 247 6 [.ref 83, .int x2, .int (x3 + (1 : Int32))] [] (xLay, I1, L, (kR 83 R)) (0, 0) Φ) ∧ (¬ x2 = 0 → ((x2 = x3 → (vp_in ((x2 * (I 83 4)) + x3) 6776) ∧ ∀ I3 : sm_I, I3 = (sm_up I 84 ((x2 * (I 83 4)) + x3).toNatClampNeg (0 : Int32)) → sm_wp sm_P S d 247 6 [.ref 83, .int x2, .int (x3 + (1 : Int32))] [] (xLay, I3, L, (kR 83 R)) (0, 0) Φ) ∧ (¬ x2 = x3 → (vp_in ((x2 * (I 83 4)) + x3) 6776) ∧ ∀ I2 : sm_I, I2 = (sm_up I 84 ((x2 * (I 83 4)) + x3).toNatClampNeg (1440 : Int32)) → sm_wp sm_P S d 247 6 [.ref 83, .int x2, .int (x3 + (1 : Int32))] [] (xLay, I2, L, (kR 83 R)) (0, 0) Φ))))))) : sm_wp sm_P S d 247 6 [.ref 83, .int x2, .int x3] [] (xLay, I, L, (kR 83 R)) (0, 0) Φ := sm_wp_step (⟨fun q6 => ((h).1 q6), fun q6 => ⟨fun q5 => ⟨(((((h).2 q6)).1 q5)).1, ((((((h).2 q6)).1 q5)).2 _ rfl)⟩, fun q5 => ⟨fun q4 => ⟨(((((((h).2 q6)).2 q5)).1 q4)).1, ((((((((h).2 q6)).2 q5)).1 q4)).2 _ rfl)⟩, fun q4 => ⟨(((((((h).2 q6)).2 q5)).2 q4)).1, ((((((((h).2 q6)).2 q5)).2 q4)).2 _ rfl)⟩⟩⟩⟩)
theorem k83_tightenRow_0 {S : sm_C} {d : Nat} {Φ : sm_Z → Prop} {I : sm_I} {L : sm_L} {R : sm_R} {x1 : Int32} {x2 : Int32} {x3 : Int32} (h : sm_wp sm_P S d 257 1 [.ref 83, .int x1, .int x2, .int x3, .int (0 : Int32)] [] (xLay, I, L, (kR 83 R)) (0, 0) Φ) : sm_wp sm_P S d 257 0 [.ref 83, .int x1, .int x2, .int x3] [] (xLay, I, L, (kR 83 R)) (0, 0) Φ := sm_wp_step (h)
theorem k83_tightenRow_1 {S : sm_C} {d : Nat} {Φ : sm_Z → Prop} {I : sm_I} {L : sm_L} {R : sm_R} {x1 : Int32} {x2 : Int32} {x3 : Int32} {x4 : Int32} (h : (((I 83 4) ≤ x4 → Φ (none, (xLay, I, L, (kR 83 R)))) ∧ (¬ (I 83 4) ≤ x4 → (vp_in (x3 + x4) 6776) ∧ ∀ n1 : Int32, n1 = (x2 + (I 84 (x3 + x4).toNatClampNeg)) → (vp_in (x1 + x4) 6776) ∧ (((I 84 (x1 + x4).toNatClampNeg) ≤ n1 → sm_wp sm_P S d 257 1 [.ref 83, .int x1, .int x2, .int x3, .int (x4 + (1 : Int32))] [] (xLay, I, L, (kR 83 R)) (0, 0) Φ) ∧ (¬ (I 84 (x1 + x4).toNatClampNeg) ≤ n1 → (vp_in (x1 + x4) 6776) ∧ ∀ I2 : sm_I, I2 = (sm_up I 84 (x1 + x4).toNatClampNeg n1) → sm_wp sm_P S d 257 1 [.ref 83, .int x1, .int x2, .int x3, .int (x4 + (1 : Int32))] [] (xLay, I2, L, (kR 83 R)) (0, 0) Φ))))) : sm_wp sm_P S d 257 1 [.ref 83, .int x1, .int x2, .int x3, .int x4] [] (xLay, I, L, (kR 83 R)) (0, 0) Φ := sm_wp_step (⟨fun q4 => ((h).1 q4), fun q4 => ⟨(((h).2 q4)).1, ⟨(((((h).2 q4)).2 _ rfl)).1, ⟨fun q3 => (((((((h).2 q4)).2 _ rfl)).2).1 q3), fun q3 => ⟨((((((((h).2 q4)).2 _ rfl)).2).2 q3)).1, (((((((((h).2 q4)).2 _ rfl)).2).2 q3)).2 _ rfl)⟩⟩⟩⟩⟩)
theorem k83_tighten_0 {S : sm_C} {d : Nat} {Φ : sm_Z → Prop} {I : sm_I} {L : sm_L} {R : sm_R} {x1 : Int32} {x2 : Int32} {x3 : Int32} {x4 : Int32} (h : ((x1 < 0 → sm_wp sm_P S (d + 1) 256 4 [.ref 83, .int x1, .int x2, .int x3, .int x4] [.int (0 : Int32)] (xLay, I, L, (kR 83 R)) (0, 0) Φ) ∧ (¬ x1 < 0 → (((Int32.ofNat 6776) < ((x1 + (1 : Int32)) * (I 83 5)) → sm_wp sm_P S (d + 1) 256 4 [.ref 83, .int x1, .int x2, .int x3, .int x4] [.int (0 : Int32)] (xLay, I, L, (kR 83 R)) (0, 0) Φ) ∧ (¬ (Int32.ofNat 6776) < ((x1 + (1 : Int32)) * (I 83 5)) → sm_wp sm_P S (d + 1) 256 4 [.ref 83, .int x1, .int x2, .int x3, .int x4] [.int (1 : Int32)] (xLay, I, L, (kR 83 R)) (0, 0) Φ))))) : sm_wp sm_P S (d + 1) 256 0 [.ref 83, .int x1, .int x2, .int x3, .int x4] [] (xLay, I, L, (kR 83 R)) (0, 0) Φ := sm_wp_step (⟨fun q2 => ((h).1 q2), fun q2 => ⟨fun q1 => ((((h).2 q2)).1 q1), fun q1 => ((((h).2 q2)).2 q1)⟩⟩)
theorem k83_tighten_4 {S : sm_C} {d : Nat} {Φ : sm_Z → Prop} {I : sm_I} {L : sm_L} {R : sm_R} {x1 : Int32} {x2 : Int32} {x3 : Int32} {x4 : Int32} {s0 : Int32} (h : ((s0 = 0 → Φ (some (.int (0 : Int32)), (xLay, I, L, (kR 83 R)))) ∧ (¬ s0 = 0 → ((x2 < 0 → Φ (some (.int (0 : Int32)), (xLay, I, L, (kR 83 R)))) ∧ (¬ x2 < 0 → (((I 83 4) ≤ x2 → Φ (some (.int (0 : Int32)), (xLay, I, L, (kR 83 R)))) ∧ (¬ (I 83 4) ≤ x2 → ((x3 < 0 → Φ (some (.int (0 : Int32)), (xLay, I, L, (kR 83 R)))) ∧ (¬ x3 < 0 → ((x3 < (I 83 4) → ((x2 = x3 → ((x4 < 0 → Φ (some (.int (0 : Int32)), (xLay, I, L, (kR 83 R)))) ∧ (¬ x4 < 0 → Φ (some (.int (1 : Int32)), (xLay, I, L, (kR 83 R)))))) ∧ (¬ x2 = x3 → (vp_in x2 11) ∧ (vp_in x3 11) ∧ ∀ n1 : Int32, n1 = ((x4 - (I 87 x2.toNatClampNeg)) + (I 86 x3.toNatClampNeg)) → (vp_in x2 11) ∧ (vp_in x3 11) ∧ ∀ n2 : Int32, n2 = ((x1 * (I 83 5)) + ((I 85 x3.toNatClampNeg) * (I 83 4))) → ∀ n3 : Int32, n3 = (n2 + (I 85 x2.toNatClampNeg)) → (vp_in n3 6776) ∧ ((0 ≤ ((I 84 n3.toNatClampNeg) + n1) → ∀ n4 : Int32, n4 = (((x1 * (I 83 5)) + ((I 85 x2.toNatClampNeg) * (I 83 4))) + (I 85 x3.toNatClampNeg)) → (vp_in n4 6776) ∧ ((n1 < (I 84 n4.toNatClampNeg) → sm_wp sm_P S (d + 1) 256 21 [.ref 83, .int n1, .int (x1 * (I 83 5)), .int (I 85 x2.toNatClampNeg), .int (I 85 x3.toNatClampNeg), .int n2, .int (0 : Int32)] [] (xLay, I, L, (kR 83 R)) (0, 0) Φ) ∧ (¬ n1 < (I 84 n4.toNatClampNeg) → Φ (some (.int (1 : Int32)), (xLay, I, L, (kR 83 R)))))) ∧ (¬ 0 ≤ ((I 84 n3.toNatClampNeg) + n1) → Φ (some (.int (0 : Int32)), (xLay, I, L, (kR 83 R)))))))) ∧ (¬ x3 < (I 83 4) → Φ (some (.int (0 : Int32)), (xLay, I, L, (kR 83 R)))))))))))))) : sm_wp sm_P S (d + 1) 256 4 [.ref 83, .int x1, .int x2, .int x3, .int x4] [.int s0] (xLay, I, L, (kR 83 R)) (0, 0) Φ := sm_wp_step (⟨fun q13 => ⟨Or.inl rfl, ((h).1 q13)⟩, fun q13 => ⟨fun q12 => ⟨Or.inl rfl, ((((h).2 q13)).1 q12)⟩, fun q12 => ⟨fun q11 => ⟨Or.inl rfl, ((((((h).2 q13)).2 q12)).1 q11)⟩, fun q11 => ⟨fun q10 => ⟨Or.inl rfl, ((((((((h).2 q13)).2 q12)).2 q11)).1 q10)⟩, fun q10 => ⟨fun q9 => ⟨fun q8 => ⟨fun q7 => ⟨Or.inl rfl, ((((((((((((((h).2 q13)).2 q12)).2 q11)).2 q10)).1 q9)).1 q8)).1 q7)⟩, fun q7 => ⟨Or.inr rfl, ((((((((((((((h).2 q13)).2 q12)).2 q11)).2 q10)).1 q9)).1 q8)).2 q7)⟩⟩, fun q8 => ⟨(((((((((((((h).2 q13)).2 q12)).2 q11)).2 q10)).1 q9)).2 q8)).1, ⟨((((((((((((((h).2 q13)).2 q12)).2 q11)).2 q10)).1 q9)).2 q8)).2).1, ⟨((((((((((((((((h).2 q13)).2 q12)).2 q11)).2 q10)).1 q9)).2 q8)).2).2 _ rfl)).1, ⟨(((((((((((((((((h).2 q13)).2 q12)).2 q11)).2 q10)).1 q9)).2 q8)).2).2 _ rfl)).2).1, ⟨((((((((((((((((((((h).2 q13)).2 q12)).2 q11)).2 q10)).1 q9)).2 q8)).2).2 _ rfl)).2).2 _ rfl) _ rfl)).1, ⟨fun q6 => ⟨((((((((((((((((((((((((h).2 q13)).2 q12)).2 q11)).2 q10)).1 q9)).2 q8)).2).2 _ rfl)).2).2 _ rfl) _ rfl)).2).1 q6) _ rfl)).1, ⟨fun q5 => ((((((((((((((((((((((((((h).2 q13)).2 q12)).2 q11)).2 q10)).1 q9)).2 q8)).2).2 _ rfl)).2).2 _ rfl) _ rfl)).2).1 q6) _ rfl)).2).1 q5), fun q5 => ⟨Or.inr rfl, ((((((((((((((((((((((((((h).2 q13)).2 q12)).2 q11)).2 q10)).1 q9)).2 q8)).2).2 _ rfl)).2).2 _ rfl) _ rfl)).2).1 q6) _ rfl)).2).2 q5)⟩⟩⟩, fun q6 => ⟨Or.inl rfl, ((((((((((((((((((((((h).2 q13)).2 q12)).2 q11)).2 q10)).1 q9)).2 q8)).2).2 _ rfl)).2).2 _ rfl) _ rfl)).2).2 q6)⟩⟩⟩⟩⟩⟩⟩⟩, fun q9 => ⟨Or.inl rfl, ((((((((((h).2 q13)).2 q12)).2 q11)).2 q10)).2 q9)⟩⟩⟩⟩⟩⟩)
theorem k83_tighten_21 {S : sm_C} {d : Nat} {Φ : sm_Z → Prop} {I : sm_I} {L : sm_L} {R : sm_R} {x6 : Int32} {x7 : Int32} {x8 : Int32} {x9 : Int32} {x10 : Int32} {x11 : Int32} (h : (((I 83 4) ≤ x11 → Φ (some (.int (1 : Int32)), (xLay, I, L, (kR 83 R)))) ∧ (¬ (I 83 4) ≤ x11 → ∀ n1 : Int32, n1 = ((x7 + (x11 * (I 83 4))) + x8) → (vp_in n1 6776) ∧ ∀ n2 : Int32, n2 = ((I 84 n1.toNatClampNeg) + x6) → ∀ n3 : Int32, n3 = ((x7 + (x11 * (I 83 4))) + x9) → (vp_in n3 6776) ∧ (((I 84 n3.toNatClampNeg) ≤ n2 → sm_wp sm_P S (d + 1) 256 21 [.ref 83, .int x6, .int x7, .int x8, .int x9, .int x10, .int (x11 + (1 : Int32))] [] (xLay, I, L, (kR 83 R)) (0, 0) Φ) ∧ (¬ (I 84 n3.toNatClampNeg) ≤ n2 → sm_wp sm_P S d 257 0 [.ref 83, .int (x7 + (x11 * (I 83 4))), .int n2, .int x10] [] (xLay, I, L, (kR 83 R)) (0, 0) (fun z => ∃ (I4 : sm_I) (L5 : sm_L), z = (none, (xLay, I4, L5, (kR 83 R))) ∧ sm_wp sm_P S (d + 1) 256 21 [.ref 83, .int x6, .int x7, .int x8, .int x9, .int x10, .int (x11 + (1 : Int32))] [] (xLay, I4, L5, (kR 83 R)) (0, 0) Φ)))))) : sm_wp sm_P S (d + 1) 256 21 [.ref 83, .int x6, .int x7, .int x8, .int x9, .int x10, .int x11] [] (xLay, I, L, (kR 83 R)) (0, 0) Φ := sm_wp_step (⟨fun q9 => ⟨Or.inr rfl, ((h).1 q9)⟩, fun q9 => ⟨((((h).2 q9) _ rfl)).1, ⟨(((((((h).2 q9) _ rfl)).2 _ rfl) _ rfl)).1, ⟨fun q8 => (((((((((h).2 q9) _ rfl)).2 _ rfl) _ rfl)).2).1 q8), fun q8 => sm_cv0 ((((((((((h).2 q9) _ rfl)).2 _ rfl) _ rfl)).2).2 q8)) (fun I4 L5 q7 => q7)⟩⟩⟩⟩)
theorem k91_hasLevel_0 {S : sm_C} {d : Nat} {Φ : sm_Z → Prop} {I : sm_I} {L : sm_L} {R : sm_R} {x1 : Int32} (h : ((x1 < 0 → Φ (some (.int (0 : Int32)), (xLay, I, L, (kR 91 R)))) ∧ (¬ x1 < 0 → (((Int32.ofNat 9504) < ((x1 + (1 : Int32)) * (I 91 5)) → Φ (some (.int (0 : Int32)), (xLay, I, L, (kR 91 R)))) ∧ (¬ (Int32.ofNat 9504) < ((x1 + (1 : Int32)) * (I 91 5)) → Φ (some (.int (1 : Int32)), (xLay, I, L, (kR 91 R)))))))) : sm_wp sm_P S d 249 0 [.ref 91, .int x1] [] (xLay, I, L, (kR 91 R)) (0, 0) Φ := sm_wp_step (⟨fun q2 => ⟨Or.inl rfl, ((h).1 q2)⟩, fun q2 => ⟨fun q1 => ⟨Or.inl rfl, ((((h).2 q2)).1 q1)⟩, fun q1 => ⟨Or.inr rfl, ((((h).2 q2)).2 q1)⟩⟩⟩)
theorem k91_hasNode_0 {S : sm_C} {d : Nat} {Φ : sm_Z → Prop} {I : sm_I} {L : sm_L} {R : sm_R} {x1 : Int32} (h : ((x1 < 0 → Φ (some (.int (0 : Int32)), (xLay, I, L, (kR 91 R)))) ∧ (¬ x1 < 0 → (((I 91 4) ≤ x1 → Φ (some (.int (0 : Int32)), (xLay, I, L, (kR 91 R)))) ∧ (¬ (I 91 4) ≤ x1 → Φ (some (.int (1 : Int32)), (xLay, I, L, (kR 91 R)))))))) : sm_wp sm_P S d 250 0 [.ref 91, .int x1] [] (xLay, I, L, (kR 91 R)) (0, 0) Φ := sm_wp_step (⟨fun q2 => ⟨Or.inl rfl, ((h).1 q2)⟩, fun q2 => ⟨fun q1 => ⟨Or.inl rfl, ((((h).2 q2)).1 q1)⟩, fun q1 => ⟨Or.inr rfl, ((((h).2 q2)).2 q1)⟩⟩⟩)
theorem k91_reach_0 {S : sm_C} {d : Nat} {Φ : sm_Z → Prop} {I : sm_I} {L : sm_L} {R : sm_R} {x1 : Int32} {x2 : Int32} {x3 : Int32} (h : sm_wp sm_P S d 249 0 [.ref 91, .int x1] [] (xLay, I, L, (kR 91 R)) (0, 0) (fun z => ∃ (r3 : Int32) (I1 : sm_I) (L2 : sm_L), z = (some (.int r3), (xLay, I1, L2, (kR 91 R))) ∧ ((r3 = 0 → Φ (some (.int (0 : Int32)), (xLay, I1, L2, (kR 91 R)))) ∧ (¬ r3 = 0 → sm_wp sm_P S d 250 0 [.ref 91, .int x2] [] (xLay, I1, L2, (kR 91 R)) (0, 0) (fun z => ∃ (r6 : Int32) (I4 : sm_I) (L5 : sm_L), z = (some (.int r6), (xLay, I4, L5, (kR 91 R))) ∧ ((r6 = 0 → Φ (some (.int (0 : Int32)), (xLay, I4, L5, (kR 91 R)))) ∧ (¬ r6 = 0 → sm_wp sm_P S d 250 0 [.ref 91, .int x3] [] (xLay, I4, L5, (kR 91 R)) (0, 0) (fun z => ∃ (r9 : Int32) (I7 : sm_I) (L8 : sm_L), z = (some (.int r9), (xLay, I7, L8, (kR 91 R))) ∧ ((r9 = 0 → Φ (some (.int (0 : Int32)), (xLay, I7, L8, (kR 91 R)))) ∧ (¬ r9 = 0 → ∀ n10 : Int32, n10 = (((x1 * (I7 91 5)) + (x2 * (I7 91 4))) + x3) → (vp_in n10 9504) ∧ Φ (some (.int (I7 92 n10.toNatClampNeg)), (xLay, I7, L8, (kR 91 R))))))))))))) : sm_wp sm_P S (d + 1) 255 0 [.ref 91, .int x1, .int x2, .int x3] [] (xLay, I, L, (kR 91 R)) (0, 0) Φ := sm_wp_step (sm_ci0 (h) (fun r3 I1 L2 q16 => ⟨fun q15 => ((q16).1 q15), fun q15 => sm_ci0 (((q16).2 q15)) (fun r6 I4 L5 q14 => ⟨fun q13 => ((q14).1 q13), fun q13 => sm_ci0 (((q14).2 q13)) (fun r9 I7 L8 q12 => ⟨fun q11 => ((q12).1 q11), fun q11 => ⟨((((q12).2 q11) _ rfl)).1, ((((q12).2 q11) _ rfl)).2⟩⟩)⟩)⟩))
theorem k91_copyUp_0 {S : sm_C} {d : Nat} {Φ : sm_Z → Prop} {I : sm_I} {L : sm_L} {R : sm_R} {x1 : Int32} (h : sm_wp sm_P S d 249 0 [.ref 91, .int x1] [] (xLay, I, L, (kR 91 R)) (0, 0) (fun z => ∃ (r3 : Int32) (I1 : sm_I) (L2 : sm_L), z = (some (.int r3), (xLay, I1, L2, (kR 91 R))) ∧ ((r3 = 0 → Φ (none, (xLay, I1, L2, (kR 91 R)))) ∧ (¬ r3 = 0 → sm_wp sm_P S d 249 0 [.ref 91, .int (x1 + (1 : Int32))] [] (xLay, I1, L2, (kR 91 R)) (0, 0) (fun z => ∃ (r6 : Int32) (I4 : sm_I) (L5 : sm_L), z = (some (.int r6), (xLay, I4, L5, (kR 91 R))) ∧ ((r6 = 0 → Φ (none, (xLay, I4, L5, (kR 91 R)))) ∧ (¬ r6 = 0 → ∀ n7 : Int32, n7 = ((x1 + (1 : Int32)) * (I4 91 5)) → (¬ (x1 * (I4 91 5)) < 0 ∧ ¬ n7 < 0 ∧ ¬ (I4 91 5) < 0 ∧ (x1 * (I4 91 5)).toNatClampNeg + (I4 91 5).toNatClampNeg ≤ 9504 ∧ n7.toNatClampNeg + (I4 91 5).toNatClampNeg ≤ 9504) ∧ ∀ I8 : sm_I, I8 = (sm_row I4 92 (va_cpy (I4 92) (I4 92) (x1 * (I4 91 5)).toNatClampNeg n7.toNatClampNeg (I4 91 5).toNatClampNeg)) → Φ (none, (xLay, I8, L5, (kR 91 R)))))))))) : sm_wp sm_P S (d + 1) 248 0 [.ref 91, .int x1] [] (xLay, I, L, (kR 91 R)) (0, 0) Φ := sm_wp_step (sm_ci0 (h) (fun r3 I1 L2 q12 => ⟨fun q11 => ((q12).1 q11), fun q11 => sm_ci0 (((q12).2 q11)) (fun r6 I4 L5 q10 => ⟨fun q9 => ((q10).1 q9), fun q9 => ⟨((((q10).2 q9) _ rfl)).1, (((((q10).2 q9) _ rfl)).2 _ rfl)⟩⟩)⟩))
theorem k91_blank_0 {S : sm_C} {d : Nat} {Φ : sm_Z → Prop} {I : sm_I} {L : sm_L} {R : sm_R} {x1 : Int32} (h : ((x1 < (1 : Int32) → Φ (none, (xLay, I, L, (kR 91 R)))) ∧ (¬ x1 < (1 : Int32) → ((x1 ≤ (Int32.ofNat 12) → ∀ I1 : sm_I, I1 = (sm_up (sm_up I 91 4 x1) 91 5 (x1 * x1)) → sm_wp sm_P S d 247 4 [.ref 91, .int (0 : Int32)] [] (xLay, I1, L, (kR 91 R)) (0, 0) Φ) ∧ (¬ x1 ≤ (Int32.ofNat 12) → Φ (none, (xLay, I, L, (kR 91 R)))))))) : sm_wp sm_P S d 247 0 [.ref 91, .int x1] [] (xLay, I, L, (kR 91 R)) (0, 0) Φ := sm_wp_step (⟨fun q3 => ((h).1 q3), fun q3 => ⟨fun q2 => (((((h).2 q3)).1 q2) _ rfl), fun q2 => ((((h).2 q3)).2 q2)⟩⟩)
theorem k91_blank_4 {S : sm_C} {d : Nat} {Φ : sm_Z → Prop} {I : sm_I} {L : sm_L} {R : sm_R} {x2 : Int32} (h : (((I 91 4) ≤ x2 → Φ (none, (xLay, I, L, (kR 91 R)))) ∧ (¬ (I 91 4) ≤ x2 → (vp_in x2 12) ∧ ∀ I1 : sm_I, I1 = (sm_up I 93 x2.toNatClampNeg x2) → (vp_in x2 12) ∧ ∀ I2 : sm_I, I2 = (sm_up I1 94 x2.toNatClampNeg (0 : Int32)) → (vp_in x2 12) ∧ ∀ I3 : sm_I, I3 = (sm_up I2 95 x2.toNatClampNeg (0 : Int32)) → sm_wp sm_P S d 247 6 [.ref 91, .int x2, .int (0 : Int32)] [] (xLay, I3, L, (kR 91 R)) (0, 0) Φ))) : sm_wp sm_P S d 247 4 [.ref 91, .int x2] [] (xLay, I, L, (kR 91 R)) (0, 0) Φ := sm_wp_step (⟨fun q4 => ((h).1 q4), fun q4 => ⟨(((h).2 q4)).1, ⟨(((((h).2 q4)).2 _ rfl)).1, ⟨(((((((h).2 q4)).2 _ rfl)).2 _ rfl)).1, ((((((((h).2 q4)).2 _ rfl)).2 _ rfl)).2 _ rfl)⟩⟩⟩⟩)
theorem k91_blank_6 {S : sm_C} {d : Nat} {Φ : sm_Z → Prop} {I : sm_I} {L : sm_L} {R : sm_R} {x2 : Int32} {x3 : Int32} (h : (((I 91 4) ≤ x3 → sm_wp sm_P S d 247 4 [.ref 91, .int (x2 + (1 : Int32))] [] (xLay, I, L, (kR 91 R)) (0, 0) Φ) ∧ (¬ (I 91 4) ≤ x3 → ((x2 = 0 → (vp_in ((x2 * (I 91 4)) + x3) 9504) ∧ ∀ I1 : sm_I, I1 = (sm_up I 92 ((x2 * (I 91 4)) + x3).toNatClampNeg (0 : Int32)) → sm_wp sm_P S d 247 6 [.ref 91, .int x2, .int (x3 + (1 : Int32))] [] (xLay, I1, L, (kR 91 R)) (0, 0) Φ) ∧ (¬ x2 = 0 → ((x2 = x3 → (vp_in ((x2 * (I 91 4)) + x3) 9504) ∧ ∀ I3 : sm_I, I3 = (sm_up I 92 ((x2 * (I 91 4)) + x3).toNatClampNeg (0 : Int32)) → sm_wp sm_P S d 247 6 [.ref 91, .int x2, .int (x3 + (1 : Int32))] [] (xLay, I3, L, (kR 91 R)) (0, 0) Φ) ∧ (¬ x2 = x3 → (vp_in ((x2 * (I 91 4)) + x3) 9504) ∧ ∀ I2 : sm_I, I2 = (sm_up I 92 ((x2 * (I 91 4)) + x3).toNatClampNeg (1440 : Int32)) → sm_wp sm_P S d 247 6 [.ref 91, .int x2, .int (x3 + (1 : Int32))] [] (xLay, I2, L, (kR 91 R)) (0, 0) Φ))))))) : sm_wp sm_P S d 247 6 [.ref 91, .int x2, .int x3] [] (xLay, I, L, (kR 91 R)) (0, 0) Φ := sm_wp_step (⟨fun q6 => ((h).1 q6), fun q6 => ⟨fun q5 => ⟨(((((h).2 q6)).1 q5)).1, ((((((h).2 q6)).1 q5)).2 _ rfl)⟩, fun q5 => ⟨fun q4 => ⟨(((((((h).2 q6)).2 q5)).1 q4)).1, ((((((((h).2 q6)).2 q5)).1 q4)).2 _ rfl)⟩, fun q4 => ⟨(((((((h).2 q6)).2 q5)).2 q4)).1, ((((((((h).2 q6)).2 q5)).2 q4)).2 _ rfl)⟩⟩⟩⟩)
theorem k91_tightenRow_0 {S : sm_C} {d : Nat} {Φ : sm_Z → Prop} {I : sm_I} {L : sm_L} {R : sm_R} {x1 : Int32} {x2 : Int32} {x3 : Int32} (h : sm_wp sm_P S d 257 1 [.ref 91, .int x1, .int x2, .int x3, .int (0 : Int32)] [] (xLay, I, L, (kR 91 R)) (0, 0) Φ) : sm_wp sm_P S d 257 0 [.ref 91, .int x1, .int x2, .int x3] [] (xLay, I, L, (kR 91 R)) (0, 0) Φ := sm_wp_step (h)
theorem k91_tightenRow_1 {S : sm_C} {d : Nat} {Φ : sm_Z → Prop} {I : sm_I} {L : sm_L} {R : sm_R} {x1 : Int32} {x2 : Int32} {x3 : Int32} {x4 : Int32} (h : (((I 91 4) ≤ x4 → Φ (none, (xLay, I, L, (kR 91 R)))) ∧ (¬ (I 91 4) ≤ x4 → (vp_in (x3 + x4) 9504) ∧ ∀ n1 : Int32, n1 = (x2 + (I 92 (x3 + x4).toNatClampNeg)) → (vp_in (x1 + x4) 9504) ∧ (((I 92 (x1 + x4).toNatClampNeg) ≤ n1 → sm_wp sm_P S d 257 1 [.ref 91, .int x1, .int x2, .int x3, .int (x4 + (1 : Int32))] [] (xLay, I, L, (kR 91 R)) (0, 0) Φ) ∧ (¬ (I 92 (x1 + x4).toNatClampNeg) ≤ n1 → (vp_in (x1 + x4) 9504) ∧ ∀ I2 : sm_I, I2 = (sm_up I 92 (x1 + x4).toNatClampNeg n1) → sm_wp sm_P S d 257 1 [.ref 91, .int x1, .int x2, .int x3, .int (x4 + (1 : Int32))] [] (xLay, I2, L, (kR 91 R)) (0, 0) Φ))))) : sm_wp sm_P S d 257 1 [.ref 91, .int x1, .int x2, .int x3, .int x4] [] (xLay, I, L, (kR 91 R)) (0, 0) Φ := sm_wp_step (⟨fun q4 => ((h).1 q4), fun q4 => ⟨(((h).2 q4)).1, ⟨(((((h).2 q4)).2 _ rfl)).1, ⟨fun q3 => (((((((h).2 q4)).2 _ rfl)).2).1 q3), fun q3 => ⟨((((((((h).2 q4)).2 _ rfl)).2).2 q3)).1, (((((((((h).2 q4)).2 _ rfl)).2).2 q3)).2 _ rfl)⟩⟩⟩⟩⟩)
theorem k91_tighten_0 {S : sm_C} {d : Nat} {Φ : sm_Z → Prop} {I : sm_I} {L : sm_L} {R : sm_R} {x1 : Int32} {x2 : Int32} {x3 : Int32} {x4 : Int32} (h : ((x1 < 0 → sm_wp sm_P S (d + 1) 256 4 [.ref 91, .int x1, .int x2, .int x3, .int x4] [.int (0 : Int32)] (xLay, I, L, (kR 91 R)) (0, 0) Φ) ∧ (¬ x1 < 0 → (((Int32.ofNat 9504) < ((x1 + (1 : Int32)) * (I 91 5)) → sm_wp sm_P S (d + 1) 256 4 [.ref 91, .int x1, .int x2, .int x3, .int x4] [.int (0 : Int32)] (xLay, I, L, (kR 91 R)) (0, 0) Φ) ∧ (¬ (Int32.ofNat 9504) < ((x1 + (1 : Int32)) * (I 91 5)) → sm_wp sm_P S (d + 1) 256 4 [.ref 91, .int x1, .int x2, .int x3, .int x4] [.int (1 : Int32)] (xLay, I, L, (kR 91 R)) (0, 0) Φ))))) : sm_wp sm_P S (d + 1) 256 0 [.ref 91, .int x1, .int x2, .int x3, .int x4] [] (xLay, I, L, (kR 91 R)) (0, 0) Φ := sm_wp_step (⟨fun q2 => ((h).1 q2), fun q2 => ⟨fun q1 => ((((h).2 q2)).1 q1), fun q1 => ((((h).2 q2)).2 q1)⟩⟩)
theorem k91_tighten_4 {S : sm_C} {d : Nat} {Φ : sm_Z → Prop} {I : sm_I} {L : sm_L} {R : sm_R} {x1 : Int32} {x2 : Int32} {x3 : Int32} {x4 : Int32} {s0 : Int32} (h : ((s0 = 0 → Φ (some (.int (0 : Int32)), (xLay, I, L, (kR 91 R)))) ∧ (¬ s0 = 0 → ((x2 < 0 → Φ (some (.int (0 : Int32)), (xLay, I, L, (kR 91 R)))) ∧ (¬ x2 < 0 → (((I 91 4) ≤ x2 → Φ (some (.int (0 : Int32)), (xLay, I, L, (kR 91 R)))) ∧ (¬ (I 91 4) ≤ x2 → ((x3 < 0 → Φ (some (.int (0 : Int32)), (xLay, I, L, (kR 91 R)))) ∧ (¬ x3 < 0 → ((x3 < (I 91 4) → ((x2 = x3 → ((x4 < 0 → Φ (some (.int (0 : Int32)), (xLay, I, L, (kR 91 R)))) ∧ (¬ x4 < 0 → Φ (some (.int (1 : Int32)), (xLay, I, L, (kR 91 R)))))) ∧ (¬ x2 = x3 → (vp_in x2 12) ∧ (vp_in x3 12) ∧ ∀ n1 : Int32, n1 = ((x4 - (I 95 x2.toNatClampNeg)) + (I 94 x3.toNatClampNeg)) → (vp_in x2 12) ∧ (vp_in x3 12) ∧ ∀ n2 : Int32, n2 = ((x1 * (I 91 5)) + ((I 93 x3.toNatClampNeg) * (I 91 4))) → ∀ n3 : Int32, n3 = (n2 + (I 93 x2.toNatClampNeg)) → (vp_in n3 9504) ∧ ((0 ≤ ((I 92 n3.toNatClampNeg) + n1) → ∀ n4 : Int32, n4 = (((x1 * (I 91 5)) + ((I 93 x2.toNatClampNeg) * (I 91 4))) + (I 93 x3.toNatClampNeg)) → (vp_in n4 9504) ∧ ((n1 < (I 92 n4.toNatClampNeg) → sm_wp sm_P S (d + 1) 256 21 [.ref 91, .int n1, .int (x1 * (I 91 5)), .int (I 93 x2.toNatClampNeg), .int (I 93 x3.toNatClampNeg), .int n2, .int (0 : Int32)] [] (xLay, I, L, (kR 91 R)) (0, 0) Φ) ∧ (¬ n1 < (I 92 n4.toNatClampNeg) → Φ (some (.int (1 : Int32)), (xLay, I, L, (kR 91 R)))))) ∧ (¬ 0 ≤ ((I 92 n3.toNatClampNeg) + n1) → Φ (some (.int (0 : Int32)), (xLay, I, L, (kR 91 R)))))))) ∧ (¬ x3 < (I 91 4) → Φ (some (.int (0 : Int32)), (xLay, I, L, (kR 91 R)))))))))))))) : sm_wp sm_P S (d + 1) 256 4 [.ref 91, .int x1, .int x2, .int x3, .int x4] [.int s0] (xLay, I, L, (kR 91 R)) (0, 0) Φ := sm_wp_step (⟨fun q13 => ⟨Or.inl rfl, ((h).1 q13)⟩, fun q13 => ⟨fun q12 => ⟨Or.inl rfl, ((((h).2 q13)).1 q12)⟩, fun q12 => ⟨fun q11 => ⟨Or.inl rfl, ((((((h).2 q13)).2 q12)).1 q11)⟩, fun q11 => ⟨fun q10 => ⟨Or.inl rfl, ((((((((h).2 q13)).2 q12)).2 q11)).1 q10)⟩, fun q10 => ⟨fun q9 => ⟨fun q8 => ⟨fun q7 => ⟨Or.inl rfl, ((((((((((((((h).2 q13)).2 q12)).2 q11)).2 q10)).1 q9)).1 q8)).1 q7)⟩, fun q7 => ⟨Or.inr rfl, ((((((((((((((h).2 q13)).2 q12)).2 q11)).2 q10)).1 q9)).1 q8)).2 q7)⟩⟩, fun q8 => ⟨(((((((((((((h).2 q13)).2 q12)).2 q11)).2 q10)).1 q9)).2 q8)).1, ⟨((((((((((((((h).2 q13)).2 q12)).2 q11)).2 q10)).1 q9)).2 q8)).2).1, ⟨((((((((((((((((h).2 q13)).2 q12)).2 q11)).2 q10)).1 q9)).2 q8)).2).2 _ rfl)).1, ⟨(((((((((((((((((h).2 q13)).2 q12)).2 q11)).2 q10)).1 q9)).2 q8)).2).2 _ rfl)).2).1, ⟨((((((((((((((((((((h).2 q13)).2 q12)).2 q11)).2 q10)).1 q9)).2 q8)).2).2 _ rfl)).2).2 _ rfl) _ rfl)).1, ⟨fun q6 => ⟨((((((((((((((((((((((((h).2 q13)).2 q12)).2 q11)).2 q10)).1 q9)).2 q8)).2).2 _ rfl)).2).2 _ rfl) _ rfl)).2).1 q6) _ rfl)).1, ⟨fun q5 => ((((((((((((((((((((((((((h).2 q13)).2 q12)).2 q11)).2 q10)).1 q9)).2 q8)).2).2 _ rfl)).2).2 _ rfl) _ rfl)).2).1 q6) _ rfl)).2).1 q5), fun q5 => ⟨Or.inr rfl, ((((((((((((((((((((((((((h).2 q13)).2 q12)).2 q11)).2 q10)).1 q9)).2 q8)).2).2 _ rfl)).2).2 _ rfl) _ rfl)).2).1 q6) _ rfl)).2).2 q5)⟩⟩⟩, fun q6 => ⟨Or.inl rfl, ((((((((((((((((((((((h).2 q13)).2 q12)).2 q11)).2 q10)).1 q9)).2 q8)).2).2 _ rfl)).2).2 _ rfl) _ rfl)).2).2 q6)⟩⟩⟩⟩⟩⟩⟩⟩, fun q9 => ⟨Or.inl rfl, ((((((((((h).2 q13)).2 q12)).2 q11)).2 q10)).2 q9)⟩⟩⟩⟩⟩⟩)
theorem k91_tighten_21 {S : sm_C} {d : Nat} {Φ : sm_Z → Prop} {I : sm_I} {L : sm_L} {R : sm_R} {x6 : Int32} {x7 : Int32} {x8 : Int32} {x9 : Int32} {x10 : Int32} {x11 : Int32} (h : (((I 91 4) ≤ x11 → Φ (some (.int (1 : Int32)), (xLay, I, L, (kR 91 R)))) ∧ (¬ (I 91 4) ≤ x11 → ∀ n1 : Int32, n1 = ((x7 + (x11 * (I 91 4))) + x8) → (vp_in n1 9504) ∧ ∀ n2 : Int32, n2 = ((I 92 n1.toNatClampNeg) + x6) → ∀ n3 : Int32, n3 = ((x7 + (x11 * (I 91 4))) + x9) → (vp_in n3 9504) ∧ (((I 92 n3.toNatClampNeg) ≤ n2 → sm_wp sm_P S (d + 1) 256 21 [.ref 91, .int x6, .int x7, .int x8, .int x9, .int x10, .int (x11 + (1 : Int32))] [] (xLay, I, L, (kR 91 R)) (0, 0) Φ) ∧ (¬ (I 92 n3.toNatClampNeg) ≤ n2 → sm_wp sm_P S d 257 0 [.ref 91, .int (x7 + (x11 * (I 91 4))), .int n2, .int x10] [] (xLay, I, L, (kR 91 R)) (0, 0) (fun z => ∃ (I4 : sm_I) (L5 : sm_L), z = (none, (xLay, I4, L5, (kR 91 R))) ∧ sm_wp sm_P S (d + 1) 256 21 [.ref 91, .int x6, .int x7, .int x8, .int x9, .int x10, .int (x11 + (1 : Int32))] [] (xLay, I4, L5, (kR 91 R)) (0, 0) Φ)))))) : sm_wp sm_P S (d + 1) 256 21 [.ref 91, .int x6, .int x7, .int x8, .int x9, .int x10, .int x11] [] (xLay, I, L, (kR 91 R)) (0, 0) Φ := sm_wp_step (⟨fun q9 => ⟨Or.inr rfl, ((h).1 q9)⟩, fun q9 => ⟨((((h).2 q9) _ rfl)).1, ⟨(((((((h).2 q9) _ rfl)).2 _ rfl) _ rfl)).1, ⟨fun q8 => (((((((((h).2 q9) _ rfl)).2 _ rfl) _ rfl)).2).1 q8), fun q8 => sm_cv0 ((((((((((h).2 q9) _ rfl)).2 _ rfl) _ rfl)).2).2 q8)) (fun I4 L5 q7 => q7)⟩⟩⟩⟩)
theorem k0_back_0 {S : sm_C} {d : Nat} {Φ : sm_Z → Prop} {I : sm_I} {L : sm_L} {R : sm_R} {x1 : Int32} (h : ((x1 < 0 → Φ (some (.int (-1 : Int32)), (xLay, I, L, R))) ∧ (¬ x1 < 0 → ((x1 ≤ (I 0 10) → ∀ I1 : sm_I, I1 = (sm_up I 0 10 ((I 0 10) - x1)) → Φ (some (.int (I1 0 10)), (xLay, I1, L, R))) ∧ (¬ x1 ≤ (I 0 10) → Φ (some (.int (-1 : Int32)), (xLay, I, L, R))))))) : sm_wp sm_P S d 30 0 [.ref 0, .int x1] [] (xLay, I, L, R) (0, 0) Φ := sm_wp_step (⟨fun q3 => ((h).1 q3), fun q3 => ⟨fun q2 => (((((h).2 q3)).1 q2) _ rfl), fun q2 => ((((h).2 q3)).2 q2)⟩⟩)
end
section
/-! contracts proved by hand -/
def klc_0 : en_Ct := (256, [(2, 75, 0), (0, -10, 1100), (0, -2147483648, 2147483647), (0, -2147483648, 2147483647), (0, -2147483648, 2147483647)], [], (0, 0, 1), [(76, [])], 2)
def klc_2 : en_Ct := (248, [(2, 75, 0), (0, -10, 1100)], [], (9, 0, 0), [(76, [])], 2)
def klc_20 : en_Ct := (255, [(2, 75, 0), (0, -10, 1100), (0, -2147483648, 2147483647), (0, -2147483648, 2147483647)], [], (0, -2147483648, 2147483647), [], 2)
def klc_86 : en_Ct := (247, [(2, 75, 0), (0, -2147483648, 2147483647)], [], (9, 0, 0), [(75, [4, 5]), (76, []), (77, []), (78, []), (79, [])], 0)
def klc_90 : en_Ct := (256, [(2, 83, 0), (0, -10, 1100), (0, -2147483648, 2147483647), (0, -2147483648, 2147483647), (0, -2147483648, 2147483647)], [], (0, 0, 1), [(84, [])], 2)
def klc_92 : en_Ct := (247, [(2, 83, 0), (0, -2147483648, 2147483647)], [], (9, 0, 0), [(83, [4, 5]), (84, []), (85, []), (86, []), (87, [])], 0)
def klc_93 : en_Ct := (254, [(2, 83, 0), (0, -2147483648, 2147483647), (0, -2147483648, 2147483647), (0, -2147483648, 2147483647), (0, -2147483648, 2147483647)], [], (9, 0, 0), [(85, []), (86, []), (87, [])], 1)
def klc_97 : en_Ct := (256, [(2, 91, 0), (0, -10, 1100), (0, -2147483648, 2147483647), (0, -2147483648, 2147483647), (0, -2147483648, 2147483647)], [], (0, 0, 1), [(92, [])], 2)
def klc_99 : en_Ct := (247, [(2, 91, 0), (0, -2147483648, 2147483647)], [], (9, 0, 0), [(91, [4, 5]), (92, []), (93, []), (94, []), (95, [])], 0)
def klc_105 : en_Ct := (248, [(2, 83, 0), (0, -10, 1100)], [], (9, 0, 0), [(84, [])], 2)
def klc_113 : en_Ct := (255, [(2, 83, 0), (0, -10, 1100), (0, -2147483648, 2147483647), (0, -2147483648, 2147483647)], [], (0, -2147483648, 2147483647), [], 2)
def klc_117 : en_Ct := (255, [(2, 91, 0), (0, -10, 1100), (0, -2147483648, 2147483647), (0, -2147483648, 2147483647)], [], (0, -2147483648, 2147483647), [], 2)
def klc_120 : en_Ct := (248, [(2, 91, 0), (0, -10, 1100)], [], (9, 0, 0), [(92, [])], 2)
def klc_211 : en_Ct := (30, [(2, 0, 0), (0, -2147483648, 2147483647)], [], (0, -1, 2000), [(0, [10])], 0)
end
section
/-! sums and products that fit, and worlds in which one cell has changed -/
theorem kl_add {x y : Int32} (h1 : -2147483648 ≤ x.toInt + y.toInt) (h2 : x.toInt + y.toInt ≤ 2147483647) : (x + y).toInt = x.toInt + y.toInt := by
  rw [Int32.toInt_add]; exact en_bmod h1 h2 (Or.inl rfl)
theorem kl_mul {x y : Int32} (h1 : -2147483648 ≤ x.toInt * y.toInt) (h2 : x.toInt * y.toInt ≤ 2147483647) : (x * y).toInt = x.toInt * y.toInt := by
  rw [Int32.toInt_mul]; exact en_bmod h1 h2 (Or.inl rfl)
theorem kl_lt {x y : Int32} : x < y ↔ x.toInt < y.toInt := Int32.lt_iff_toInt_lt
theorem kl_le {x y : Int32} : x ≤ y ↔ x.toInt ≤ y.toInt := Int32.le_iff_toInt_le
theorem kl_0 : (0 : Int32).toInt = 0 := by decide
theorem kl_1 : (1 : Int32).toInt = 1 := by decide
theorem kl_nat {i : Int32} (h : 0 ≤ i.toInt) : (i.toNatClampNeg : Int) = i.toInt := by
  show ((i.toInt.toNat : Nat) : Int) = i.toInt
  omega
theorem kl_in {i : Int32} {n : Nat} (h0 : 0 ≤ i.toInt) (h1 : i.toInt < n) : vp_in i n := by
  have h := kl_nat h0
  show ¬ (i < 0 ∨ n ≤ i.toNatClampNeg)
  rw [kl_lt, kl_0]
  omega
theorem kl_row {p N : Int} (h0 : 0 ≤ p) (h1 : p < N) : 0 ≤ p * N ∧ p * N + N ≤ N * N := by
  refine ⟨Int.mul_nonneg h0 (by omega), ?_⟩
  have h := Int.mul_le_mul_of_nonneg_right (show p + 1 ≤ N by omega) (show 0 ≤ N by omega)
  rw [Int.add_mul] at h; omega
theorem kl_sq {N : Int} (h0 : 1 ≤ N) (h1 : N ≤ 12) : 1 ≤ N * N ∧ N * N ≤ 144 ∧ N ≤ N * N := by
  have a := Int.mul_le_mul h1 h1 (by omega) (by omega)
  have b := Int.mul_le_mul h0 h0 (by omega) (by omega)
  have c := Int.mul_le_mul_of_nonneg_right h0 (show 0 ≤ N by omega)
  omega
theorem kl_pr {x A : Int} (h0 : 0 ≤ x) (h1 : x ≤ 1101) (a0 : 1 ≤ A) (a1 : A ≤ 144) : 0 ≤ x * A ∧ x * A ≤ 158544 := by
  have a := Int.mul_le_mul h1 a1 (by omega) (by omega)
  exact ⟨Int.mul_nonneg h0 (by omega), by omega⟩
theorem kl_lev {x A : Int32} (h0 : 0 ≤ x.toInt) (h1 : x.toInt ≤ 1101) (a0 : 1 ≤ A.toInt) (a1 : A.toInt ≤ 144) : (x * A).toInt = x.toInt * A.toInt ∧ ((x + 1) * A).toInt = x.toInt * A.toInt + A.toInt ∧ (x + 1).toInt = x.toInt + 1 := by
  have p := kl_pr h0 h1 a0 a1
  have s : (x + 1).toInt = x.toInt + 1 := by rw [kl_add (by rw [kl_1]; omega) (by rw [kl_1]; omega), kl_1]
  have m : (x.toInt + 1) * A.toInt = x.toInt * A.toInt + A.toInt := by rw [Int.add_mul]; omega
  refine ⟨kl_mul (by omega) (by omega), ?_, s⟩
  rw [kl_mul (by rw [s, m]; omega) (by rw [s, m]; omega), s, m]
/-- a net's numbers -/
def kl_nb (I : sm_I) (p : Nat) : Prop := 1 ≤ (I p 4).toInt ∧ (I p 4).toInt ≤ 12 ∧ (I p 5).toInt = (I p 4).toInt * (I p 4).toInt
theorem kl_nbA {I : sm_I} {p : Nat} (h : kl_nb I p) : 1 ≤ (I p 5).toInt ∧ (I p 5).toInt ≤ 144 ∧ (I p 4).toInt ≤ (I p 5).toInt := by
  have q := kl_sq h.1 h.2.1
  rw [h.2.2]; exact q
/-- nothing else than one cell -/
def kl_only (a : Nat) (I I' : sm_I) : Prop := ∀ c j, c ≠ a → I' c j = I c j
theorem kl_only_rf {a : Nat} {I : sm_I} : kl_only a I I := fun _ _ _ => rfl
theorem kl_only_tr {a : Nat} {I I1 I2 : sm_I} (h1 : kl_only a I I1) (h2 : kl_only a I1 I2) : kl_only a I I2 := fun c j h => (h2 c j h).trans (h1 c j h)
theorem kl_only_up {a j : Nat} {x : Int32} {I : sm_I} : kl_only a I (sm_up I a j x) := fun c k h => by unfold sm_up; rw [if_neg h]
theorem kl_only_row {a : Nat} {g : Nat → Int32} {I : sm_I} : kl_only a I (sm_row I a g) := fun c k h => by unfold sm_row; simp [h]
theorem kl_only_nb {a p : Nat} {I I' : sm_I} (h : kl_only a I I') (ha : p ≠ a) (hn : kl_nb I p) : kl_nb I' p := by
  unfold kl_nb; rw [h p 4 ha, h p 5 ha]; exact hn
/-- a cell of any numbers may change -/
theorem kl_net_cg {I I' : sm_I} {p q : Nat} (h4 : I' p 4 = I p 4) (h5 : I' p 5 = I p 5) (h6 : ∀ i, I' q i = I q i) (h : kl_net I p q) : kl_net I' p q := by
  refine ⟨by rw [h4, h5]; exact h.1, ?_⟩
  intro i hi
  rw [h4] at hi ⊢
  rw [h6]; exact h.2 i hi
theorem kl_mem_only {a : Nat} {lay : List (Nat × Nat)} {I I' : sm_I} {L L' : sm_L} {R : sm_R} (hm : en_mem kl_tb klX (lay, I, L, R)) (ho : kl_only a I I') (ha : ∀ j q, en_int kl_tb a j = some q → q = (-2147483648, 2147483647)) (hn : 75 ≠ a ∧ 77 ≠ a ∧ 83 ≠ a ∧ 85 ≠ a ∧ 91 ≠ a ∧ 93 ≠ a) (hL : ∀ j, L' 114 j = L 114 j := by intro _; rfl) : en_mem kl_tb klX (lay, I', L', R) := by
  refine ⟨hm.1, ?_, hm.2.2.1, hm.2.2.2.1, hm.2.2.2.2.1, ?_, ?_, ?_, pk_cg hL hm.2.2.2.2.2.2.2.2⟩
  · intro p j q hq
    by_cases e : p = a
    · subst e; rw [ha j q hq]; exact en_crange
    · have := hm.2.1 p j q hq
      show q.1 ≤ (I' p j).toInt ∧ (I' p j).toInt ≤ q.2
      rw [ho p j e]; exact this
  · exact kl_net_cg (ho _ _ hn.1) (ho _ _ hn.1) (fun _ => ho _ _ hn.2.1) hm.2.2.2.2.2.1
  · exact kl_net_cg (ho _ _ hn.2.2.1) (ho _ _ hn.2.2.1) (fun _ => ho _ _ hn.2.2.2.1) hm.2.2.2.2.2.2.1
  · exact kl_net_cg (ho _ _ hn.2.2.2.2.1) (ho _ _ hn.2.2.2.2.1) (fun _ => ho _ _ hn.2.2.2.2.2) hm.2.2.2.2.2.2.2.1
theorem kl_fr_only {a : Nat} {lay : List (Nat × Nat)} {I I' : sm_I} {L L' : sm_L} {R : sm_R} (ho : kl_only a I I') : en_fr [(a, [])] (lay, I, L, R) (lay, I', L', R) := by
  refine ⟨rfl, fun p j h => ⟨?_, rfl⟩⟩
  refine ho p j (fun e => ?_)
  subst e
  have : en_wok [(p, [])] p j = true := by simp [en_wok]
  rw [this] at h; cases h
end
