section
section SmCalls
variable {base : Nat} {ct : Nat → ClassId} {tt : Nat → Nat} {D : va_G} {S : sm_C} {M : sm_M} {d : Nat} {p : Program} {l : Launch} {e : Env} {R : Room} {s : State} {m : MethodId} {args : Array Value} {below : List Frame} {meth : Method} {c : Code} {Q : State → Prop}
variable {pc : Nat} {lv lv' : sm_V} {st st' r : List Value} {lay : List (Nat × Nat)} {me : sm_Y} {w : sm_W} {cs : Nat × Nat} {ops : List Nat} {z : sm_Z} {P : Nat → sm_M}
theorem sm_Aq {q : Nat} (hb : base ≤ s.heap.size) (h : s.heap.size ≤ q) : sm_A base q := Nat.le_trans hb h
/-- the address of a new cell -/
theorem sm_newq {H1 : Heap} {q n : Nat} {x : va_E} (hD : va_D (sm_A base) (sm_ws base ct tt w ++ [(q, x)])) (hP : va_P D vwCl (sm_ws base ct tt w ++ [(q, x)]) H1) (hz : H1.size ≤ base + w.1.length + 1) : q = base + w.1.length := by
  have hlen : (sm_ws base ct tt w).length = w.1.length := by simp [sm_ws]
  have hq : (sm_ws base ct tt w ++ [(q, x)])[w.1.length]? = some (q, x) := by
    rw [List.getElem?_append_right (by omega), hlen, Nat.sub_self]; rfl
  have h1 : base ≤ q := hD.2 _ _ hq
  have h2 : q < H1.size := (hP _ _ hq).lt
  rcases Nat.lt_or_ge q (base + w.1.length) with h | h
  · have hk : q - base < w.1.length := by omega
    have hg : (sm_ws base ct tt w ++ [(q, x)])[q - base]? = some (sm_E base ct tt w (q - base) w.1[q - base]) := by
      rw [List.getElem?_append_left (by omega), sm_ws_get, List.getElem?_eq_getElem hk]; rfl
    have := hD.1 _ _ _ _ hq hg (by show q = base + (q - base); omega)
    omega
  · omega
theorem sm_sizedX {H1 : Heap} {locs : List Loc} {g : JFrame} {n : Nat} {cells slots : Nat} (hz : s.heap.size + cells = n) (k : H1.size ≤ n → W p l e R s m args below meth c H1 locs cells slots Q g) : W p l e R s m args below meth c H1 locs cells slots Q g := by
  intro T hT X
  have h1 := X.heapSize
  rw [hT] at h1
  exact k (by omega) T hT X
set_option maxHeartbeats 4000000 in
theorem sm_k_new (cf : sm_CF) (hX : sm_X base ct tt D S M d p R s m args meth c) {x ci p1 p2 p3 : Nat} (hd : decode M.2.1 pc = .ok (.new x, 3)) (ho : sm_okN M x ci p1 p2 p3 = true) (hg : ¬ (1000 ≤ lay.length ∨ M.2.2.2.2.2.1 < cs.1 + 1 ∨ M.2.2.2.2.2.2.1 < cs.2 + sm_N ci))
    (kk : sm_TW base ct tt D M p l e R s m args below meth c Q (pc + 3) lv (.ref lay.length :: st) (lay ++ [(0, ci)], sm_row me.1 lay.length (fun _ => 0), me.2.1, sm_row me.2.2 lay.length (fun _ => none)) (cs.1 + 1, cs.2 + sm_N ci)) : sm_TW base ct tt D M p l e R s m args below meth c Q pc lv st (lay, me) cs := by
  obtain ⟨hx, hb, hml, hown, hts, hnm, hfr, hlo, hce, hsl, hG⟩ := hX
  unfold sm_okN at ho
  split at ho
  · next C T N hc =>
    simp only [Bool.and_eq_true] at ho
    obtain ⟨c1, c2, c3, c4, c5⟩ := cf ci C T N hc
    intro H locs ls hl hP hS hz hn hcs
    have hfs : ∀ j, j < N → defaultValue (sm_fty ci j) = vp_V (sm_fs base tt (lay ++ [(0, ci)], sm_row me.1 lay.length (fun _ => 0), me.2.1, sm_row me.2.2 lay.length (fun _ => none)) ci lay.length) j := by
      intro j hj
      obtain ⟨k0, k2, k1, k3⟩ := c5 j hj
      have e1 : vp_V (sm_fs base tt (lay ++ [(0, ci)], sm_row me.1 lay.length (fun _ => 0), me.2.1, sm_row me.2.2 lay.length (fun _ => none)) ci lay.length) j = sm_fv base tt (lay ++ [(0, ci)], sm_row me.1 lay.length (fun _ => 0), me.2.1, sm_row me.2.2 lay.length (fun _ => none)) ci lay.length j := by
        simp [vp_V, List.getD, sm_fs_get (show j < sm_N ci by rw [c4]; exact hj)]
      rw [e1]
      rcases (show sm_cd ci j = 0 ∨ sm_cd ci j = 1 ∨ sm_cd ci j = 2 by omega) with h | h | h
      · rw [k0 h]; simp [sm_fv, h, sm_row]; rfl
      · rcases k1 h with ⟨n, e⟩ | ⟨n, e⟩ <;> (rw [e]; simp [sm_fv, h, sm_row, sm_rv, sm_cv]; rfl)
      · rw [k2 h]; simp [sm_fv, h, sm_row]; rfl
    rw [c4] at hg kk
    refine va_new hx hb hts c1 (sm_fty ci) c2 hown (hts _ (sm_has_in ho.1.1)) (hts _ (sm_has_in ho.1.2)) (hts _ (sm_has_in ho.2)) hG.1 hP (sm_D _) hS (fun q h => sm_Aq hG.2.1 h) hc hfs (by omega) (by omega) hd (fun q H1 hP1 hD1 hS1 => ?_)
    refine sm_sizedX (n := base + lay.length + 1) (by have : s.heap.size + cs.1 = base + lay.length := hz; omega) (fun hsz => ?_)
    have hq := sm_newq (w := (lay, me)) (n := 0) hD1 hP1 hsz
    have hq : q = base + lay.length := hq
    subst hq
    have hpush := sm_push (base := base) (ct := ct) (tt := tt) (lay := lay) (m := me) (m' := (sm_row me.1 lay.length (fun _ => 0), me.2.1, sm_row me.2.2 lay.length (fun _ => none))) (q := (0, ci)) (fun k hk u => by apply sm_E_new <;> simp [sm_row, Nat.ne_of_lt hk])
    have hP2 : va_P D vwCl (sm_ws base ct tt (lay ++ [(0, ci)], sm_row me.1 lay.length (fun _ => 0), me.2.1, sm_row me.2.2 lay.length (fun _ => none))) H1 := by
      rw [hpush]; exact hP1
    have k1 := kk H1 locs ls hl hP2 hS1 (by show s.heap.size + (cs.1 + 1) = base + (lay ++ [(0, ci)]).length; have : s.heap.size + cs.1 = base + lay.length := hz; simp; omega) (by show (lay ++ [(0, ci)]).length ≤ 1000; simp; omega) ⟨by show cs.1 + 1 ≤ _; omega, by show cs.2 + N ≤ _; omega⟩
    have e2 : (Value.ref lay.length :: st).map (sm_cv base tt) = Value.ref (base + lay.length) :: st.map (sm_cv base tt) := by
      show Value.ref (sm_ad base tt lay.length) :: _ = _
      rw [sm_ad_w (by omega)]
    rw [e2] at k1
    exact k1
  · cases ho
theorem sm_comp {t : Nat} (h : t < 4) : componentBytes (sm_ty t) ≤ 8 := by
  match t, h with
  | 0, _ => decide
  | 1, _ => decide
  | 2, _ => decide
  | 3, _ => decide
set_option maxHeartbeats 4000000 in
theorem sm_k_newa (hX : sm_X base ct tt D S M d p R s m args meth c) {at' : ArrayType} {t pos : Nat} {n : Int32} (hd : decode M.2.1 pc = .ok (.newarray at', 2)) (ho : sm_okA M at' t pos = true) (hg : ¬ (n < 0 ∨ 100000 < n.toNatClampNeg ∨ 1000 ≤ lay.length ∨ M.2.2.2.2.2.1 < cs.1 + 1 ∨ M.2.2.2.2.2.2.1 < cs.2 + n.toNatClampNeg))
    (kk : sm_TW base ct tt D M p l e R s m args below meth c Q (pc + 2) lv (.ref lay.length :: r) (lay ++ [(t + 1, n.toNatClampNeg)], sm_row me.1 lay.length (fun _ => 0), sm_row me.2.1 lay.length (fun _ => 0), me.2.2) (cs.1 + 1, cs.2 + n.toNatClampNeg)) : sm_TW base ct tt D M p l e R s m args below meth c Q pc lv (.int n :: r) (lay, me) cs := by
  obtain ⟨hx, hb, hml, hown, hts, hnm, hfr, hlo, hce, hsl, hG⟩ := hX
  simp only [sm_okA, Bool.and_eq_true, decide_eq_true_eq] at ho
  obtain ⟨⟨ht, hty⟩, hpos⟩ := ho
  intro H locs ls hl hP hS hz hn hcs
  have hcomp := sm_comp ht
  refine va_newa (a0 := (n.toNatClampNeg, if t = 3 then .inr (.inl (fun _ => 0)) else .inl (fun _ => 0))) hx hb (hts _ (sm_has_in hpos)) hty hG.1 hP (sm_D _) hS (fun q h => sm_Aq hG.2.1 h) (fun cA => ?_) (fun q => hg (Or.inl q)) rfl ?_ (by omega) (by omega) hd (fun q cA H1 hK1 hP1 hD1 hS1 => ?_)
  · match t, ht with
    | 0, _ => rfl
    | 1, _ => rfl
    | 2, _ => rfl
    | 3, _ => rfl
  · have h1 : n.toNatClampNeg ≤ 100000 := by omega
    exact Nat.le_trans (Nat.mul_le_mul h1 hcomp) (by decide)
  · have hcA : cA = ct t := by
      have h1 := (hK1.2 4 (cA, sm_ty t) rfl).2
      have h2 : ∃ ty, (sm_tys ct)[t]? = some (ct t, ty) ∧ ty = sm_ty t := by
        match t, ht with
        | 0, _ => exact ⟨_, rfl, rfl⟩
        | 1, _ => exact ⟨_, rfl, rfl⟩
        | 2, _ => exact ⟨_, rfl, rfl⟩
        | 3, _ => exact ⟨_, rfl, rfl⟩
      obtain ⟨ty, h3, rfl⟩ := h2
      have h4 := (hG.1.2 t _ h3).2
      match t, ht, h1, h4 with
      | 0, _, h1, h4 => exact Option.some.inj (h1.symm.trans h4)
      | 1, _, h1, h4 => exact Option.some.inj (h1.symm.trans h4)
      | 2, _, h1, h4 => exact Option.some.inj (h1.symm.trans h4)
      | 3, _, h1, h4 => exact Option.some.inj (h1.symm.trans h4)
    subst hcA
    refine sm_sizedX (n := base + lay.length + 1) (by have : s.heap.size + cs.1 = base + lay.length := hz; omega) (fun hsz => ?_)
    have hq := sm_newq (w := (lay, me)) (n := 0) hD1 hP1 hsz
    have hq : q = base + lay.length := hq
    subst hq
    have hpush := sm_push (base := base) (ct := ct) (tt := tt) (lay := lay) (m := me) (m' := (sm_row me.1 lay.length (fun _ => 0), sm_row me.2.1 lay.length (fun _ => 0), me.2.2)) (q := (t + 1, n.toNatClampNeg)) (fun k hk u => by apply sm_E_new <;> simp [sm_row, Nat.ne_of_lt hk])
    have hP2 : va_P D vwCl (sm_ws base ct tt (lay ++ [(t + 1, n.toNatClampNeg)], sm_row me.1 lay.length (fun _ => 0), sm_row me.2.1 lay.length (fun _ => 0), me.2.2)) H1 := by
      rw [hpush]
      have e3 : (sm_E base ct tt (lay ++ [(t + 1, n.toNatClampNeg)], sm_row me.1 lay.length (fun _ => 0), sm_row me.2.1 lay.length (fun _ => 0), me.2.2) lay.length (t + 1, n.toNatClampNeg)).2 = .inl (ct t, n.toNatClampNeg, if t = 3 then .inr (.inl (fun _ => 0)) else .inl (fun _ => 0)) := by
        simp [sm_E, sm_row]
      rw [e3]; exact hP1
    have k1 := kk H1 locs ls hl hP2 hS1 (by show s.heap.size + (cs.1 + 1) = base + (lay ++ [(t + 1, n.toNatClampNeg)]).length; have : s.heap.size + cs.1 = base + lay.length := hz; simp; omega) (by show (lay ++ [(t + 1, n.toNatClampNeg)]).length ≤ 1000; simp; omega) ⟨by show cs.1 + 1 ≤ _; omega, by show cs.2 + n.toNatClampNeg ≤ _; omega⟩
    have e2 : (Value.ref lay.length :: r).map (sm_cv base tt) = Value.ref (base + lay.length) :: r.map (sm_cv base tt) := by
      show Value.ref (sm_ad base tt lay.length) :: _ = _
      rw [sm_ad_w (by omega)]
    rw [e2] at k1
    exact k1
end SmCalls
end
section
theorem sm_okM_of {P : Nat → sm_M} {M : sm_M} (h : sm_okM P M = true) : plainName M.1.cls = true ∧ (M.1.cls ≠ "java/lang/invoke/MethodHandle" ∧ M.1.cls ≠ "java/lang/invoke/VarHandle" ∧ (parseMethodDescriptor M.1.desc).map (fun d => d.parameters.length) = some M.2.2.2.2.1) ∧ M.2.2.1 ≤ 60 ∧ (∃ B, (sm_blks M)[0]? = some B ∧ B.1 = 0) ∧ ∀ B ∈ sm_blks M, sm_okL P M B.2.2.1 B.2.2.2 B.1 = true := by
  unfold sm_okM at h
  simp only [Bool.and_eq_true, decide_eq_true_eq] at h
  obtain ⟨⟨⟨⟨⟨⟨h1, h2⟩, h3⟩, h6⟩, h7⟩, h8⟩, h9⟩ := h
  refine ⟨h1, ⟨h2, h3, h6⟩, h7, ?_, List.all_eq_true.mp h9⟩
  split at h8
  · next B e => exact ⟨B, e, of_decide_eq_true h8⟩
  · cases h8
theorem sm_gI2 {M : sm_M} (h : Cond.code M.1 M.2.1 M.2.2.1 M.2.2.2.1 ∈ sm_wl) : GoodIn sm_wl (sm_mw M) := fun w hw => by
  rcases List.mem_cons.mp hw with rfl | hw
  · exact ⟨h, sm_wl_good h⟩
  · exact ⟨hw, sm_wl_good hw⟩
theorem sm_rc_of {ci n : Nat} {lay : List (Nat × Nat)} {st : List Value} (h : sm_rc 1 ci lay st n = true) : ∃ X b rest, st = X ++ .ref b :: rest ∧ X.length = n ∧ lay[b]? = some (0, ci) := by
  unfold sm_rc at h
  split at h
  · next hh => cases hh
  · split at h
    · next b rest e =>
      split at h
      · next c' e2 =>
        have hc := of_decide_eq_true h
        subst hc
        refine ⟨st.take n, b, rest, ?_, ?_, e2⟩
        · rw [← e, List.take_append_drop]
        · have hl : n < st.length := by
            rcases Nat.lt_or_ge n st.length with q | q
            · exact q
            · rw [List.drop_eq_nil_of_le q] at e; cases e
          simp; omega
      · cases h
    · cases h
section SmRun
variable {base : Nat} {ct : Nat → ClassId} {tt : Nat → Nat} {D : va_G} {S : sm_C} {M : sm_M} {d : Nat} {p : Program} {l : Launch} {e : Env} {R : Room} {s : State} {m : MethodId} {args : Array Value} {below : List Frame} {meth : Method} {c : Code} {Q : State → Prop}
variable {pc : Nat} {lv lv' : sm_V} {st st' r : List Value} {lay : List (Nat × Nat)} {me : sm_Y} {w : sm_W} {cs : Nat × Nat} {ops : List Nat} {z z' : sm_Z} {P : Nat → sm_M}
theorem sm_tl (o : Option Value) (r : List Value) : (o.map (sm_cv base tt)).toList ++ r.map (sm_cv base tt) = (o.toList ++ r).map (sm_cv base tt) := by
  cases o <;> simp
set_option maxHeartbeats 4000000 in
theorem sm_k_V (okP : ∀ f, sm_OK P (P f)) (hX : sm_X base ct tt D S M (d + 1) p R s m args meth c) {x g ci p1 p2 p3 : Nat} {X rest : List Value} {b : Nat} (hcal : sm_Cal (P g)) (hd : decode M.2.1 pc = .ok (.invokevirtual x, 3)) (ho : sm_okV P M x g 1 ci p1 p2 p3 = true) (hb1 : w.1[b]? = some (0, ci)) (hn1 : X.length = (P g).2.2.2.2.1) (h8 : (rest.map fun v => v.category).sum ≤ 8) (hce1 : cs.1 + (P g).2.2.2.2.2.1 ≤ M.2.2.2.2.2.1) (hsl1 : cs.2 + (P g).2.2.2.2.2.2.1 ≤ M.2.2.2.2.2.2.1)
    (hM : Met l (P g).1 (sm_mw (P g)) (sm_rm d (P g)) (va_Pc ((Value.ref b :: X.reverse).map (sm_cv base tt)) (sm_Pre base ct tt D S w)) (sm_Q base ct tt D z') (P g).2.2.2.2.2.1 (P g).2.2.2.2.2.2.1 (sm_A base)) (hlen : z'.2.1.length = w.1.length + (P g).2.2.2.2.2.1) (hlen2 : z'.2.1.length ≤ 1000)
    (kk : sm_TW base ct tt D M p l e R s m args below meth c Q (pc + 3) lv (z'.1.toList ++ rest) z'.2 (cs.1 + (P g).2.2.2.2.2.1, cs.2 + (P g).2.2.2.2.2.2.1)) : sm_TW base ct tt D M p l e R s m args below meth c Q pc lv (X ++ .ref b :: rest) w cs := by
  obtain ⟨hx, hb, hml, hown, hts, hnm, hfr, hlo, hce, hsl, hG⟩ := hX
  obtain ⟨g1, ⟨g2, g3, g4⟩, g7, -, -⟩ := sm_okM_of (okP g).1
  obtain ⟨g5, g6⟩ := hcal
  unfold sm_okV at ho
  split at ho
  · next C T N hc =>
    simp only [Bool.and_eq_true, decide_eq_true_eq] at ho
    obtain ⟨⟨⟨⟨-, hcls⟩, o1⟩, o2⟩, o3⟩ := ho
    intro H locs ls hl hP hS hz hn hcs
    refine sm_sized hG.2.1 hP hS hz (fun hsz => ?_)
    have hT : GoodIn sm_wl (wsV M.1.cls x C (P g).1 (sm_mw (P g))) := fun u hu => by
      rcases List.mem_append.mp hu with h | h
      · simp only [List.mem_cons, List.not_mem_nil, or_false] at h
        rcases h with rfl | rfl | rfl | rfl
        · exact ⟨sm_has_in o1, sm_wl_good (sm_has_in o1)⟩
        · exact ⟨sm_has_in o2, sm_wl_good (sm_has_in o2)⟩
        · exact ⟨sm_has_in o3, sm_wl_good (sm_has_in o3)⟩
        · rw [← hcls]; exact ⟨g6, sm_wl_good g6⟩
      · exact sm_gI2 g5 u h
    have hatO : (sm_ws base ct tt w)[b]? = some (sm_ad base tt b, .inr (ci, sm_fs base tt w ci b)) := sm_atO (lay := w.1) (m := w.2) hn hb1
    have hst : (F0 m pc ls ((X ++ .ref b :: rest).map (sm_cv base tt))).stack = ((X.reverse).map (sm_cv base tt)).reverse ++ .ref (sm_ad base tt b) :: rest.map (sm_cv base tt) := by
      simp [List.map_reverse]; rfl
    refine sm_after (va_runV (As := (X.reverse).map (sm_cv base tt)) (rest := rest.map (sm_cv base tt)) (b := sm_ad base tt b) (C := C) ⟨hx, hb, hml, hown, hts⟩ hM (cwV (P g).2.2.2.2.1 hts hT rfl rfl rfl ⟨hcls, g2, g3, g4⟩ ⟨by show d + 1 + 1 ≤ R.frames; omega, by show 8 + ((P g).2.2.1 + 11) + (80 * d + 100) ≤ R.locals; omega⟩) ⟨sm_blind, va_recv hG.1 hP hc hatO, fun U hU hW => ⟨rfl, by rw [hU]; exact hsz, hn, by rw [hU]; exact hP, hG.moved hW hU hS⟩⟩ rfl (by simp [hn1]) hl.1 hst (lv_room (by rw [sm_cats]; exact h8)) hd ⟨by omega, by omega⟩) hS (fun H1 locs1 hP1 hS1 => ?_)
    rw [sm_tl]
    exact kk H1 locs1 ls hl hP1 hS1 (by show s.heap.size + (cs.1 + _) = base + z'.2.1.length; rw [hlen]; have : s.heap.size + cs.1 = base + w.1.length := hz; omega) hlen2 ⟨hce1, hsl1⟩
  · cases ho
set_option maxHeartbeats 4000000 in
theorem sm_k_S (okP : ∀ f, sm_OK P (P f)) (hX : sm_X base ct tt D S M (d + 1) p R s m args meth c) {x g nst p1 p2 : Nat} {X rest : List Value} (hcal : sm_Cal (P g)) (hd : decode M.2.1 pc = .ok (.invokestatic x, 3)) (ho : sm_okS P M x g 0 nst p1 p2 = true) (hn1 : X.length = (P g).2.2.2.2.1) (h8 : (rest.map fun v => v.category).sum ≤ 8) (hce1 : cs.1 + (P g).2.2.2.2.2.1 ≤ M.2.2.2.2.2.1) (hsl1 : cs.2 + (P g).2.2.2.2.2.2.1 ≤ M.2.2.2.2.2.2.1)
    (hM : Met l (P g).1 (sm_mw (P g)) (sm_rm d (P g)) (va_Pc ((X.reverse).map (sm_cv base tt)) (sm_Pre base ct tt D S w)) (sm_Q base ct tt D z') (P g).2.2.2.2.2.1 (P g).2.2.2.2.2.2.1 (sm_A base)) (hlen : z'.2.1.length = w.1.length + (P g).2.2.2.2.2.1) (hlen2 : z'.2.1.length ≤ 1000)
    (kk : sm_TW base ct tt D M p l e R s m args below meth c Q (pc + 3) lv (z'.1.toList ++ rest) z'.2 (cs.1 + (P g).2.2.2.2.2.1, cs.2 + (P g).2.2.2.2.2.2.1)) : sm_TW base ct tt D M p l e R s m args below meth c Q pc lv (X ++ rest) w cs := by
  obtain ⟨hx, hb, hml, hown, hts, hnm, hfr, hlo, hce, hsl, hG⟩ := hX
  obtain ⟨g1, ⟨g2, g3, g4⟩, g7, -, -⟩ := sm_okM_of (okP g).1
  obtain ⟨g5, g6⟩ := hcal
  simp only [sm_okS, Bool.and_eq_true, decide_eq_true_eq] at ho
  obtain ⟨⟨-, o1⟩, o2⟩ := ho
  intro H locs ls hl hP hS hz hn hcs
  refine sm_sized hG.2.1 hP hS hz (fun hsz => ?_)
  have hst : (F0 m pc ls ((X ++ rest).map (sm_cv base tt))).stack = ((X.reverse).map (sm_cv base tt)).reverse ++ rest.map (sm_cv base tt) := by
    simp [List.map_reverse]
  have hrm : (sm_rm d (P g)).frames + 1 ≤ R.frames ∧ 8 + ((P g).2.2.1 + 11) + (sm_rm d (P g)).locals ≤ R.locals := ⟨by show d + 1 + 1 ≤ R.frames; omega, by show 8 + ((P g).2.2.1 + 11) + (80 * d + 100) ≤ R.locals; omega⟩
  have hpre : PreS s H (va_Pc ((X.reverse).map (sm_cv base tt)) (sm_Pre base ct tt D S w)) ((X.reverse).map (sm_cv base tt)) := ⟨sm_blind, fun U hU hW => ⟨rfl, by rw [hU]; exact hsz, hn, by rw [hU]; exact hP, hG.moved hW hU hS⟩⟩
  have hgo : ∀ (H1 : Heap) (locs1 : List Loc), va_P D vwCl (sm_ws base ct tt z'.2) H1 → va_S (sm_A base) s.heap H1 locs1 → W p l e R s m args below meth c H1 locs1 (cs.1 + (P g).2.2.2.2.2.1) (cs.2 + (P g).2.2.2.2.2.2.1) Q (F0 m (pc + 3) ls ((z'.1.map (sm_cv base tt)).toList ++ rest.map (sm_cv base tt))) := by
    intro H1 locs1 hP1 hS1
    rw [sm_tl]
    exact kk H1 locs1 ls hl hP1 hS1 (by show s.heap.size + (cs.1 + _) = base + z'.2.1.length; rw [hlen]; have : s.heap.size + cs.1 = base + w.1.length := hz; omega) hlen2 ⟨hce1, hsl1⟩
  by_cases hns : nst = 1
  · rw [if_pos hns] at o1
    have o1 := of_decide_eq_true o1
    have hN := hG.2.2.2.2.2 _ (List.mem_of_getElem? o1)
    exact sm_after (va_runSN (As := (X.reverse).map (sm_cv base tt)) (rest := rest.map (sm_cv base tt)) ⟨hx, hb, hml, hown, hts⟩ hM ⟨va_cnB (P g).2.2.2.2.1 hts (sm_gI2 g5) rfl rfl rfl hN (hts _ g6) ⟨g2, g3, g4⟩ hrm, hts _ (sm_has_in o2), trivial⟩ hpre rfl (by simp [hn1]) hl.1 hst (lv_room (by rw [sm_cats]; exact h8)) hd ⟨by omega, by omega⟩) hS hgo
  · rw [if_neg hns] at o1
    have hT : GoodIn sm_wl (va_wsS M.1.cls x (P g).1 (sm_mw (P g))) := fun u hu => by
      rcases List.mem_append.mp hu with h | h
      · simp only [List.mem_cons, List.not_mem_nil, or_false] at h
        rcases h with rfl | rfl | rfl
        · exact ⟨sm_has_in o1, sm_wl_good (sm_has_in o1)⟩
        · exact ⟨sm_has_in o2, sm_wl_good (sm_has_in o2)⟩
        · exact ⟨g6, sm_wl_good g6⟩
      · exact sm_gI2 g5 u h
    exact sm_after (va_runS (As := (X.reverse).map (sm_cv base tt)) (rest := rest.map (sm_cv base tt)) ⟨hx, hb, hml, hown, hts⟩ hM (va_cwS (P g).2.2.2.2.1 hts hT rfl rfl rfl ⟨g2, g3, g4⟩ hrm) hpre rfl (by simp [hn1]) hl.1 hst (lv_room (by rw [sm_cats]; exact h8)) hd ⟨by omega, by omega⟩) hS hgo
set_option maxHeartbeats 4000000 in
theorem sm_k_P (okP : ∀ f, sm_OK P (P f)) (hX : sm_X base ct tt D S M (d + 1) p R s m args meth c) {x g nst p1 p2 : Nat} {X rest : List Value} {b : Nat} (hcal : sm_Cal (P g)) (hd : decode M.2.1 pc = .ok (.invokespecial x, 3)) (ho : sm_okP P M x g 1 nst p1 p2 = true) (hn1 : X.length = (P g).2.2.2.2.1) (h8 : (rest.map fun v => v.category).sum ≤ 8) (hce1 : cs.1 + (P g).2.2.2.2.2.1 ≤ M.2.2.2.2.2.1) (hsl1 : cs.2 + (P g).2.2.2.2.2.2.1 ≤ M.2.2.2.2.2.2.1)
    (hM : Met l (P g).1 (sm_mw (P g)) (sm_rm d (P g)) (va_Pc ((Value.ref b :: X.reverse).map (sm_cv base tt)) (sm_Pre base ct tt D S w)) (sm_Q base ct tt D z') (P g).2.2.2.2.2.1 (P g).2.2.2.2.2.2.1 (sm_A base)) (hlen : z'.2.1.length = w.1.length + (P g).2.2.2.2.2.1) (hlen2 : z'.2.1.length ≤ 1000)
    (kk : sm_TW base ct tt D M p l e R s m args below meth c Q (pc + 3) lv (z'.1.toList ++ rest) z'.2 (cs.1 + (P g).2.2.2.2.2.1, cs.2 + (P g).2.2.2.2.2.2.1)) : sm_TW base ct tt D M p l e R s m args below meth c Q pc lv (X ++ .ref b :: rest) w cs := by
  obtain ⟨hx, hb, hml, hown, hts, hnm, hfr, hlo, hce, hsl, hG⟩ := hX
  obtain ⟨g1, ⟨g2, g3, g4⟩, g7, -, -⟩ := sm_okM_of (okP g).1
  obtain ⟨g5, g6⟩ := hcal
  simp only [sm_okP, Bool.and_eq_true, decide_eq_true_eq] at ho
  obtain ⟨⟨⟨⟨-, hin⟩, hret⟩, o1⟩, o2⟩ := ho
  intro H locs ls hl hP hS hz hn hcs
  refine sm_sized hG.2.1 hP hS hz (fun hsz => ?_)
  have hst : (F0 m pc ls ((X ++ .ref b :: rest).map (sm_cv base tt))).stack = ((X.reverse).map (sm_cv base tt)).reverse ++ .ref (sm_ad base tt b) :: rest.map (sm_cv base tt) := by
    simp [List.map_reverse]; rfl
  have hwe : sm_mw (P g) = Cond.code (P g).1 (P g).2.1 (P g).2.2.1 none :: sm_wl := by rw [← hret]; rfl
  have hrm : (sm_rm d (P g)).frames + 1 ≤ R.frames ∧ 8 + ((P g).2.2.1 + 11) + (sm_rm d (P g)).locals ≤ R.locals := ⟨by show d + 1 + 1 ≤ R.frames; omega, by show 8 + ((P g).2.2.1 + 11) + (80 * d + 100) ≤ R.locals; omega⟩
  have hpre : PreS s H (va_Pc ((Value.ref b :: X.reverse).map (sm_cv base tt)) (sm_Pre base ct tt D S w)) (.ref (sm_ad base tt b) :: (X.reverse).map (sm_cv base tt)) := ⟨sm_blind, fun U hU hW => ⟨rfl, by rw [hU]; exact hsz, hn, by rw [hU]; exact hP, hG.moved hW hU hS⟩⟩
  have hgo : ∀ (H1 : Heap) (locs1 : List Loc), va_P D vwCl (sm_ws base ct tt z'.2) H1 → va_S (sm_A base) s.heap H1 locs1 → W p l e R s m args below meth c H1 locs1 (cs.1 + (P g).2.2.2.2.2.1) (cs.2 + (P g).2.2.2.2.2.2.1) Q (F0 m (pc + 3) ls ((z'.1.map (sm_cv base tt)).toList ++ rest.map (sm_cv base tt))) := by
    intro H1 locs1 hP1 hS1
    rw [sm_tl]
    exact kk H1 locs1 ls hl hP1 hS1 (by show s.heap.size + (cs.1 + _) = base + z'.2.1.length; rw [hlen]; have : s.heap.size + cs.1 = base + w.1.length := hz; omega) hlen2 ⟨hce1, hsl1⟩
  by_cases hns : nst = 1
  · rw [if_pos hns] at o1
    have o1 := of_decide_eq_true o1
    have hN := hG.2.2.2.2.2 _ (List.mem_of_getElem? o1)
    exact sm_after (va_runIN (As := (X.reverse).map (sm_cv base tt)) (rest := rest.map (sm_cv base tt)) (b := sm_ad base tt b) ⟨hx, hb, hml, hown, hts⟩ hM ⟨va_cnB (P g).2.2.2.2.1 hts (sm_gI2 g5) hwe rfl rfl hN (hts _ g6) ⟨g2, g3, g4⟩ hrm, hin, hts _ (sm_has_in o2)⟩ hpre rfl (by simp [hn1]) hl.1 hst (lv_room (by rw [sm_cats]; exact h8)) hd ⟨by omega, by omega⟩) hS hgo
  · rw [if_neg hns] at o1
    exact sm_after (va_runI (As := (X.reverse).map (sm_cv base tt)) (rest := rest.map (sm_cv base tt)) (b := sm_ad base tt b) ⟨hx, hb, hml, hown, hts⟩ hM (cwI (P g).2.2.2.2.1 hts (sm_gI2 g5) hwe rfl rfl (hts _ g6) (hts _ (sm_has_in o1)) (hts _ (sm_has_in o2)) hin ⟨g2, g3, g4⟩ hrm) hpre rfl (by simp [hn1]) hl.1 hst (lv_room (by rw [sm_cats]; exact h8)) hd ⟨by omega, by omega⟩) hS hgo
end SmRun
end
section
/-! how many cells there are in the end -/
def sm_Ln (M : sm_M) (z : sm_Z) (w : sm_W) (cs : Nat × Nat) : Prop := z.2.1.length + cs.1 = w.1.length + M.2.2.2.2.2.1 ∧ (w.1.length ≤ 1000 → z.2.1.length ≤ 1000)
section SmLen
variable {α : Type} {z : α} {st : List Value} {a b : List Value → Option α}
theorem sm_b1_or {c : ClassFile.Cond} (h : sm_b1 c st a b = some z) : (∃ r, a r = some z) ∨ ∃ r, b r = some z := by
  unfold sm_b1 at h
  split at h
  · cases c <;> (dsimp only at h; split at h <;> first | exact Or.inl ⟨_, h⟩ | exact Or.inr ⟨_, h⟩)
  · cases h
theorem sm_b2_or {c : ClassFile.Cond} (h : sm_b2 c st a b = some z) : (∃ r, a r = some z) ∨ ∃ r, b r = some z := by
  unfold sm_b2 at h
  split at h
  · cases c <;> (dsimp only at h; split at h <;> first | exact Or.inl ⟨_, h⟩ | exact Or.inr ⟨_, h⟩)
  · cases h
theorem sm_bn_or (h : sm_bn st a b = some z) : (∃ r, a r = some z) ∨ ∃ r, b r = some z := by
  unfold sm_bn at h
  split at h
  · exact Or.inl ⟨_, h⟩
  · exact Or.inr ⟨_, h⟩
  · cases h
theorem sm_sw_or {x : Int32} {k : Nat → Option α} {d : Nat} : ∀ {bs : List Nat} {v : Int}, sm_sw x k d v bs = some z → (∃ (j b : Nat), bs[j]? = some b ∧ x.toInt = v + (j : Int) ∧ k b = some z) ∨ ((∀ j : Nat, j < bs.length → ¬ x.toInt = v + (j : Int)) ∧ k d = some z)
  | [], v, h => Or.inr ⟨fun j hj => absurd hj (Nat.not_lt_zero j), h⟩
  | b :: r, v, h => by
    unfold sm_sw at h
    split at h
    · next e => exact Or.inl ⟨0, b, rfl, by simpa using e, h⟩
    · next e =>
      rcases sm_sw_or h with ⟨j, b', h1, h2, h3⟩ | ⟨h1, h2⟩
      · exact Or.inl ⟨j + 1, b', h1, by rw [h2]; push_cast; omega, h3⟩
      · refine Or.inr ⟨fun j hj => ?_, h2⟩
        cases j with
        | zero => simpa using e
        | succ j => have := h1 j (by simpa using hj); push_cast; omega
theorem sm_lo_or {x : Int32} {k : Nat → Option α} {d : Nat} {df : Int} : ∀ {vs : List (Int × Int)} {bs : List Nat}, sm_lo x k d vs bs = some z → (∃ (j b : Nat) (q : Int × Int), bs[j]? = some b ∧ vs[j]? = some q ∧ Op.lookupswitch.offset vs df x.toInt = q.2 ∧ k b = some z) ∨ (Op.lookupswitch.offset vs df x.toInt = df ∧ k d = some z)
  | [], bs, h => Or.inr ⟨rfl, by cases bs <;> exact h⟩
  | v :: vs, [], h => by cases h
  | v :: vs, b :: r, h => by
    unfold sm_lo at h
    split at h
    · next e => exact Or.inl ⟨0, b, v, rfl, rfl, by simp [Op.lookupswitch.offset, e], h⟩
    · next e =>
      have e2 : Op.lookupswitch.offset (v :: vs) df x.toInt = Op.lookupswitch.offset vs df x.toInt := by
        show (if v.1 = x.toInt then v.2 else Op.lookupswitch.offset vs df x.toInt) = _
        rw [if_neg (fun q => e q.symm)]
      rw [e2]
      rcases sm_lo_or (df := df) h with ⟨j, b', q, h1, h2, h3, h4⟩ | h2
      · exact Or.inl ⟨j + 1, b', q, h1, h2, h3, h4⟩
      · exact Or.inr h2
end SmLen
theorem sm_tgs_of {M : sm_M} {pc : Nat} : ∀ {os : List Int} {bs : List Nat}, sm_tgs M pc os bs = true → bs.length = os.length ∧ ∀ (j : Nat) (b : Nat), bs[j]? = some b → ∃ o, os[j]? = some o ∧ sm_tg M pc o b = true
  | [], [], _ => ⟨rfl, fun j b h => by simp at h⟩
  | [], _ :: _, h => by cases h
  | _ :: _, [], h => by cases h
  | o :: os, b :: bs, h => by
    have h : (sm_tg M pc o b && sm_tgs M pc os bs) = true := h
    simp only [Bool.and_eq_true] at h
    obtain ⟨h1, h2⟩ := sm_tgs_of h.2
    refine ⟨by simp [h1], fun j b' hj => ?_⟩
    cases j with
    | zero => cases hj; exact ⟨o, rfl, h.1⟩
    | succ j => exact h2 j b' hj
def sm_isE : Instr → Bool
  | .goto _ => false
  | .ifCond _ _ => false
  | .if_icmp _ _ => false
  | .ifnull _ => false
  | .ifnonnull _ => false
  | .tableswitch _ _ _ _ => false
  | .lookupswitch _ _ => false
  | .ireturn => false
  | .lreturn => false
  | .areturn => false
  | .return_ => false
  | .new _ => false
  | .newarray _ => false
  | _ => true
section SmLen2
variable {P : Nat → sm_M} {S : sm_C} {rec : Nat → Nat → Nat → List Value → List Value → sm_W → Nat × Nat → Option sm_Z} {jmp : Nat → sm_V → List Value → sm_W → Nat × Nat → Option sm_Z} {d fall : Nat} {M : sm_M} {z : sm_Z} {k : sm_V → List Value → sm_W → Nat × Nat → Option sm_Z}
theorem sm_inv_of {rc : List Value → Option sm_Z} {n nL mc ms : Nat} {rb : Bool} {st : List Value} {cs lim : Nat × Nat} {kk : List Value → sm_W → Nat × Nat → Option sm_Z} (h : sm_inv rc n nL mc ms rb st cs lim kk = some z) :
    ∃ z', rb = true ∧ n ≤ st.length ∧ (lg_sl (st.take n).reverse).length ≤ nL ∧ ((st.drop n).map fun v => v.category).sum ≤ 8 ∧ cs.1 + mc ≤ lim.1 ∧ cs.2 + ms ≤ lim.2 ∧ rc (st.take n).reverse = some z' ∧ kk (z'.1.toList ++ st.drop n) z'.2 (cs.1 + mc, cs.2 + ms) = some z := by
  unfold sm_inv at h
  split at h
  · cases h
  · next hc =>
    simp only [not_or, Nat.not_lt, Bool.not_eq_false] at hc
    split at h
    · cases h
    · next z' e => exact ⟨z', hc.1, hc.2.1, hc.2.2.1, hc.2.2.2.1, hc.2.2.2.2.1, hc.2.2.2.2.2, e, h⟩
theorem sm_else_len (hr : ∀ d' g as w' z', rec d' g 0 as [] w' (0, 0) = some z' → sm_Ln (P g) z' w' (0, 0)) {i : Instr} {ops : List Nat} {lv : sm_V} {st : List Value} {w : sm_W} {cs : Nat × Nat} (hk : ∀ lv st w cs, k lv st w cs = some z → sm_Ln M z w cs) (h : sm_else P S rec d M i ops lv st w cs k = some z) : sm_Ln M z w cs := by
  unfold sm_else at h
  split at h
  · split at h
    · cases h
    · obtain ⟨z', -, -, -, -, -, -, h1, h2⟩ := sm_inv_of h
      have l1 := hr _ _ _ _ _ h1
      have l2 := hk _ _ _ _ h2
      obtain ⟨a1, a2⟩ := l1
      obtain ⟨b1, b2⟩ := l2
      simp only [sm_Ln] at *
      exact ⟨by omega, fun q => b2 (a2 q)⟩
  · split at h
    · have h3 := hk _ _ _ _ h
      exact h3
    · cases h
theorem sm_blk_else {i : Instr} {ops : List Nat} {is : List (Instr × List Nat)} {lv : sm_V} {st : List Value} {w : sm_W} {cs : Nat × Nat} (h : sm_isE i = true) : sm_blk P S rec jmp d M fall ((i, ops) :: is) lv st w cs = sm_else P S rec d M i ops lv st w cs (fun lv st w cs => sm_blk P S rec jmp d M fall is lv st w cs) := by
  cases i <;> first | rfl | cases h
set_option maxHeartbeats 4000000 in
theorem sm_blk_len (hr : ∀ d' g as w' z', rec d' g 0 as [] w' (0, 0) = some z' → sm_Ln (P g) z' w' (0, 0)) (hj : ∀ b lv st w cs, jmp b lv st w cs = some z → sm_Ln M z w cs) : ∀ (is : List (Instr × List Nat)) (lv : sm_V) (st : List Value) (w : sm_W) (cs : Nat × Nat), sm_blk P S rec jmp d M fall is lv st w cs = some z → sm_Ln M z w cs := by
  intro is
  induction is with
  | nil => intro lv st w cs h; exact hj _ _ _ _ _ h
  | cons q is ih =>
    obtain ⟨i, ops⟩ := q
    intro lv st w cs h
    cases i with
    | goto off => exact hj _ _ _ _ _ h
    | ifCond c off => rcases sm_b1_or h with ⟨r, h⟩ | ⟨r, h⟩ <;> exact hj _ _ _ _ _ h
    | if_icmp c off => rcases sm_b2_or h with ⟨r, h⟩ | ⟨r, h⟩ <;> exact hj _ _ _ _ _ h
    | ifnull off => rcases sm_bn_or h with ⟨r, h⟩ | ⟨r, h⟩ <;> exact hj _ _ _ _ _ h
    | ifnonnull off => rcases sm_bn_or h with ⟨r, h⟩ | ⟨r, h⟩ <;> exact hj _ _ _ _ _ h
    | tableswitch df lo hi offs =>
      unfold sm_blk at h
      dsimp only at h
      split at h
      · rcases sm_sw_or h with ⟨j, b, -, -, h⟩ | ⟨-, h⟩ <;> exact hj _ _ _ _ _ h
      · cases h
    | lookupswitch df ps =>
      unfold sm_blk at h
      dsimp only at h
      split at h
      · rcases sm_lo_or (df := 0) h with ⟨j, b, q, -, -, -, h⟩ | ⟨-, h⟩ <;> exact hj _ _ _ _ _ h
      · cases h
    | ireturn =>
      unfold sm_blk at h
      dsimp only at h
      split at h
      · split at h
        · next hc =>
          subst hc
          have hw : z.2 = w := by
            split at h
            · split at h
              · cases h; rfl
              · cases h
            · cases h; rfl
          rw [← hw]; exact ⟨rfl, fun q => q⟩
        · cases h
      · cases h
    | lreturn =>
      unfold sm_blk at h
      dsimp only at h
      split at h
      · split at h
        · next hc => subst hc; cases h; exact ⟨rfl, fun q => q⟩
        · cases h
      · cases h
    | areturn =>
      unfold sm_blk at h
      dsimp only at h
      split at h
      · split at h
        · next hc => subst hc; cases h; exact ⟨rfl, fun q => q⟩
        · cases h
      · cases h
    | return_ =>
      unfold sm_blk at h
      dsimp only at h
      split at h
      · split at h
        · next hc => subst hc; cases h; exact ⟨rfl, fun q => q⟩
        · cases h
      · cases h
    | new x =>
      unfold sm_blk at h
      dsimp only at h
      split at h
      · cases h
      · next hc =>
        obtain ⟨h1, h2⟩ := ih _ _ _ _ h
        simp only [List.length_append, List.length_cons, List.length_nil] at h1 h2
        simp only [not_or, Nat.not_le] at hc
        exact ⟨by omega, fun q => h2 (by omega)⟩
    | newarray at' =>
      unfold sm_blk at h
      dsimp only at h
      split at h
      · split at h
        · cases h
        · next hc =>
          obtain ⟨h1, h2⟩ := ih _ _ _ _ h
          simp only [List.length_append, List.length_cons, List.length_nil] at h1 h2
          simp only [not_or, Nat.not_le] at hc
          exact ⟨by omega, fun q => h2 (by omega)⟩
      · cases h
    | _ => rw [sm_blk_else rfl] at h; exact sm_else_len hr ih h
theorem sm_go_len {f : Nat} (hr : ∀ d' g as w' z', rec d' g 0 as [] w' (0, 0) = some z' → sm_Ln (P g) z' w' (0, 0)) (hc : ∀ b vs st w cs, rec d f b vs st w cs = some z → sm_Ln M z w cs) : ∀ (n : Nat) (b : Nat) (lv : sm_V) (st : List Value) (w : sm_W) (cs : Nat × Nat), sm_go P S rec d f M n b lv st w cs = some z → sm_Ln M z w cs := by
  intro n
  induction n with
  | zero => intro b lv st w cs h; cases h
  | succ n ih =>
    intro b lv st w cs h
    unfold sm_go at h
    split at h
    · cases h
    · split at h
      · cases h
      · split at h
        · cases h
        · exact hc _ _ _ _ _ h
      · exact sm_blk_len hr ih _ _ _ _ _ h
theorem sm_run_len : ∀ (n d f b : Nat) (vs st : List Value) (w : sm_W) (cs : Nat × Nat) (z : sm_Z), sm_run P S n d f b vs st w cs = some z → sm_Ln (P f) z w cs
  | 0, _, _, _, _, _, _, _, _, h => by cases h
  | n + 1, d, f, b, vs, st, w, cs, z, h => by
    have h : sm_F P S (sm_run P S n) d f b vs st w cs = some z := h
    unfold sm_F at h
    split at h
    · exact sm_blk_len (fun d' g as w' z' h => sm_run_len n d' g 0 as [] w' (0, 0) z' h) (fun b lv st w cs h => sm_go_len (fun d' g as w' z' h => sm_run_len n d' g 0 as [] w' (0, 0) z' h) (fun b vs st w cs h => sm_run_len n d f b vs st w cs z h) 64 b lv st w cs h) _ _ _ _ _ h
    · cases h
end SmLen2
end
section
/-! the small machine's run is the machine's -/
section SmFin
variable {base : Nat} {ct : Nat → ClassId} {tt : Nat → Nat} {D : va_G} {S : sm_C} {M : sm_M} {d : Nat} {p : Program} {l : Launch} {e : Env} {R : Room} {s : State} {m : MethodId} {args : Array Value} {below : List Frame} {meth : Method} {c : Code} {Q : State → Prop}
variable {pc : Nat} {lv lv' : sm_V} {st st' r : List Value} {lay : List (Nat × Nat)} {me : sm_Y} {w : sm_W} {cs : Nat × Nat} {ops : List Nat} {z z' : sm_Z} {P : Nat → sm_M}
variable {rec : Nat → Nat → Nat → List Value → List Value → sm_W → Nat × Nat → Option sm_Z} {jmp : Nat → sm_V → List Value → sm_W → Nat × Nat → Option sm_Z} {fall : Nat}
theorem sm_i3 {t : Nat} (h : (pc : Int) + 3 = (t : Int)) : t = pc + 3 := by omega
theorem sm_b1_ok (hX : sm_X base ct tt D S M d p R s m args meth c) {c' : ClassFile.Cond} {off : Int} {ta tb : Nat} {a b : List Value → Option sm_Z} (hd : decode M.2.1 pc = .ok (.ifCond c' off, 3)) (hta : (pc : Int) + off = (ta : Int)) (htb : (pc : Int) + 3 = (tb : Int)) (ha : ∀ r, a r = some z → sm_TW base ct tt D M p l e R s m args below meth c Q ta lv r w cs) (hb : ∀ r, b r = some z → sm_TW base ct tt D M p l e R s m args below meth c Q tb lv r w cs) (h : sm_b1 c' st a b = some z) : sm_TW base ct tt D M p l e R s m args below meth c Q pc lv st w cs := by
  have e3 := sm_i3 htb
  subst e3
  unfold sm_b1 at h
  split at h
  · intro H locs ls hl hP hS hz hn hcs
    cases c' <;> dsimp only at h
    · exact lv_if_eq hX.1 hX.2.1 hd hta (fun q => ha _ (by rw [if_pos q] at h; exact h) H locs ls hl hP hS hz hn hcs) (fun q => hb _ (by rw [if_neg q] at h; exact h) H locs ls hl hP hS hz hn hcs)
    · exact lv_if_ne hX.1 hX.2.1 hd hta (fun q => ha _ (by rw [if_neg q] at h; exact h) H locs ls hl hP hS hz hn hcs) (fun q => hb _ (by rw [if_pos q] at h; exact h) H locs ls hl hP hS hz hn hcs)
    · exact lv_if_lt hX.1 hX.2.1 hd hta (fun q => ha _ (by rw [if_pos q] at h; exact h) H locs ls hl hP hS hz hn hcs) (fun q => hb _ (by rw [if_neg q] at h; exact h) H locs ls hl hP hS hz hn hcs)
    · exact lv_if_ge hX.1 hX.2.1 hd hta (fun q => ha _ (by rw [if_pos q] at h; exact h) H locs ls hl hP hS hz hn hcs) (fun q => hb _ (by rw [if_neg q] at h; exact h) H locs ls hl hP hS hz hn hcs)
    · exact lv_if_gt hX.1 hX.2.1 hd hta (fun q => ha _ (by rw [if_pos q] at h; exact h) H locs ls hl hP hS hz hn hcs) (fun q => hb _ (by rw [if_neg q] at h; exact h) H locs ls hl hP hS hz hn hcs)
    · exact lv_if_le hX.1 hX.2.1 hd hta (fun q => ha _ (by rw [if_pos q] at h; exact h) H locs ls hl hP hS hz hn hcs) (fun q => hb _ (by rw [if_neg q] at h; exact h) H locs ls hl hP hS hz hn hcs)
  · cases h
theorem sm_b2_ok (hX : sm_X base ct tt D S M d p R s m args meth c) {c' : ClassFile.Cond} {off : Int} {ta tb : Nat} {a b : List Value → Option sm_Z} (hd : decode M.2.1 pc = .ok (.if_icmp c' off, 3)) (hta : (pc : Int) + off = (ta : Int)) (htb : (pc : Int) + 3 = (tb : Int)) (ha : ∀ r, a r = some z → sm_TW base ct tt D M p l e R s m args below meth c Q ta lv r w cs) (hb : ∀ r, b r = some z → sm_TW base ct tt D M p l e R s m args below meth c Q tb lv r w cs) (h : sm_b2 c' st a b = some z) : sm_TW base ct tt D M p l e R s m args below meth c Q pc lv st w cs := by
  have e3 := sm_i3 htb
  subst e3
  unfold sm_b2 at h
  split at h
  · intro H locs ls hl hP hS hz hn hcs
    cases c' <;> dsimp only at h
    · exact lv_icmp_eq hX.1 hX.2.1 hd hta (fun q => ha _ (by rw [if_pos q] at h; exact h) H locs ls hl hP hS hz hn hcs) (fun q => hb _ (by rw [if_neg q] at h; exact h) H locs ls hl hP hS hz hn hcs)
    · exact lv_icmp_ne hX.1 hX.2.1 hd hta (fun q => ha _ (by rw [if_neg q] at h; exact h) H locs ls hl hP hS hz hn hcs) (fun q => hb _ (by rw [if_pos q] at h; exact h) H locs ls hl hP hS hz hn hcs)
    · exact lv_icmp_lt hX.1 hX.2.1 hd hta (fun q => ha _ (by rw [if_pos q] at h; exact h) H locs ls hl hP hS hz hn hcs) (fun q => hb _ (by rw [if_neg q] at h; exact h) H locs ls hl hP hS hz hn hcs)
    · exact lv_icmp_ge hX.1 hX.2.1 hd hta (fun q => ha _ (by rw [if_pos q] at h; exact h) H locs ls hl hP hS hz hn hcs) (fun q => hb _ (by rw [if_neg q] at h; exact h) H locs ls hl hP hS hz hn hcs)
    · exact lv_icmp_gt hX.1 hX.2.1 hd hta (fun q => ha _ (by rw [if_pos q] at h; exact h) H locs ls hl hP hS hz hn hcs) (fun q => hb _ (by rw [if_neg q] at h; exact h) H locs ls hl hP hS hz hn hcs)
    · exact lv_icmp_le hX.1 hX.2.1 hd hta (fun q => ha _ (by rw [if_pos q] at h; exact h) H locs ls hl hP hS hz hn hcs) (fun q => hb _ (by rw [if_neg q] at h; exact h) H locs ls hl hP hS hz hn hcs)
  · cases h
theorem sm_bnull_ok (hX : sm_X base ct tt D S M d p R s m args meth c) {off : Int} {ta tb : Nat} {a b : List Value → Option sm_Z} (hd : decode M.2.1 pc = .ok (.ifnull off, 3)) (hta : (pc : Int) + off = (ta : Int)) (htb : (pc : Int) + 3 = (tb : Int)) (ha : ∀ r, a r = some z → sm_TW base ct tt D M p l e R s m args below meth c Q ta lv r w cs) (hb : ∀ r, b r = some z → sm_TW base ct tt D M p l e R s m args below meth c Q tb lv r w cs) (h : sm_bn st a b = some z) : sm_TW base ct tt D M p l e R s m args below meth c Q pc lv st w cs := by
  have e3 := sm_i3 htb
  subst e3
  unfold sm_bn at h
  split at h
  · exact fun H locs ls hl hP hS hz hn hcs => lv_ifnullN hX.1 hX.2.1 hd hta (ha _ h H locs ls hl hP hS hz hn hcs)
  · exact fun H locs ls hl hP hS hz hn hcs => lv_ifnull hX.1 hX.2.1 hd (hb _ h H locs ls hl hP hS hz hn hcs)
  · cases h
theorem sm_bnon_ok (hX : sm_X base ct tt D S M d p R s m args meth c) {off : Int} {ta tb : Nat} {a b : List Value → Option sm_Z} (hd : decode M.2.1 pc = .ok (.ifnonnull off, 3)) (hta : (pc : Int) + off = (ta : Int)) (htb : (pc : Int) + 3 = (tb : Int)) (ha : ∀ r, a r = some z → sm_TW base ct tt D M p l e R s m args below meth c Q tb lv r w cs) (hb : ∀ r, b r = some z → sm_TW base ct tt D M p l e R s m args below meth c Q ta lv r w cs) (h : sm_bn st a b = some z) : sm_TW base ct tt D M p l e R s m args below meth c Q pc lv st w cs := by
  have e3 := sm_i3 htb
  subst e3
  unfold sm_bn at h
  split at h
  · exact fun H locs ls hl hP hS hz hn hcs => lv_ifnonnullN hX.1 hX.2.1 hd (ha _ h H locs ls hl hP hS hz hn hcs)
  · exact fun H locs ls hl hP hS hz hn hcs => lv_ifnonnull hX.1 hX.2.1 hd hta (hb _ h H locs ls hl hP hS hz hn hcs)
  · cases h
/-- what a run that was asked for brings -/
def sm_Hr (base : Nat) (ct : Nat → ClassId) (tt : Nat → Nat) (D : va_G) (S : sm_C) (P : Nat → sm_M) (l : Launch) (rec : Nat → Nat → Nat → List Value → List Value → sm_W → Nat × Nat → Option sm_Z) : Prop :=
  ∀ (d' g : Nat) (as : List Value) (w' : sm_W) (z' : sm_Z), (lg_sl as).length ≤ (P g).2.2.1 → w'.1.length ≤ 1000 → rec d' g 0 as [] w' (0, 0) = some z' → (Met l (P g).1 (sm_mw (P g)) (sm_rm d' (P g)) (va_Pc (as.map (sm_cv base tt)) (sm_Pre base ct tt D S w')) (sm_Q base ct tt D z') (P g).2.2.2.2.2.1 (P g).2.2.2.2.2.2.1 (sm_A base)) ∧ sm_Ln (P g) z' w' (0, 0)
set_option maxHeartbeats 4000000 in
theorem sm_else_ok (cf : sm_CF) (okP : ∀ f, sm_OK P (P f)) (hX : sm_X base ct tt D S M d p R s m args meth c) (hr : sm_Hr base ct tt D S P l rec) {i : Instr} {k : sm_V → List Value → sm_W → Nat × Nat → Option sm_Z} (hd : decode M.2.1 pc = .ok (i, sm_ln i)) (ho : sm_okE P M i ops = true) (hk : ∀ lv st w cs, k lv st w cs = some z → sm_TW base ct tt D M p l e R s m args below meth c Q (pc + sm_ln i) lv st w cs) (h : sm_else P S rec d M i ops lv st w cs k = some z) : sm_TW base ct tt D M p l e R s m args below meth c Q pc lv st w cs := by
  unfold sm_else at h
  split at h
  · next g inst ci a1 a2 a3 a4 rs0 =>
    obtain ⟨rs, hrs⟩ : ∃ rs, a1 :: a2 :: a3 :: a4 :: rs0 = rs := ⟨_, rfl⟩
    have ho : sm_okC P M i g inst ci (a1 :: a2 :: a3 :: a4 :: rs0) = true := ho
    rw [hrs] at ho
    have hoo := Bool.and_eq_true_iff.mp ho
    clear ho
    obtain ⟨hcal0, ho⟩ := hoo
    have hcal := (okP g).2 (of_decide_eq_true hcal0)
    cases d with
    | zero => cases h
    | succ d =>
      obtain ⟨z', hrc, hn1, hsl, h8, hc1, hc2, h1, h2⟩ := sm_inv_of h
      by_cases hw : w.1.length ≤ 1000
      · obtain ⟨hM, hL1, hL2⟩ := hr d g _ w z' hsl hw h1
        have hL1 : z'.2.1.length = w.1.length + (P g).2.2.2.2.2.1 := by simpa using hL1
        have kk := hk _ _ _ _ h2
        cases i with
        | invokevirtual x =>
          have ho : sm_okV P M x g inst ci (rs.getD 0 0) (rs.getD 1 0) (rs.getD 2 0) = true := ho
          have hi : inst = 1 := by
            unfold sm_okV at ho
            split at ho
            · simp only [Bool.and_eq_true, decide_eq_true_eq] at ho; exact ho.1.1.1.1
            · cases ho
          subst hi
          obtain ⟨X, b, rest, rfl, hX1, hb1⟩ := sm_rc_of hrc
          have e1 : ((X ++ Value.ref b :: rest).take ((P g).2.2.2.2.1 + 1)).reverse = Value.ref b :: X.reverse := by
            rw [← hX1]; simp [List.take_append, List.take_of_length_le]
          have e2 : (X ++ Value.ref b :: rest).drop ((P g).2.2.2.2.1 + 1) = rest := by
            rw [← hX1]; simp [List.drop_append]
          rw [e1] at hM
          rw [e2] at h8 kk
          exact sm_k_V okP hX hcal hd ho hb1 hX1 h8 hc1 hc2 hM hL1 (hL2 hw) kk
        | invokestatic x =>
          have ho : sm_okS P M x g inst (rs.getD 3 0) (rs.getD 0 0) (rs.getD 1 0) = true := ho
          have hi : inst = 0 := by
            simp only [sm_okS, Bool.and_eq_true, decide_eq_true_eq] at ho; exact ho.1.1
          subst hi
          have e0 : st = st.take ((P g).2.2.2.2.1 + 0) ++ st.drop ((P g).2.2.2.2.1 + 0) := (List.take_append_drop _ _).symm
          rw [e0]
          exact sm_k_S okP hX hcal hd ho (by simp at hn1 ⊢; omega) h8 hc1 hc2 hM hL1 (hL2 hw) kk
        | invokespecial x =>
          have ho : sm_okP P M x g inst (rs.getD 3 0) (rs.getD 0 0) (rs.getD 1 0) = true := ho
          have hi : inst = 1 := by
            simp only [sm_okP, Bool.and_eq_true, decide_eq_true_eq] at ho; exact ho.1.1.1.1
          subst hi
          obtain ⟨X, b, rest, rfl, hX1, hb1⟩ := sm_rc_of hrc
          have e1 : ((X ++ Value.ref b :: rest).take ((P g).2.2.2.2.1 + 1)).reverse = Value.ref b :: X.reverse := by
            rw [← hX1]; simp [List.take_append, List.take_of_length_le]
          have e2 : (X ++ Value.ref b :: rest).drop ((P g).2.2.2.2.1 + 1) = rest := by
            rw [← hX1]; simp [List.drop_append]
          rw [e1] at hM
          rw [e2] at h8 kk
          exact sm_k_P okP hX hcal hd ho hX1 h8 hc1 hc2 hM hL1 (hL2 hw) kk
        | _ => cases ho
      · exact fun H locs ls hl hP hS hz hn hcs => absurd hn hw
  · next hno =>
    have ho : sm_ok1 M i ops = true := by
      unfold sm_okE at ho
      split at ho
      · next g inst ci a1 a2 a3 a4 r => exact absurd rfl (hno g inst ci a1 a2 a3 a4 r)
      · exact ho
    split at h
    · next q e =>
      obtain ⟨lv', st', me'⟩ := q
      exact sm_one_ok (lay := w.1) (me := w.2) cf hX hd ho e (hk _ _ _ _ h)
    · cases h
end SmFin
end
section
section SmMet
variable {base : Nat} {ct : Nat → ClassId} {tt : Nat → Nat} {D : va_G} {S : sm_C} {M : sm_M} {d : Nat} {p : Program} {l : Launch} {e : Env} {R : Room} {s : State} {m : MethodId} {args : Array Value} {below : List Frame} {meth : Method} {c : Code} {Q : State → Prop}
variable {z z' : sm_Z} {P : Nat → sm_M}
variable {rec : Nat → Nat → Nat → List Value → List Value → sm_W → Nat × Nat → Option sm_Z} {jmp : Nat → sm_V → List Value → sm_W → Nat × Nat → Option sm_Z} {fall : Nat}
theorem sm_isI_of {r : Option FieldType} (h : sm_isI r = true) : r = some .int ∨ r = some .boolean := by
  unfold sm_isI at h
  split at h
  · exact Or.inl rfl
  · exact Or.inr rfl
  · cases h
theorem sm_isO_of {r : Option FieldType} (h : sm_isO r = true) : ∃ n, r = some (.object n) := by
  unfold sm_isO at h
  split at h
  · exact ⟨_, rfl⟩
  · cases h
set_option maxHeartbeats 8000000 in
theorem sm_blk_ok (cf : sm_CF) (okP : ∀ f, sm_OK P (P f)) (hX : sm_X base ct tt D S M d p R s m args meth c) (hr : sm_Hr base ct tt D S P l rec) (he : sm_end base ct tt D M p l e R s m args below meth c Q z) (hj : ∀ (b : Nat) (lv : sm_V) (st : List Value) (w : sm_W) (cs : Nat × Nat) (B : sm_B), (sm_blks M)[b]? = some B → jmp b lv st w cs = some z → sm_TW base ct tt D M p l e R s m args below meth c Q B.1 lv st w cs) :
    ∀ (is : List (Instr × List Nat)) (pc : Nat) (lv : sm_V) (st : List Value) (w : sm_W) (cs : Nat × Nat), sm_okL P M fall is pc = true → sm_blk P S rec jmp d M fall is lv st w cs = some z → sm_TW base ct tt D M p l e R s m args below meth c Q pc lv st w cs := by
  intro is
  induction is with
  | nil =>
    intro pc lv st w cs ok h
    have ok : sm_tg M pc 0 fall = true := ok
    obtain ⟨B, hB, e1⟩ := sm_tg_of ok
    have e2 : pc = B.1 := by omega
    rw [e2]
    exact hj _ _ _ _ _ B hB h
  | cons q is ih =>
    obtain ⟨i, ops⟩ := q
    intro pc lv st w cs ok h
    cases i with
    | goto off =>
      have ok : (sm_dec M pc (.goto off) && sm_tg M pc off (ops.getD 0 0)) = true := ok
      simp only [Bool.and_eq_true] at ok
      obtain ⟨B, hB, e1⟩ := sm_tg_of ok.2
      exact fun H locs ls hl hP hS hz hn hcs => lv_goto hX.1 hX.2.1 (sm_dec_of ok.1) e1 (hj _ _ _ _ _ B hB h H locs ls hl hP hS hz hn hcs)
    | ifCond c' off =>
      have ok : (sm_dec M pc (.ifCond c' off) && sm_tg M pc off (ops.getD 0 0) && sm_tg M pc 3 (ops.getD 1 0)) = true := ok
      simp only [Bool.and_eq_true] at ok
      obtain ⟨B, hB, e1⟩ := sm_tg_of ok.1.2
      obtain ⟨B', hB', e2⟩ := sm_tg_of ok.2
      exact sm_b1_ok hX (sm_dec_of ok.1.1) e1 e2 (fun r h => hj _ _ _ _ _ B hB h) (fun r h => hj _ _ _ _ _ B' hB' h) h
    | if_icmp c' off =>
      have ok : (sm_dec M pc (.if_icmp c' off) && sm_tg M pc off (ops.getD 0 0) && sm_tg M pc 3 (ops.getD 1 0)) = true := ok
      simp only [Bool.and_eq_true] at ok
      obtain ⟨B, hB, e1⟩ := sm_tg_of ok.1.2
      obtain ⟨B', hB', e2⟩ := sm_tg_of ok.2
      exact sm_b2_ok hX (sm_dec_of ok.1.1) e1 e2 (fun r h => hj _ _ _ _ _ B hB h) (fun r h => hj _ _ _ _ _ B' hB' h) h
    | ifnull off =>
      have ok : (sm_dec M pc (.ifnull off) && sm_tg M pc off (ops.getD 0 0) && sm_tg M pc 3 (ops.getD 1 0)) = true := ok
      simp only [Bool.and_eq_true] at ok
      obtain ⟨B, hB, e1⟩ := sm_tg_of ok.1.2
      obtain ⟨B', hB', e2⟩ := sm_tg_of ok.2
      exact sm_bnull_ok hX (sm_dec_of ok.1.1) e1 e2 (fun r h => hj _ _ _ _ _ B hB h) (fun r h => hj _ _ _ _ _ B' hB' h) h
    | ifnonnull off =>
      have ok : (sm_dec M pc (.ifnonnull off) && sm_tg M pc off (ops.getD 0 0) && sm_tg M pc 3 (ops.getD 1 0)) = true := ok
      simp only [Bool.and_eq_true] at ok
      obtain ⟨B, hB, e1⟩ := sm_tg_of ok.1.2
      obtain ⟨B', hB', e2⟩ := sm_tg_of ok.2
      exact sm_bnon_ok hX (sm_dec_of ok.1.1) e1 e2 (fun r h => hj _ _ _ _ _ B' hB' h) (fun r h => hj _ _ _ _ _ B hB h) h
    | tableswitch df lo hi offs =>
      unfold sm_okL sm_okI at ok
      simp only [Bool.and_eq_true, decide_eq_true_eq] at ok
      obtain ⟨⟨⟨o1, o2⟩, o3⟩, o4⟩ := ok
      obtain ⟨len, hd⟩ : ∃ len, decode M.2.1 pc = .ok (.tableswitch df lo hi offs, len) := by
        split at o1
        · next j len e => exact ⟨len, by rw [← of_decide_eq_true o1]; exact e⟩
        · cases o1
      obtain ⟨t1, t2⟩ := sm_tgs_of o3
      unfold sm_blk at h
      dsimp only at h
      split at h
      · next x r =>
        rcases sm_sw_or h with ⟨j, b, h1, h2, h3⟩ | ⟨h1, h2⟩
        · obtain ⟨o, ho1, ho2⟩ := t2 j b h1
          obtain ⟨B, hB, e1⟩ := sm_tg_of ho2
          have hjl : j < offs.toList.length := sm_lt ho1
          refine fun H locs ls hl hP hS hz hn hcs => lv_tableIn hX.1 hX.2.1 hd (off := o) (by omega) (by omega) ?_ e1 (hj _ _ _ _ _ B hB h3 H locs ls hl hP hS hz hn hcs)
          have e5 : (x.toInt - lo).toNat = j := by omega
          rw [e5, ← Array.getElem?_toList]
          exact ho1
        · obtain ⟨B, hB, e1⟩ := sm_tg_of o2
          refine fun H locs ls hl hP hS hz hn hcs => lv_tableOut hX.1 hX.2.1 hd ?_ e1 (hj _ _ _ _ _ B hB h2 H locs ls hl hP hS hz hn hcs)
          rcases Int.lt_or_le x.toInt lo with q | q
          · exact Or.inl q
          · refine Or.inr ?_
            rcases Int.lt_or_le hi x.toInt with q2 | q2
            · exact q2
            · exact absurd (show x.toInt = lo + ((x.toInt - lo).toNat : Int) by omega) (h1 (x.toInt - lo).toNat (by rw [t1]; omega))
      · cases h
    | lookupswitch df ps =>
      unfold sm_okL sm_okI at ok
      simp only [Bool.and_eq_true] at ok
      obtain ⟨⟨⟨o1, o2⟩, o3⟩, o4⟩ := ok
      obtain ⟨len, hd⟩ : ∃ len, decode M.2.1 pc = .ok (.lookupswitch df ps, len) := by
        split at o1
        · next j len e => exact ⟨len, by rw [← of_decide_eq_true o1]; exact e⟩
        · cases o1
      obtain ⟨t1, t2⟩ := sm_tgs_of o3
      unfold sm_blk at h
      dsimp only at h
      split at h
      · next x r =>
        rcases sm_lo_or (df := df) h with ⟨j, b, q, h1, h2, h3, h4⟩ | ⟨h1, h2⟩
        · obtain ⟨o, ho1, ho2⟩ := t2 j b h1
          obtain ⟨B, hB, e1⟩ := sm_tg_of ho2
          have e5 : q.2 = o := by
            rw [List.getElem?_map, h2] at ho1
            exact Option.some.inj ho1
          exact fun H locs ls hl hP hS hz hn hcs => lv_lookup hX.1 hX.2.1 hd o4 (h3.trans e5) e1 (hj _ _ _ _ _ B hB h4 H locs ls hl hP hS hz hn hcs)
        · obtain ⟨B, hB, e1⟩ := sm_tg_of o2
          exact fun H locs ls hl hP hS hz hn hcs => lv_lookup hX.1 hX.2.1 hd o4 h1 e1 (hj _ _ _ _ _ B hB h2 H locs ls hl hP hS hz hn hcs)
      · cases h
    | ireturn =>
      have ok : (sm_dec M pc .ireturn && sm_isI M.2.2.2.1) = true := ok
      simp only [Bool.and_eq_true] at ok
      unfold sm_blk at h
      dsimp only at h
      split at h
      · next x =>
        split at h
        · next hc =>
          subst hc
          have hx : z = (some (.int x), w) ∧ (M.2.2.2.1 = some .int ∨ (M.2.2.2.1 = some .boolean ∧ (x = 0 ∨ x = 1))) := by
            rcases sm_isI_of ok.2 with q | q
            · rw [q] at h; cases h; exact ⟨rfl, Or.inl q⟩
            · rw [q] at h
              have h : (if x = 0 ∨ x = 1 then some (some (Value.int x), w) else none) = some z := h
              split at h
              · next hx => cases h; exact ⟨rfl, Or.inr ⟨q, hx⟩⟩
              · cases h
          obtain ⟨rfl, hq⟩ := hx
          exact fun H locs ls hl hP hS hz hn hcs => he H locs pc ls .ireturn (sm_dec_of ok.1) (Or.inl ⟨rfl, x, rfl, hq⟩) hP hS
        · cases h
      · cases h
    | lreturn =>
      have ok : (sm_dec M pc .lreturn && decide (M.2.2.2.1 = some .long)) = true := ok
      simp only [Bool.and_eq_true, decide_eq_true_eq] at ok
      unfold sm_blk at h
      dsimp only at h
      split at h
      · next x =>
        split at h
        · next hc => subst hc; cases h; exact fun H locs ls hl hP hS hz hn hcs => he H locs pc ls .lreturn (sm_dec_of ok.1) (Or.inr (Or.inl ⟨rfl, x, rfl, ok.2⟩)) hP hS
        · cases h
      · cases h
    | areturn =>
      have ok : (sm_dec M pc .areturn && sm_isO M.2.2.2.1) = true := ok
      simp only [Bool.and_eq_true] at ok
      unfold sm_blk at h
      dsimp only at h
      split at h
      · next x =>
        split at h
        · next hc => subst hc; cases h; exact fun H locs ls hl hP hS hz hn hcs => he H locs pc ls .areturn (sm_dec_of ok.1) (Or.inr (Or.inr (Or.inl ⟨rfl, x, rfl, sm_isO_of ok.2⟩))) hP hS
        · cases h
      · cases h
    | return_ =>
      have ok : (sm_dec M pc .return_ && decide (M.2.2.2.1 = none)) = true := ok
      simp only [Bool.and_eq_true, decide_eq_true_eq] at ok
      unfold sm_blk at h
      dsimp only at h
      split at h
      · split at h
        · next hc => subst hc; cases h; exact fun H locs ls hl hP hS hz hn hcs => he H locs pc ls .return_ (sm_dec_of ok.1) (Or.inr (Or.inr (Or.inr ⟨rfl, rfl, ok.2⟩))) hP hS
        · cases h
      · cases h
    | new x =>
      have ok : (sm_dec M pc (.new x) && sm_okN M x (ops.getD 0 0) (ops.getD 1 0) (ops.getD 2 0) (ops.getD 3 0) && sm_okL P M fall is (pc + 3)) = true := ok
      simp only [Bool.and_eq_true] at ok
      unfold sm_blk at h
      dsimp only at h
      split at h
      · cases h
      · next hc => exact sm_k_new (lay := w.1) (me := w.2) cf hX (sm_dec_of ok.1.1) ok.1.2 hc (ih _ _ _ _ _ ok.2 h)
    | newarray at' =>
      have ok : (sm_dec M pc (.newarray at') && sm_okA M at' (ops.getD 0 0) (ops.getD 1 0) && sm_okL P M fall is (pc + 2)) = true := ok
      simp only [Bool.and_eq_true] at ok
      unfold sm_blk at h
      dsimp only at h
      split at h
      · split at h
        · cases h
        · next hc => exact sm_k_newa (lay := w.1) (me := w.2) hX (sm_dec_of ok.1.1) ok.1.2 hc (ih _ _ _ _ _ ok.2 h)
      · cases h
    | _ =>
      rw [sm_blk_else rfl] at h
      have ok := Bool.and_eq_true_iff.mp ok
      have ok1 := Bool.and_eq_true_iff.mp ok.1
      exact sm_else_ok cf okP hX hr (sm_dec_of ok1.1) ok1.2 (fun lv st w cs h => ih _ _ _ _ _ ok.2 h) h
theorem sm_okB (okP : ∀ f, sm_OK P (P f)) {f b : Nat} {B : sm_B} (h : (sm_blks (P f))[b]? = some B) : sm_okL P (P f) B.2.2.1 B.2.2.2 B.1 = true := (sm_okM_of (okP f).1).2.2.2.2 B (List.mem_of_getElem? h)
theorem sm_go_ok {f : Nat} (cf : sm_CF) (okP : ∀ f, sm_OK P (P f)) (hX : sm_X base ct tt D S (P f) d p R s m args meth c) (hr : sm_Hr base ct tt D S P l rec) (he : sm_end base ct tt D (P f) p l e R s m args below meth c Q z)
    (hc : ∀ (b : Nat) (vs st : List Value) (w : sm_W) (cs : Nat × Nat) (B : sm_B) (live : List Nat), (sm_blks (P f))[b]? = some B → B.2.1 = some live → rec d f b vs st w cs = some z → sm_TW base ct tt D (P f) p l e R s m args below meth c Q B.1 (if b = 0 then lv_args 0 vs else live.zip vs) st w cs) :
    ∀ (n : Nat) (b : Nat) (lv : sm_V) (st : List Value) (w : sm_W) (cs : Nat × Nat) (B : sm_B), (sm_blks (P f))[b]? = some B → sm_go P S rec d f (P f) n b lv st w cs = some z → sm_TW base ct tt D (P f) p l e R s m args below meth c Q B.1 lv st w cs := by
  intro n
  induction n with
  | zero => intro b lv st w cs B hB h; cases h
  | succ n ih =>
    intro b lv st w cs B hB h
    unfold sm_go at h
    split at h
    · cases h
    · next hb0 =>
      have hB' : (P f).2.2.2.2.2.2.2.2[b]? = some B := hB
      rw [hB'] at h
      obtain ⟨pcb, lo, fall, is⟩ := B
      cases lo with
      | some live =>
        dsimp only at h
        split at h
        · cases h
        · next vs hvs =>
          have k1 := hc b vs st w cs _ live hB rfl h
          rw [if_neg hb0] at k1
          exact sm_sub (sm_pick_of hvs) k1
      | none =>
        dsimp only at h
        exact sm_blk_ok cf okP hX hr he (fun b lv st w cs B hB h => ih b lv st w cs B hB h) is pcb lv st w cs (sm_okB okP hB) h
/-- what is shown of n rounds of the small machine: in every place where its method may stand -/
def sm_Cn (base : Nat) (ct : Nat → ClassId) (tt : Nat → Nat) (D : va_G) (S : sm_C) (P : Nat → sm_M) (l : Launch) (n : Nat) : Prop :=
  ∀ (d f : Nat) (p : Program) (e : Env) (R : Room) (s : State) (m : MethodId) (args : Array Value) (below : List Frame) (meth : Method) (c : Code) (Q : State → Prop) (z : sm_Z), sm_X base ct tt D S (P f) d p R s m args meth c → sm_end base ct tt D (P f) p l e R s m args below meth c Q z →
    ∀ (b : Nat) (vs st : List Value) (w : sm_W) (cs : Nat × Nat) (B : sm_B) (live : List Nat), (sm_blks (P f))[b]? = some B → B.2.1 = some live → sm_run P S n d f b vs st w cs = some z → sm_TW base ct tt D (P f) p l e R s m args below meth c Q B.1 (if b = 0 then lv_args 0 vs else live.zip vs) st w cs
set_option maxHeartbeats 4000000 in
theorem sm_end_met {f : Nat} (hx : p.tables.exec = Jvm.exec) (hb : c.code = (P f).2.1) (hret : meth.sig.returnType = (P f).2.2.2.1) (hlocks : meth.locks = false) : sm_end base ct tt D (P f) p l e R s m args below meth c (MQ below (sm_Q base ct tt D z) args s (P f).2.2.2.2.2.1 (P f).2.2.2.2.2.2.1 (sm_A base)) z := by
  intro H locs pc ls i hd hq hP hS
  obtain ⟨zv, zw⟩ := z
  rcases hq with ⟨rfl, x, hv, hr⟩ | ⟨rfl, x, hv, hr⟩ | ⟨rfl, x, hv, n, hr⟩ | ⟨rfl, hv, hr⟩
  · have hv : zv = some (.int x) := hv
    subst hv
    rcases hr with hr | ⟨hr, h01⟩
    · exact W.iret hx hb (hret.trans hr) (fun t ht hw => ⟨rfl, by rw [ht]; exact hP, hS.F ht⟩) hS.2.2 hd hlocks
    · exact W.zret hx hb (hret.trans hr) (by rcases h01 with rfl | rfl <;> rfl) (fun t ht hw => ⟨rfl, by rw [ht]; exact hP, hS.F ht⟩) hS.2.2 hd hlocks
  · have hv : zv = some (.long x) := hv
    subst hv
    exact W.lret hx hb (hret.trans hr) (fun t ht hw => ⟨rfl, by rw [ht]; exact hP, hS.F ht⟩) hS.2.2 hd hlocks
  · have hv : zv = some (.ref x) := hv
    subst hv
    exact W.aret hx hb (hret.trans hr) (Or.inl ⟨n, rfl⟩) (Or.inr ⟨_, rfl⟩) (fun t ht hw => ⟨rfl, by rw [ht]; exact hP, hS.F ht⟩) hS.2.2 hd hlocks
  · have hv : zv = none := hv
    subst hv
    exact W.vret hx hb (hret.trans hr) (fun t ht hw => ⟨rfl, by rw [ht]; exact hP, hS.F ht⟩) hS.2.2 hd hlocks
set_option maxHeartbeats 4000000 in
theorem sm_met (okP : ∀ f, sm_OK P (P f)) {n : Nat} (hC : sm_Cn base ct tt D S P l n) : sm_Hr base ct tt D S P l (sm_run P S n) := by
  intro d f as w z hsl hw hrun
  refine ⟨?_, sm_run_len n d f 0 as [] w (0, 0) z hrun⟩
  obtain ⟨g1, -, g7, ⟨B, hB, hB0⟩, -⟩ := sm_okM_of (okP f).1
  refine Met.ofW (cc := (P f).2.1) (maxL := (P f).2.2.1) (ret := (P f).2.2.2.1) g1 rfl ?_
  intro p e s m args below meth c s₁ Bd hml hv
  obtain ⟨rfl, hsz, hw', hP, hG⟩ := hv
  have hts0 := atoms_spec (ws := sm_mw (P f)) Bd.pre
  have hX : sm_X base ct tt D S (P f) d p (sm_rm d (P f)) s m ((as.map (sm_cv base tt)).toArray) meth c :=
    ⟨Bd.exec, Bd.bytes, hml, findClass_of_methodNamed Bd.named, fun u hu => hts0 u (List.mem_cons_of_mem _ hu), fun q => (name_of_methodNamed Bd.named Bd.method).1.trans q, Nat.le_refl _, Nat.le_refl _, Nat.le_refl _, Nat.le_refl _, hG⟩
  have hl := lv_entry (as.map (sm_cv base tt)) (n := (P f).2.2.1) (by rw [sm_sl_len]; exact hsl)
  rw [lg_entry_eq]
  generalize (lg_sl (as.map (sm_cv base tt)) ++ List.replicate ((P f).2.2.1 - (lg_sl (as.map (sm_cv base tt))).length) Slot.unset).toArray = ls at hl ⊢
  rw [sm_args_map] at hl
  have hcut : ∃ live, B.2.1 = some live := by
    cases n with
    | zero => cases hrun
    | succ n =>
      have hrun : sm_F P S (sm_run P S n) d f 0 as [] w (0, 0) = some z := hrun
      unfold sm_F at hrun
      have hB' : (P f).2.2.2.2.2.2.2.2[0]? = some B := hB
      rw [hB'] at hrun
      obtain ⟨pcb, lo, fall, is⟩ := B
      cases lo with
      | some live => exact ⟨live, rfl⟩
      | none => cases hrun
  obtain ⟨live, hlive⟩ := hcut
  have k1 := hC d f p e (sm_rm d (P f)) s m _ below meth c _ z hX (sm_end_met Bd.exec Bd.bytes Bd.returns Bd.notSynchronized) 0 as [] w (0, 0) B live hB hlive hrun
  rw [if_pos rfl, hB0] at k1
  exact k1 s.heap [] ls hl hP va_S.rf (by show s.heap.size + 0 = base + w.1.length; rw [hsz]; rfl) hw ⟨Nat.zero_le _, Nat.zero_le _⟩
theorem sm_run_ok (cf : sm_CF) (okP : ∀ f, sm_OK P (P f)) : ∀ n, sm_Cn base ct tt D S P l n
  | 0 => fun d f p e R s m args below meth c Q z hX he b vs st w cs B live hB hlive h => by cases h
  | n + 1 => fun d f p e R s m args below meth c Q z hX he b vs st w cs B live hB hlive h => by
    have ihn := sm_run_ok cf okP n
    have h : sm_F P S (sm_run P S n) d f b vs st w cs = some z := h
    unfold sm_F at h
    have hB' : (P f).2.2.2.2.2.2.2.2[b]? = some B := hB
    rw [hB'] at h
    obtain ⟨pcb, lo, fall, is⟩ := B
    have hlive : lo = some live := hlive
    subst hlive
    exact sm_blk_ok cf okP hX (sm_met okP ihn) he (fun b lv st w cs B hB h => sm_go_ok cf okP hX (sm_met okP ihn) he (ihn d f p e R s m args below meth c Q z hX he) 64 b lv st w cs B hB h) is pcb _ st w cs (sm_okB okP hB) h
end SmMet
end
section
/-! what must hold ahead for an end: the small machine by conditions -/
def sm_ow (o : sm_O) (k : sm_V → List Value → sm_Y → Prop) : Prop := match o with
  | some q => k q.1 q.2.1 q.2.2
  | none => False
theorem sm_ow_of {o : sm_O} {k : sm_V → List Value → sm_Y → Prop} (h : sm_ow o k) : ∃ q, o = some q ∧ k q.1 q.2.1 q.2.2 := by
  cases o with
  | none => exact h.elim
  | some q => exact ⟨q, rfl, h⟩
def sm_wI (S : sm_C) (lay : List (Nat × Nat)) (m : sm_Y) (st : List Value) (k : List Value → Prop) : Prop := match st with
  | .int i :: .ref p :: r => match lay[p]? with
    | some (1, n) => vp_in i n ∧ k (.int (m.1 p i.toNatClampNeg) :: r)
    | some _ => False
    | none => match sm_sI S p with
      | some q => vp_in i q.1 ∧ k (.int (q.2 i.toNatClampNeg) :: r)
      | none => False
  | _ => False
def sm_wB (lay : List (Nat × Nat)) (m : sm_Y) (st : List Value) (k : List Value → Prop) : Prop := match st with
  | .int i :: .ref p :: r => match lay[p]? with
    | some (2, n) => vp_in i n ∧ k (.int (m.1 p i.toNatClampNeg) :: r)
    | some (3, n) => vp_in i n ∧ k (.int (m.1 p i.toNatClampNeg) :: r)
    | _ => False
  | _ => False
def sm_wL (lay : List (Nat × Nat)) (m : sm_Y) (st : List Value) (k : List Value → Prop) : Prop := match st with
  | .int i :: .ref p :: r => match lay[p]? with
    | some (4, n) => vp_in i n ∧ k (.long (m.2.1 p i.toNatClampNeg) :: r)
    | some _ => False
    | none => match sm_sL p with
      | some q => vp_in i q.1 ∧ k (.long (q.2 i.toNatClampNeg) :: r)
      | none => False
  | _ => False
def sm_wpI (lay : List (Nat × Nat)) (m : sm_Y) (st : List Value) (k : List Value → sm_Y → Prop) : Prop := match st with
  | .int x :: .int i :: .ref p :: r => match lay[p]? with
    | some (1, n) => vp_in i n ∧ k r (sm_up m.1 p i.toNatClampNeg x, m.2)
    | _ => False
  | _ => False
def sm_wpB (lay : List (Nat × Nat)) (m : sm_Y) (st : List Value) (k : List Value → sm_Y → Prop) : Prop := match st with
  | .int x :: .int i :: .ref p :: r => match lay[p]? with
    | some (2, n) => vp_in i n ∧ k r (sm_up m.1 p i.toNatClampNeg (vp_nar .byte x), m.2)
    | some (3, n) => vp_in i n ∧ k r (sm_up m.1 p i.toNatClampNeg (vp_nar .boolean x), m.2)
    | _ => False
  | _ => False
def sm_wpL (lay : List (Nat × Nat)) (m : sm_Y) (st : List Value) (k : List Value → sm_Y → Prop) : Prop := match st with
  | .long x :: .int i :: .ref p :: r => match lay[p]? with
    | some (4, n) => vp_in i n ∧ k r (m.1, sm_up m.2.1 p i.toNatClampNeg x, m.2.2)
    | _ => False
  | _ => False
def sm_g (b : Bool) (A : Prop) : Prop := match b with
  | true => A
  | false => False
theorem sm_g_of {b : Bool} {A : Prop} (h : sm_g b A) : b = true ∧ A := by
  cases b with
  | true => exact ⟨rfl, h⟩
  | false => exact h.elim
def sm_wput (lay : List (Nat × Nat)) (m : sm_Y) (c k : Nat) (st : List Value) (kk : List Value → sm_Y → Prop) : Prop := match st with
  | v :: .ref p :: r => match lay[p]? with
    | some (0, c') => sm_g (decide (c' = c)) (match sm_cd c k, v with
      | 0, .int x => kk r (sm_up m.1 p k x, m.2)
      | 1, .ref q => kk r (m.1, m.2.1, sm_up m.2.2 p k (some q))
      | 1, .null => kk r (m.1, m.2.1, sm_up m.2.2 p k none)
      | 2, .int x => (x = 0 ∨ x = 1) ∧ kk r (sm_up m.1 p k x, m.2)
      | _, _ => False)
    | _ => False
  | _ => False
def sm_wq (f : Int32 → Int32 → Int32) (st : List Value) (k : List Value → Prop) : Prop := match st with
  | .int y :: .int x :: r => ¬ y = 0 ∧ k (.int (f x y) :: r)
  | _ => False
def sm_wcpy (lay : List (Nat × Nat)) (m : sm_Y) (st : List Value) (k : List Value → sm_Y → Prop) : Prop := match st with
  | .int n :: .int dp :: .ref a :: .int sp :: .ref a0 :: r => match lay[a0]?, lay[a]? with
    | some (1, n0), some (1, n1) => sm_g (decide ((r.map fun v => v.category).sum ≤ 8)) ((¬ sp < 0 ∧ ¬ dp < 0 ∧ ¬ n < 0 ∧ sp.toNatClampNeg + n.toNatClampNeg ≤ n0 ∧ dp.toNatClampNeg + n.toNatClampNeg ≤ n1) ∧ k r (sm_row m.1 a (va_cpy (m.1 a0) (m.1 a) sp.toNatClampNeg dp.toNatClampNeg n.toNatClampNeg), m.2))
    | _, _ => False
  | _ => False
def sm_wst4 (ops : List Nat) (lv : sm_V) (lay : List (Nat × Nat)) (m : sm_Y) (st : List Value) (k : sm_V → List Value → sm_Y → Prop) : Prop := match ops with
  | 0 :: _ => sm_wcpy lay m st (fun s m' => k lv s m')
  | ops => sm_ow (sm_st4 ops lv lay m st) k
def sm_oneW (S : sm_C) (nL : Nat) (i : Instr) (ops : List Nat) (lv : sm_V) (st : List Value) (lay : List (Nat × Nat)) (m : sm_Y) (k : sm_V → List Value → sm_Y → Prop) : Prop := match i with
  | .iaload => sm_wI S lay m st (fun s => k lv s m)
  | .baload => sm_wB lay m st (fun s => k lv s m)
  | .laload => sm_wL lay m st (fun s => k lv s m)
  | .iastore => sm_wpI lay m st (fun s m' => k lv s m')
  | .bastore => sm_wpB lay m st (fun s m' => k lv s m')
  | .lastore => sm_wpL lay m st (fun s m' => k lv s m')
  | .putfield _ => sm_wput lay m (ops.getD 0 0) (ops.getD 1 0) st (fun s m' => k lv s m')
  | .idiv => sm_wq (fun x y => x / y) st (fun s => k lv s m)
  | .irem => sm_wq (fun x y => x - x / y * y) st (fun s => k lv s m)
  | .invokestatic _ => sm_wst4 ops lv lay m st k
  | i => sm_ow (sm_one S nL i ops lv st lay m) k
section SmWp
variable {S : sm_C} {nL : Nat} {ops : List Nat} {lv : sm_V} {st : List Value} {lay : List (Nat × Nat)} {m : sm_Y} {k : sm_V → List Value → sm_Y → Prop}
theorem sm_vpn {i : Int32} {n : Nat} (h : vp_in i n) : ¬ (i < 0 ∨ n ≤ i.toNatClampNeg) := h
theorem sm_wI_of {kk : List Value → Prop} (h : sm_wI S lay m st kk) : ∃ s, sm_gI S lay m st = some s ∧ kk s := by
  unfold sm_wI at h
  split at h
  · split at h
    · next e => obtain ⟨h1, h2⟩ := h; exact ⟨_, by simp only [sm_gI, e]; rw [if_neg (sm_vpn h1)], h2⟩
    · exact h.elim
    · next e =>
      split at h
      · next q e2 => obtain ⟨h1, h2⟩ := h; exact ⟨_, by simp only [sm_gI, e, e2]; rw [if_neg (sm_vpn h1)], h2⟩
      · exact h.elim
  · exact h.elim
theorem sm_wB_of {kk : List Value → Prop} (h : sm_wB lay m st kk) : ∃ s, sm_gB lay m st = some s ∧ kk s := by
  unfold sm_wB at h
  split at h
  · split at h
    · next e => obtain ⟨h1, h2⟩ := h; exact ⟨_, by simp only [sm_gB, e]; rw [if_neg (sm_vpn h1)], h2⟩
    · next e => obtain ⟨h1, h2⟩ := h; exact ⟨_, by simp only [sm_gB, e]; rw [if_neg (sm_vpn h1)], h2⟩
    · exact h.elim
  · exact h.elim
theorem sm_wL_of {kk : List Value → Prop} (h : sm_wL lay m st kk) : ∃ s, sm_gL lay m st = some s ∧ kk s := by
  unfold sm_wL at h
  split at h
  · split at h
    · next e => obtain ⟨h1, h2⟩ := h; exact ⟨_, by simp only [sm_gL, e]; rw [if_neg (sm_vpn h1)], h2⟩
    · exact h.elim
    · next e =>
      split at h
      · next q e2 => obtain ⟨h1, h2⟩ := h; exact ⟨_, by simp only [sm_gL, e, e2]; rw [if_neg (sm_vpn h1)], h2⟩
      · exact h.elim
  · exact h.elim
theorem sm_wpI_of {kk : List Value → sm_Y → Prop} (h : sm_wpI lay m st kk) : ∃ s m', sm_pI lv lay m st = some (lv, s, m') ∧ kk s m' := by
  unfold sm_wpI at h
  split at h
  · split at h
    · next e => obtain ⟨h1, h2⟩ := h; exact ⟨_, _, by simp only [sm_pI, e]; rw [if_neg (sm_vpn h1)], h2⟩
    · exact h.elim
  · exact h.elim
theorem sm_wpB_of {kk : List Value → sm_Y → Prop} (h : sm_wpB lay m st kk) : ∃ s m', sm_pB lv lay m st = some (lv, s, m') ∧ kk s m' := by
  unfold sm_wpB at h
  split at h
  · split at h
    · next e => obtain ⟨h1, h2⟩ := h; exact ⟨_, _, by simp only [sm_pB, e]; rw [if_neg (sm_vpn h1)], h2⟩
    · next e => obtain ⟨h1, h2⟩ := h; exact ⟨_, _, by simp only [sm_pB, e]; rw [if_neg (sm_vpn h1)], h2⟩
    · exact h.elim
  · exact h.elim
theorem sm_wpL_of {kk : List Value → sm_Y → Prop} (h : sm_wpL lay m st kk) : ∃ s m', sm_pL lv lay m st = some (lv, s, m') ∧ kk s m' := by
  unfold sm_wpL at h
  split at h
  · split at h
    · next e => obtain ⟨h1, h2⟩ := h; exact ⟨_, _, by simp only [sm_pL, e]; rw [if_neg (sm_vpn h1)], h2⟩
    · exact h.elim
  · exact h.elim
theorem sm_wput_of {c k' : Nat} {kk : List Value → sm_Y → Prop} (h : sm_wput lay m c k' st kk) : ∃ s m', sm_put lv lay m c k' st = some (lv, s, m') ∧ kk s m' := by
  unfold sm_wput at h
  split at h
  · split at h
    · next e =>
      have hh := sm_g_of h
      clear h
      obtain ⟨hc0, h⟩ := hh
      have hc := of_decide_eq_true hc0
      clear hc0
      subst hc
      split at h
      · next e2 => exact ⟨_, _, by simp only [sm_put, e, e2]; rfl, h⟩
      · next e2 => exact ⟨_, _, by simp only [sm_put, e, e2]; rfl, h⟩
      · next e2 => exact ⟨_, _, by simp only [sm_put, e, e2]; rfl, h⟩
      · next e2 => obtain ⟨h1, h2⟩ := h; exact ⟨_, _, by simp only [sm_put, e, e2]; rw [if_pos trivial, if_pos h1], h2⟩
      · exact h.elim
    · exact h.elim
  · exact h.elim
theorem sm_wq_of {f : Int32 → Int32 → Int32} {kk : List Value → Prop} (h : sm_wq f st kk) : ∃ s, sm_iq f st = some s ∧ kk s := by
  unfold sm_wq at h
  split at h
  · obtain ⟨h1, h2⟩ := h; exact ⟨_, by simp only [sm_iq]; rw [if_neg h1], h2⟩
  · exact h.elim
theorem sm_wcpy_of {kk : List Value → sm_Y → Prop} (h : sm_wcpy lay m st kk) : ∃ s m', sm_cpy lv lay m st = some (lv, s, m') ∧ kk s m' := by
  unfold sm_wcpy at h
  split at h
  · split at h
    · next e1 e2 =>
      obtain ⟨h0, ⟨h1, h2, h3, h4, h5⟩, h6⟩ := sm_g_of h
      have h0 := of_decide_eq_true h0
      refine ⟨_, _, ?_, h6⟩
      simp only [sm_cpy, e1, e2]
      rw [if_neg]
      intro q
      rcases q with q | q | q | q | q | q
      · exact h1 q
      · exact h2 q
      · exact h3 q
      · omega
      · omega
      · omega
    · exact h.elim
  · exact h.elim
theorem sm_oneW_of {i : Instr} (h : sm_oneW S nL i ops lv st lay m k) : ∃ q, sm_one S nL i ops lv st lay m = some q ∧ k q.1 q.2.1 q.2.2 := by
  cases i with
  | iaload => obtain ⟨s, h1, h2⟩ := sm_wI_of (kk := fun s => k lv s m) h; exact ⟨(lv, s, m), by show sm_p lv m (sm_gI S lay m st) = _; rw [h1]; rfl, h2⟩
  | baload => obtain ⟨s, h1, h2⟩ := sm_wB_of (kk := fun s => k lv s m) h; exact ⟨(lv, s, m), by show sm_p lv m (sm_gB lay m st) = _; rw [h1]; rfl, h2⟩
  | laload => obtain ⟨s, h1, h2⟩ := sm_wL_of (kk := fun s => k lv s m) h; exact ⟨(lv, s, m), by show sm_p lv m (sm_gL lay m st) = _; rw [h1]; rfl, h2⟩
  | iastore => obtain ⟨s, m', h1, h2⟩ := sm_wpI_of (lv := lv) h; exact ⟨(lv, s, m'), h1, h2⟩
  | bastore => obtain ⟨s, m', h1, h2⟩ := sm_wpB_of (lv := lv) h; exact ⟨(lv, s, m'), h1, h2⟩
  | lastore => obtain ⟨s, m', h1, h2⟩ := sm_wpL_of (lv := lv) h; exact ⟨(lv, s, m'), h1, h2⟩
  | putfield x => obtain ⟨s, m', h1, h2⟩ := sm_wput_of (lv := lv) h; exact ⟨(lv, s, m'), h1, h2⟩
  | idiv => obtain ⟨s, h1, h2⟩ := sm_wq_of (f := fun x y => x / y) (kk := fun s => k lv s m) h; exact ⟨(lv, s, m), by show sm_p lv m (sm_iq (fun x y => x / y) st) = _; rw [h1]; rfl, h2⟩
  | irem => obtain ⟨s, h1, h2⟩ := sm_wq_of (f := fun x y => x - x / y * y) (kk := fun s => k lv s m) h; exact ⟨(lv, s, m), by show sm_p lv m (sm_iq (fun x y => x - x / y * y) st) = _; rw [h1]; rfl, h2⟩
  | invokestatic x =>
    have h : sm_wst4 ops lv lay m st k := h
    show ∃ q, sm_st4 ops lv lay m st = some q ∧ k q.1 q.2.1 q.2.2
    unfold sm_wst4 at h
    split at h
    · obtain ⟨s, m', h1, h2⟩ := sm_wcpy_of (lv := lv) h; exact ⟨(lv, s, m'), h1, h2⟩
    · exact sm_ow_of h
  | _ => exact sm_ow_of h
end SmWp
/-! more rounds change nothing -/
section SmMono
variable {P : Nat → sm_M} {S : sm_C} {rec rec' : Nat → Nat → Nat → List Value → List Value → sm_W → Nat × Nat → Option sm_Z} {jmp jmp' : Nat → sm_V → List Value → sm_W → Nat × Nat → Option sm_Z} {d fall : Nat} {M : sm_M} {z : sm_Z}
theorem sm_b1_mono {α : Type} {z : α} {st : List Value} {a b a' b' : List Value → Option α} {c : ClassFile.Cond} (ha : ∀ r, a r = some z → a' r = some z) (hb : ∀ r, b r = some z → b' r = some z) (h : sm_b1 c st a b = some z) : sm_b1 c st a' b' = some z := by
  unfold sm_b1 at h ⊢
  split at h
  · cases c <;> (dsimp only at h ⊢; split at h <;> rename_i hc <;> first | (rw [if_pos hc]; first | exact ha _ h | exact hb _ h) | (rw [if_neg hc]; first | exact ha _ h | exact hb _ h))
  · cases h
theorem sm_b2_mono {α : Type} {z : α} {st : List Value} {a b a' b' : List Value → Option α} {c : ClassFile.Cond} (ha : ∀ r, a r = some z → a' r = some z) (hb : ∀ r, b r = some z → b' r = some z) (h : sm_b2 c st a b = some z) : sm_b2 c st a' b' = some z := by
  unfold sm_b2 at h ⊢
  split at h
  · cases c <;> (dsimp only at h ⊢; split at h <;> rename_i hc <;> first | (rw [if_pos hc]; first | exact ha _ h | exact hb _ h) | (rw [if_neg hc]; first | exact ha _ h | exact hb _ h))
  · cases h
theorem sm_bn_mono {α : Type} {z : α} {st : List Value} {a b a' b' : List Value → Option α} (ha : ∀ r, a r = some z → a' r = some z) (hb : ∀ r, b r = some z → b' r = some z) (h : sm_bn st a b = some z) : sm_bn st a' b' = some z := by
  unfold sm_bn at h ⊢
  split at h
  · exact ha _ h
  · exact hb _ h
  · cases h
theorem sm_sw_mono {α : Type} {z : α} {x : Int32} {k k' : Nat → Option α} {d : Nat} (hk : ∀ b, k b = some z → k' b = some z) : ∀ (bs : List Nat) (v : Int), sm_sw x k d v bs = some z → sm_sw x k' d v bs = some z
  | [], v, h => hk _ h
  | b :: r, v, h => by
    unfold sm_sw at h ⊢
    split at h
    · next e => rw [if_pos e]; exact hk _ h
    · next e => rw [if_neg e]; exact sm_sw_mono hk r (v + 1) h
theorem sm_lo_mono {α : Type} {z : α} {x : Int32} {k k' : Nat → Option α} {d : Nat} (hk : ∀ b, k b = some z → k' b = some z) : ∀ (vs : List (Int × Int)) (bs : List Nat), sm_lo x k d vs bs = some z → sm_lo x k' d vs bs = some z
  | [], bs, h => by cases bs <;> exact hk _ h
  | v :: vs, [], h => by cases h
  | v :: vs, b :: r, h => by
    unfold sm_lo at h ⊢
    split at h
    · next e => rw [if_pos e]; exact hk _ h
    · next e => rw [if_neg e]; exact sm_lo_mono hk vs r h
theorem sm_else_mono {i : Instr} {ops : List Nat} {lv : sm_V} {st : List Value} {w : sm_W} {cs : Nat × Nat} {k k' : sm_V → List Value → sm_W → Nat × Nat → Option sm_Z} (hr : ∀ d' g b as st w cs z', rec d' g b as st w cs = some z' → rec' d' g b as st w cs = some z') (hk : ∀ lv st w cs, k lv st w cs = some z → k' lv st w cs = some z) (h : sm_else P S rec d M i ops lv st w cs k = some z) : sm_else P S rec' d M i ops lv st w cs k' = some z := by
  unfold sm_else at h ⊢
  split at h
  · split at h
    · cases h
    · unfold sm_inv at h ⊢
      split at h
      · cases h
      · next hc =>
        dsimp only
        rw [if_neg hc]
        split at h
        · cases h
        · next z' e => rw [hr _ _ _ _ _ _ _ _ e]; exact hk _ _ _ _ h
  · split at h
    · exact hk _ _ _ _ h
    · cases h
set_option maxHeartbeats 4000000 in
theorem sm_blk_mono (hr : ∀ d' g b as st w cs z', rec d' g b as st w cs = some z' → rec' d' g b as st w cs = some z') (hj : ∀ b lv st w cs, jmp b lv st w cs = some z → jmp' b lv st w cs = some z) : ∀ (is : List (Instr × List Nat)) (lv : sm_V) (st : List Value) (w : sm_W) (cs : Nat × Nat), sm_blk P S rec jmp d M fall is lv st w cs = some z → sm_blk P S rec' jmp' d M fall is lv st w cs = some z := by
  intro is
  induction is with
  | nil => intro lv st w cs h; exact hj _ _ _ _ _ h
  | cons q is ih =>
    obtain ⟨i, ops⟩ := q
    intro lv st w cs h
    cases i with
    | goto off => exact hj _ _ _ _ _ h
    | ifCond c off => exact sm_b1_mono (fun r h => hj _ _ _ _ _ h) (fun r h => hj _ _ _ _ _ h) h
    | if_icmp c off => exact sm_b2_mono (fun r h => hj _ _ _ _ _ h) (fun r h => hj _ _ _ _ _ h) h
    | ifnull off => exact sm_bn_mono (fun r h => hj _ _ _ _ _ h) (fun r h => hj _ _ _ _ _ h) h
    | ifnonnull off => exact sm_bn_mono (fun r h => hj _ _ _ _ _ h) (fun r h => hj _ _ _ _ _ h) h
    | tableswitch df lo hi offs =>
      unfold sm_blk at h ⊢
      dsimp only at h ⊢
      split at h
      · exact sm_sw_mono (fun b h => hj _ _ _ _ _ h) _ _ h
      · cases h
    | lookupswitch df ps =>
      unfold sm_blk at h ⊢
      dsimp only at h ⊢
      split at h
      · exact sm_lo_mono (fun b h => hj _ _ _ _ _ h) _ _ h
      · cases h
    | ireturn => exact h
    | lreturn => exact h
    | areturn => exact h
    | return_ => exact h
    | new x =>
      unfold sm_blk at h ⊢
      dsimp only at h ⊢
      split at h
      · cases h
      · next hc => rw [if_neg hc]; exact ih _ _ _ _ h
    | newarray at' =>
      unfold sm_blk at h ⊢
      dsimp only at h ⊢
      split at h
      · split at h
        · cases h
        · next hc => rw [if_neg hc]; exact ih _ _ _ _ h
      · cases h
    | _ => rw [sm_blk_else rfl] at h ⊢; exact sm_else_mono hr ih h
theorem sm_go_mono {f : Nat} (hr : ∀ d' g b as st w cs z', rec d' g b as st w cs = some z' → rec' d' g b as st w cs = some z') : ∀ (n : Nat) (b : Nat) (lv : sm_V) (st : List Value) (w : sm_W) (cs : Nat × Nat), sm_go P S rec d f M n b lv st w cs = some z → sm_go P S rec' d f M n b lv st w cs = some z := by
  intro n
  induction n with
  | zero => intro b lv st w cs h; cases h
  | succ n ih =>
    intro b lv st w cs h
    unfold sm_go at h ⊢
    split at h
    · cases h
    · next hb =>
      rw [if_neg hb]
      split at h
      · cases h
      · split at h
        · cases h
        · exact hr _ _ _ _ _ _ _ _ h
      · exact sm_blk_mono hr ih _ _ _ _ _ h
theorem sm_run_mono1 : ∀ (n d f b : Nat) (vs st : List Value) (w : sm_W) (cs : Nat × Nat) (z : sm_Z), sm_run P S n d f b vs st w cs = some z → sm_run P S (n + 1) d f b vs st w cs = some z
  | 0, _, _, _, _, _, _, _, _, h => by cases h
  | n + 1, d, f, b, vs, st, w, cs, z, h => by
    have h : sm_F P S (sm_run P S n) d f b vs st w cs = some z := h
    show sm_F P S (sm_run P S (n + 1)) d f b vs st w cs = some z
    unfold sm_F at h ⊢
    split at h
    · exact sm_blk_mono (sm_run_mono1 n) (sm_go_mono (sm_run_mono1 n) 64) _ _ _ _ _ h
    · cases h
theorem sm_run_mono {n n' : Nat} (hn : n ≤ n') {d f b : Nat} {vs st : List Value} {w : sm_W} {cs : Nat × Nat} {z : sm_Z} (h : sm_run P S n d f b vs st w cs = some z) : sm_run P S n' d f b vs st w cs = some z := by
  induction hn with
  | refl => exact h
  | step _ ih => exact sm_run_mono1 _ _ _ _ _ _ _ _ _ ih
end SmMono
end
section
/-- from here the small machine comes to an end with Φ -/
def sm_wp (P : Nat → sm_M) (S : sm_C) (d f b : Nat) (vs st : List Value) (w : sm_W) (cs : Nat × Nat) (Φ : sm_Z → Prop) : Prop := ∃ n z, sm_run P S n d f b vs st w cs = some z ∧ Φ z
def sm_w1 (c : ClassFile.Cond) (st : List Value) (a b : List Value → Prop) : Prop := match st with
  | .int x :: r => match c with
    | .eq => (x = 0 → a r) ∧ (¬ x = 0 → b r)
    | .ne => (x = 0 → b r) ∧ (¬ x = 0 → a r)
    | .lt => (x < 0 → a r) ∧ (¬ x < 0 → b r)
    | .ge => (0 ≤ x → a r) ∧ (¬ 0 ≤ x → b r)
    | .gt => (0 < x → a r) ∧ (¬ 0 < x → b r)
    | .le => (x ≤ 0 → a r) ∧ (¬ x ≤ 0 → b r)
  | _ => False
def sm_w2 (c : ClassFile.Cond) (st : List Value) (a b : List Value → Prop) : Prop := match st with
  | .int y :: .int x :: r => match c with
    | .eq => (x = y → a r) ∧ (¬ x = y → b r)
    | .ne => (x = y → b r) ∧ (¬ x = y → a r)
    | .lt => (x < y → a r) ∧ (¬ x < y → b r)
    | .ge => (y ≤ x → a r) ∧ (¬ y ≤ x → b r)
    | .gt => (y < x → a r) ∧ (¬ y < x → b r)
    | .le => (x ≤ y → a r) ∧ (¬ x ≤ y → b r)
  | _ => False
def sm_wn (st : List Value) (a b : List Value → Prop) : Prop := match st with
  | .null :: r => a r
  | .ref _ :: r => b r
  | _ => False
def sm_wsw (x : Int32) (k : Nat → Prop) (d : Nat) : Int → List Nat → Prop
  | _, [] => k d
  | v, b :: r => (x.toInt = v → k b) ∧ (¬ x.toInt = v → sm_wsw x k d (v + 1) r)
def sm_wlo (x : Int32) (k : Nat → Prop) (d : Nat) : List (Int × Int) → List Nat → Prop
  | [], _ => k d
  | _ :: _, [] => False
  | v :: vs, b :: r => (x.toInt = v.1 → k b) ∧ (¬ x.toInt = v.1 → sm_wlo x k d vs r)
def sm_invW (call : List Value → (sm_Z → Prop) → Prop) (n nL mc ms : Nat) (rc : Bool) (st : List Value) (cs : Nat × Nat) (lim : Nat × Nat) (k : List Value → sm_W → Nat × Nat → Prop) : Prop :=
  sm_g (rc && decide (n ≤ st.length) && decide ((lg_sl (st.take n).reverse).length ≤ nL) && decide (((st.drop n).map fun v => v.category).sum ≤ 8) && decide (cs.1 + mc ≤ lim.1) && decide (cs.2 + ms ≤ lim.2)) (call (st.take n).reverse (fun z => k (z.1.toList ++ st.drop n) z.2 (cs.1 + mc, cs.2 + ms)))
def sm_elseW (P : Nat → sm_M) (S : sm_C) (call : Nat → Nat → List Value → sm_W → (sm_Z → Prop) → Prop) (d : Nat) (M : sm_M) (i : Instr) (ops : List Nat) (lv : sm_V) (st : List Value) (w : sm_W) (cs : Nat × Nat) (k : sm_V → List Value → sm_W → Nat × Nat → Prop) : Prop := match ops with
  | g :: inst :: ci :: _ :: _ :: _ :: _ :: _ => match d with
    | 0 => False
    | d + 1 => sm_invW (fun as => call d g as w) ((P g).2.2.2.2.1 + inst) (P g).2.2.1 (P g).2.2.2.2.2.1 (P g).2.2.2.2.2.2.1 (sm_rc inst ci w.1 st (P g).2.2.2.2.1) st cs (M.2.2.2.2.2.1, M.2.2.2.2.2.2.1) (fun s' w' cs' => k lv s' w' cs')
  | _ => sm_oneW S M.2.2.1 i ops lv st w.1 w.2 (fun lv st m => k lv st (w.1, m) cs)
def sm_blkW (P : Nat → sm_M) (S : sm_C) (call : Nat → Nat → List Value → sm_W → (sm_Z → Prop) → Prop) (jmp : Nat → sm_V → List Value → sm_W → Nat × Nat → Prop) (d : Nat) (M : sm_M) (fall : Nat) (Φ : sm_Z → Prop) : List (Instr × List Nat) → sm_V → List Value → sm_W → Nat × Nat → Prop
  | [], lv, st, w, cs => jmp fall lv st w cs
  | (i, ops) :: is, lv, st, w, cs => match i with
    | .goto _ => jmp (ops.getD 0 0) lv st w cs
    | .ifCond c _ => sm_w1 c st (fun r => jmp (ops.getD 0 0) lv r w cs) (fun r => jmp (ops.getD 1 0) lv r w cs)
    | .if_icmp c _ => sm_w2 c st (fun r => jmp (ops.getD 0 0) lv r w cs) (fun r => jmp (ops.getD 1 0) lv r w cs)
    | .ifnull _ => sm_wn st (fun r => jmp (ops.getD 0 0) lv r w cs) (fun r => jmp (ops.getD 1 0) lv r w cs)
    | .ifnonnull _ => sm_wn st (fun r => jmp (ops.getD 1 0) lv r w cs) (fun r => jmp (ops.getD 0 0) lv r w cs)
    | .tableswitch _ lo _ _ => match st with
      | .int x :: r => sm_wsw x (fun b => jmp b lv r w cs) (ops.getD 0 0) lo (ops.drop 1)
      | _ => False
    | .lookupswitch _ ps => match st with
      | .int x :: r => sm_wlo x (fun b => jmp b lv r w cs) (ops.getD 0 0) ps.toList (ops.drop 1)
      | _ => False
    | .ireturn => match st with
      | [.int x] => sm_g (decide (cs = (M.2.2.2.2.2.1, M.2.2.2.2.2.2.1))) (match sm_isZ M.2.2.2.1 with
        | true => (x = 0 ∨ x = 1) ∧ Φ (some (.int x), w)
        | false => Φ (some (.int x), w))
      | _ => False
    | .lreturn => match st with
      | [.long x] => sm_g (decide (cs = (M.2.2.2.2.2.1, M.2.2.2.2.2.2.1))) (Φ (some (.long x), w))
      | _ => False
    | .areturn => match st with
      | [.ref x] => sm_g (decide (cs = (M.2.2.2.2.2.1, M.2.2.2.2.2.2.1))) (Φ (some (.ref x), w))
      | _ => False
    | .return_ => match st with
      | [] => sm_g (decide (cs = (M.2.2.2.2.2.1, M.2.2.2.2.2.2.1))) (Φ (none, w))
      | _ => False
    | .new _ => sm_g (decide (w.1.length < 1000) && decide (cs.1 + 1 ≤ M.2.2.2.2.2.1) && decide (cs.2 + sm_N (ops.getD 0 0) ≤ M.2.2.2.2.2.2.1))
        (sm_blkW P S call jmp d M fall Φ is lv (.ref w.1.length :: st) (w.1 ++ [(0, ops.getD 0 0)], sm_row w.2.1 w.1.length (fun _ => 0), w.2.2.1, sm_row w.2.2.2 w.1.length (fun _ => none)) (cs.1 + 1, cs.2 + sm_N (ops.getD 0 0)))
    | .newarray _ => match st with
      | .int n :: r => sm_g (decide (¬ n < 0) && decide (n.toNatClampNeg ≤ 100000) && decide (w.1.length < 1000) && decide (cs.1 + 1 ≤ M.2.2.2.2.2.1) && decide (cs.2 + n.toNatClampNeg ≤ M.2.2.2.2.2.2.1))
        (sm_blkW P S call jmp d M fall Φ is lv (.ref w.1.length :: r) (w.1 ++ [(ops.getD 0 0 + 1, n.toNatClampNeg)], sm_row w.2.1 w.1.length (fun _ => 0), sm_row w.2.2.1 w.1.length (fun _ => 0), w.2.2.2) (cs.1 + 1, cs.2 + n.toNatClampNeg))
      | _ => False
    | i => sm_elseW P S call d M i ops lv st w cs (fun lv st w cs => sm_blkW P S call jmp d M fall Φ is lv st w cs)
def sm_cl (P : Nat → sm_M) (S : sm_C) (d' g : Nat) (as : List Value) (w : sm_W) (Ψ : sm_Z → Prop) : Prop := sm_wp P S d' g 0 as [] w (0, 0) Ψ
def sm_goW (P : Nat → sm_M) (S : sm_C) (d f : Nat) (M : sm_M) (Φ : sm_Z → Prop) : Nat → Nat → sm_V → List Value → sm_W → Nat × Nat → Prop
  | 0, _, _, _, _, _ => False
  | n + 1, b, lv, st, w, cs => sm_g (decide (¬ b = 0)) (match M.2.2.2.2.2.2.2.2[b]? with
    | none => False
    | some (_, some live, _, _) => match sm_pick live lv with
      | none => False
      | some vs => sm_wp P S d f b vs st w cs Φ
    | some (_, none, fall, is) => sm_blkW P S (sm_cl P S) (sm_goW P S d f M Φ n) d M fall Φ is lv st w cs)
def sm_FW (P : Nat → sm_M) (S : sm_C) (d f b : Nat) (vs st : List Value) (w : sm_W) (cs : Nat × Nat) (Φ : sm_Z → Prop) : Prop := match (P f).2.2.2.2.2.2.2.2[b]? with
  | some (_, some live, fall, is) => sm_blkW P S (sm_cl P S) (sm_goW P S d f (P f) Φ 64) d (P f) fall Φ is (if b = 0 then lv_args 0 vs else live.zip vs) st w cs
  | _ => False
section SmRules
variable {P : Nat → sm_M} {S : sm_C} {d f fall : Nat} {M : sm_M} {Φ : sm_Z → Prop} {jmp : Nat → sm_V → List Value → sm_W → Nat × Nat → Prop} {J : Nat → Nat → sm_V → List Value → sm_W → Nat × Nat → Option sm_Z}
/-- from some number of rounds on it has come to an end with Φ -/
def sm_ev (F : Nat → Option sm_Z) (Φ : sm_Z → Prop) : Prop := ∃ N z, Φ z ∧ ∀ n, N ≤ n → F n = some z
theorem sm_ev_wp {d f b : Nat} {vs st : List Value} {w : sm_W} {cs : Nat × Nat} (h : sm_wp P S d f b vs st w cs Φ) : sm_ev (fun n => sm_run P S n d f b vs st w cs) Φ := by
  obtain ⟨n, z, h1, h2⟩ := h
  exact ⟨n, z, h2, fun n' hn => sm_run_mono hn h1⟩
theorem sm_w1_of {c : ClassFile.Cond} {st : List Value} {a b : List Value → Prop} {A B : List Value → Nat → Option sm_Z} (ha : ∀ r, a r → sm_ev (A r) Φ) (hb : ∀ r, b r → sm_ev (B r) Φ) (h : sm_w1 c st a b) : sm_ev (fun n => sm_b1 c st (fun r => A r n) (fun r => B r n)) Φ := by
  unfold sm_w1 at h
  split at h
  · next x r =>
    cases c <;> dsimp only at h <;> obtain ⟨h1, h2⟩ := h
    · by_cases q : x = 0
      · obtain ⟨N, z, k1, k2⟩ := ha r (h1 q); exact ⟨N, z, k1, fun n hn => by show (if x = 0 then _ else _) = _; rw [if_pos q]; exact k2 n hn⟩
      · obtain ⟨N, z, k1, k2⟩ := hb r (h2 q); exact ⟨N, z, k1, fun n hn => by show (if x = 0 then _ else _) = _; rw [if_neg q]; exact k2 n hn⟩
    · by_cases q : x = 0
      · obtain ⟨N, z, k1, k2⟩ := hb r (h1 q); exact ⟨N, z, k1, fun n hn => by show (if x = 0 then _ else _) = _; rw [if_pos q]; exact k2 n hn⟩
      · obtain ⟨N, z, k1, k2⟩ := ha r (h2 q); exact ⟨N, z, k1, fun n hn => by show (if x = 0 then _ else _) = _; rw [if_neg q]; exact k2 n hn⟩
    · by_cases q : x < 0
      · obtain ⟨N, z, k1, k2⟩ := ha r (h1 q); exact ⟨N, z, k1, fun n hn => by show (if x < 0 then _ else _) = _; rw [if_pos q]; exact k2 n hn⟩
      · obtain ⟨N, z, k1, k2⟩ := hb r (h2 q); exact ⟨N, z, k1, fun n hn => by show (if x < 0 then _ else _) = _; rw [if_neg q]; exact k2 n hn⟩
    · by_cases q : 0 ≤ x
      · obtain ⟨N, z, k1, k2⟩ := ha r (h1 q); exact ⟨N, z, k1, fun n hn => by show (if 0 ≤ x then _ else _) = _; rw [if_pos q]; exact k2 n hn⟩
      · obtain ⟨N, z, k1, k2⟩ := hb r (h2 q); exact ⟨N, z, k1, fun n hn => by show (if 0 ≤ x then _ else _) = _; rw [if_neg q]; exact k2 n hn⟩
    · by_cases q : 0 < x
      · obtain ⟨N, z, k1, k2⟩ := ha r (h1 q); exact ⟨N, z, k1, fun n hn => by show (if 0 < x then _ else _) = _; rw [if_pos q]; exact k2 n hn⟩
      · obtain ⟨N, z, k1, k2⟩ := hb r (h2 q); exact ⟨N, z, k1, fun n hn => by show (if 0 < x then _ else _) = _; rw [if_neg q]; exact k2 n hn⟩
    · by_cases q : x ≤ 0
      · obtain ⟨N, z, k1, k2⟩ := ha r (h1 q); exact ⟨N, z, k1, fun n hn => by show (if x ≤ 0 then _ else _) = _; rw [if_pos q]; exact k2 n hn⟩
      · obtain ⟨N, z, k1, k2⟩ := hb r (h2 q); exact ⟨N, z, k1, fun n hn => by show (if x ≤ 0 then _ else _) = _; rw [if_neg q]; exact k2 n hn⟩
  · exact h.elim
theorem sm_w2_of {c : ClassFile.Cond} {st : List Value} {a b : List Value → Prop} {A B : List Value → Nat → Option sm_Z} (ha : ∀ r, a r → sm_ev (A r) Φ) (hb : ∀ r, b r → sm_ev (B r) Φ) (h : sm_w2 c st a b) : sm_ev (fun n => sm_b2 c st (fun r => A r n) (fun r => B r n)) Φ := by
  unfold sm_w2 at h
  split at h
  · next y x r =>
    cases c <;> dsimp only at h <;> obtain ⟨h1, h2⟩ := h
    · by_cases q : x = y
      · obtain ⟨N, z, k1, k2⟩ := ha r (h1 q); exact ⟨N, z, k1, fun n hn => by show (if x = y then _ else _) = _; rw [if_pos q]; exact k2 n hn⟩
      · obtain ⟨N, z, k1, k2⟩ := hb r (h2 q); exact ⟨N, z, k1, fun n hn => by show (if x = y then _ else _) = _; rw [if_neg q]; exact k2 n hn⟩
    · by_cases q : x = y
      · obtain ⟨N, z, k1, k2⟩ := hb r (h1 q); exact ⟨N, z, k1, fun n hn => by show (if x = y then _ else _) = _; rw [if_pos q]; exact k2 n hn⟩
      · obtain ⟨N, z, k1, k2⟩ := ha r (h2 q); exact ⟨N, z, k1, fun n hn => by show (if x = y then _ else _) = _; rw [if_neg q]; exact k2 n hn⟩
    · by_cases q : x < y
      · obtain ⟨N, z, k1, k2⟩ := ha r (h1 q); exact ⟨N, z, k1, fun n hn => by show (if x < y then _ else _) = _; rw [if_pos q]; exact k2 n hn⟩
      · obtain ⟨N, z, k1, k2⟩ := hb r (h2 q); exact ⟨N, z, k1, fun n hn => by show (if x < y then _ else _) = _; rw [if_neg q]; exact k2 n hn⟩
    · by_cases q : y ≤ x
      · obtain ⟨N, z, k1, k2⟩ := ha r (h1 q); exact ⟨N, z, k1, fun n hn => by show (if y ≤ x then _ else _) = _; rw [if_pos q]; exact k2 n hn⟩
      · obtain ⟨N, z, k1, k2⟩ := hb r (h2 q); exact ⟨N, z, k1, fun n hn => by show (if y ≤ x then _ else _) = _; rw [if_neg q]; exact k2 n hn⟩
    · by_cases q : y < x
      · obtain ⟨N, z, k1, k2⟩ := ha r (h1 q); exact ⟨N, z, k1, fun n hn => by show (if y < x then _ else _) = _; rw [if_pos q]; exact k2 n hn⟩
      · obtain ⟨N, z, k1, k2⟩ := hb r (h2 q); exact ⟨N, z, k1, fun n hn => by show (if y < x then _ else _) = _; rw [if_neg q]; exact k2 n hn⟩
    · by_cases q : x ≤ y
      · obtain ⟨N, z, k1, k2⟩ := ha r (h1 q); exact ⟨N, z, k1, fun n hn => by show (if x ≤ y then _ else _) = _; rw [if_pos q]; exact k2 n hn⟩
      · obtain ⟨N, z, k1, k2⟩ := hb r (h2 q); exact ⟨N, z, k1, fun n hn => by show (if x ≤ y then _ else _) = _; rw [if_neg q]; exact k2 n hn⟩
  · exact h.elim
theorem sm_wn_of {st : List Value} {a b : List Value → Prop} {A B : List Value → Nat → Option sm_Z} (ha : ∀ r, a r → sm_ev (A r) Φ) (hb : ∀ r, b r → sm_ev (B r) Φ) (h : sm_wn st a b) : sm_ev (fun n => sm_bn st (fun r => A r n) (fun r => B r n)) Φ := by
  unfold sm_wn at h
  split at h
  · exact ha _ h
  · exact hb _ h
  · exact h.elim
theorem sm_wsw_of {x : Int32} {k : Nat → Prop} {K : Nat → Nat → Option sm_Z} {d : Nat} (hk : ∀ b, k b → sm_ev (K b) Φ) : ∀ (bs : List Nat) (v : Int), sm_wsw x k d v bs → sm_ev (fun n => sm_sw x (fun b => K b n) d v bs) Φ
  | [], v, h => hk _ h
  | b :: r, v, h => by
    obtain ⟨h1, h2⟩ := h
    by_cases q : x.toInt = v
    · obtain ⟨N, z, k1, k2⟩ := hk b (h1 q); exact ⟨N, z, k1, fun n hn => by show (if x.toInt = v then _ else _) = _; rw [if_pos q]; exact k2 n hn⟩
    · obtain ⟨N, z, k1, k2⟩ := sm_wsw_of hk r (v + 1) (h2 q); exact ⟨N, z, k1, fun n hn => by show (if x.toInt = v then _ else _) = _; rw [if_neg q]; exact k2 n hn⟩
theorem sm_wlo_of {x : Int32} {k : Nat → Prop} {K : Nat → Nat → Option sm_Z} {d : Nat} (hk : ∀ b, k b → sm_ev (K b) Φ) : ∀ (vs : List (Int × Int)) (bs : List Nat), sm_wlo x k d vs bs → sm_ev (fun n => sm_lo x (fun b => K b n) d vs bs) Φ
  | [], bs, h => by cases bs <;> exact hk _ h
  | v :: vs, [], h => h.elim
  | v :: vs, b :: r, h => by
    obtain ⟨h1, h2⟩ := h
    by_cases q : x.toInt = v.1
    · obtain ⟨N, z, k1, k2⟩ := hk b (h1 q); exact ⟨N, z, k1, fun n hn => by show (if x.toInt = v.1 then _ else _) = _; rw [if_pos q]; exact k2 n hn⟩
    · obtain ⟨N, z, k1, k2⟩ := sm_wlo_of hk vs r (h2 q); exact ⟨N, z, k1, fun n hn => by show (if x.toInt = v.1 then _ else _) = _; rw [if_neg q]; exact k2 n hn⟩
theorem sm_elseW_of {i : Instr} {ops : List Nat} {lv : sm_V} {st : List Value} {w : sm_W} {cs : Nat × Nat} {k : sm_V → List Value → sm_W → Nat × Nat → Prop} {K : Nat → sm_V → List Value → sm_W → Nat × Nat → Option sm_Z} (hk : ∀ lv st w cs, k lv st w cs → sm_ev (fun n => K n lv st w cs) Φ) (h : sm_elseW P S (sm_cl P S) d M i ops lv st w cs k) : sm_ev (fun n => sm_else P S (sm_run P S n) d M i ops lv st w cs (K n)) Φ := by
  unfold sm_elseW at h
  split at h
  · next g inst ci a1 a2 a3 a4 r =>
    cases d with
    | zero => exact h.elim
    | succ d =>
      obtain ⟨hg, h⟩ := sm_g_of h
      simp only [Bool.and_eq_true, decide_eq_true_eq] at hg
      obtain ⟨N1, z1, ⟨N2, z2, k1, k2⟩, k3⟩ := sm_ev_wp (Φ := fun z => sm_ev (fun n => K n lv (z.1.toList ++ st.drop ((P g).2.2.2.2.1 + inst)) z.2 (cs.1 + (P g).2.2.2.2.2.1, cs.2 + (P g).2.2.2.2.2.2.1)) Φ) (by
        obtain ⟨n, z, e1, e2⟩ := h
        exact ⟨n, z, e1, hk _ _ _ _ e2⟩)
      refine ⟨max N1 N2, z2, k1, fun n hn => ?_⟩
      show sm_else P S (sm_run P S n) (d + 1) M i (g :: inst :: ci :: a1 :: a2 :: a3 :: a4 :: r) lv st w cs (K n) = some z2
      unfold sm_else
      dsimp only
      unfold sm_inv
      rw [if_neg]
      · have k3' := k3 n (by omega)
        dsimp only at k3' ⊢
        rw [k3']
        exact k2 n (by omega)
      · rintro (q | q | q | q | q | q)
        · rw [hg.1.1.1.1.1] at q; cases q
        · exact absurd hg.1.1.1.1.2 (by omega)
        · exact absurd hg.1.1.1.2 (by omega)
        · exact absurd hg.1.1.2 (by omega)
        · have := hg.1.2; simp only at q this; omega
        · have := hg.2; simp only at q this; omega
  · next hno =>
    obtain ⟨q, e1, e2⟩ := sm_oneW_of h
    obtain ⟨N, z, k1, k2⟩ := hk _ _ _ _ e2
    refine ⟨N, z, k1, fun n hn => ?_⟩
    show sm_else P S (sm_run P S n) d M i ops lv st w cs (K n) = some z
    unfold sm_else
    split
    · next g inst ci a1 a2 a3 a4 r => exact absurd rfl (hno g inst ci a1 a2 a3 a4 r)
    · rw [e1]; exact k2 n hn
theorem sm_blkW_else {call : Nat → Nat → List Value → sm_W → (sm_Z → Prop) → Prop} {i : Instr} {ops : List Nat} {is : List (Instr × List Nat)} {lv : sm_V} {st : List Value} {w : sm_W} {cs : Nat × Nat} (h : sm_isE i = true) : sm_blkW P S call jmp d M fall Φ ((i, ops) :: is) lv st w cs = sm_elseW P S call d M i ops lv st w cs (fun lv st w cs => sm_blkW P S call jmp d M fall Φ is lv st w cs) := by
  cases i <;> first | rfl | cases h
set_option maxHeartbeats 4000000 in
theorem sm_blkW_of (hj : ∀ b lv st w cs, jmp b lv st w cs → sm_ev (fun n => J n b lv st w cs) Φ) : ∀ (is : List (Instr × List Nat)) (lv : sm_V) (st : List Value) (w : sm_W) (cs : Nat × Nat), sm_blkW P S (sm_cl P S) jmp d M fall Φ is lv st w cs → sm_ev (fun n => sm_blk P S (sm_run P S n) (J n) d M fall is lv st w cs) Φ := by
  intro is
  induction is with
  | nil => intro lv st w cs h; exact hj _ _ _ _ _ h
  | cons q is ih =>
    obtain ⟨i, ops⟩ := q
    intro lv st w cs h
    cases i with
    | goto off => exact hj _ _ _ _ _ h
    | ifCond c off => exact sm_w1_of (A := fun r n => J n (ops.getD 0 0) lv r w cs) (B := fun r n => J n (ops.getD 1 0) lv r w cs) (fun r h => hj _ _ _ _ _ h) (fun r h => hj _ _ _ _ _ h) h
    | if_icmp c off => exact sm_w2_of (A := fun r n => J n (ops.getD 0 0) lv r w cs) (B := fun r n => J n (ops.getD 1 0) lv r w cs) (fun r h => hj _ _ _ _ _ h) (fun r h => hj _ _ _ _ _ h) h
    | ifnull off => exact sm_wn_of (A := fun r n => J n (ops.getD 0 0) lv r w cs) (B := fun r n => J n (ops.getD 1 0) lv r w cs) (fun r h => hj _ _ _ _ _ h) (fun r h => hj _ _ _ _ _ h) h
    | ifnonnull off => exact sm_wn_of (A := fun r n => J n (ops.getD 1 0) lv r w cs) (B := fun r n => J n (ops.getD 0 0) lv r w cs) (fun r h => hj _ _ _ _ _ h) (fun r h => hj _ _ _ _ _ h) h
    | tableswitch df lo hi offs =>
      unfold sm_blkW at h
      dsimp only at h
      split at h
      · next x r => exact sm_wsw_of (K := fun b n => J n b lv r w cs) (fun b h => hj _ _ _ _ _ h) _ _ h
      · exact h.elim
    | lookupswitch df ps =>
      unfold sm_blkW at h
      dsimp only at h
      split at h
      · next x r => exact sm_wlo_of (K := fun b n => J n b lv r w cs) (fun b h => hj _ _ _ _ _ h) _ _ h
      · exact h.elim
    | ireturn =>
      unfold sm_blkW at h
      dsimp only at h
      split at h
      · next x =>
        obtain ⟨hc, h⟩ := sm_g_of h
        have hc := of_decide_eq_true hc
        cases hz : sm_isZ M.2.2.2.1 with
        | true =>
          rw [hz] at h
          obtain ⟨h1, h2⟩ := h
          refine ⟨0, _, h2, fun n _ => ?_⟩
          show (if cs = _ then (if sm_isZ M.2.2.2.1 = true then (if x = 0 ∨ x = 1 then _ else _) else _) else _) = _
          rw [if_pos hc, if_pos hz, if_pos h1]
        | false =>
          rw [hz] at h
          refine ⟨0, _, h, fun n _ => ?_⟩
          show (if cs = _ then (if sm_isZ M.2.2.2.1 = true then (if x = 0 ∨ x = 1 then _ else _) else _) else _) = _
          rw [if_pos hc, if_neg (by rw [hz]; decide)]
      · exact h.elim
    | lreturn =>
      unfold sm_blkW at h
      dsimp only at h
      split at h
      · obtain ⟨hc, h⟩ := sm_g_of h
        exact ⟨0, _, h, fun n _ => by show (if cs = _ then _ else _) = _; rw [if_pos (of_decide_eq_true hc)]⟩
      · exact h.elim
    | areturn =>
      unfold sm_blkW at h
      dsimp only at h
      split at h
      · obtain ⟨hc, h⟩ := sm_g_of h
        exact ⟨0, _, h, fun n _ => by show (if cs = _ then _ else _) = _; rw [if_pos (of_decide_eq_true hc)]⟩
      · exact h.elim
    | return_ =>
      unfold sm_blkW at h
      dsimp only at h
      split at h
      · obtain ⟨hc, h⟩ := sm_g_of h
        exact ⟨0, _, h, fun n _ => by show (if cs = _ then _ else _) = _; rw [if_pos (of_decide_eq_true hc)]⟩
      · exact h.elim
    | new x =>
      unfold sm_blkW at h
      dsimp only at h
      obtain ⟨hc, h⟩ := sm_g_of h
      simp only [Bool.and_eq_true, decide_eq_true_eq] at hc
      obtain ⟨N, z, k1, k2⟩ := ih _ _ _ _ h
      refine ⟨N, z, k1, fun n hn => ?_⟩
      show (if _ then _ else _) = _
      rw [if_neg (by omega)]
      exact k2 n hn
    | newarray at' =>
      unfold sm_blkW at h
      dsimp only at h
      split at h
      · obtain ⟨hc, h⟩ := sm_g_of h
        simp only [Bool.and_eq_true, decide_eq_true_eq] at hc
        obtain ⟨N, z, k1, k2⟩ := ih _ _ _ _ h
        refine ⟨N, z, k1, fun n hn => ?_⟩
        show (if _ then _ else _) = _
        rw [if_neg (by
          rintro (q | q | q | q | q)
          · exact hc.1.1.1.1 q
          · omega
          · omega
          · omega
          · omega)]
        exact k2 n hn
      · exact h.elim
    | _ =>
      rw [sm_blkW_else rfl] at h
      have k1 := sm_elseW_of (K := fun n lv st w cs => sm_blk P S (sm_run P S n) (J n) d M fall is lv st w cs) ih h
      obtain ⟨N, z, k2, k3⟩ := k1
      exact ⟨N, z, k2, fun n hn => by show sm_blk _ _ _ _ _ _ _ _ _ _ _ _ = _; rw [sm_blk_else rfl]; exact k3 n hn⟩
theorem sm_goW_of : ∀ (K b : Nat) (lv : sm_V) (st : List Value) (w : sm_W) (cs : Nat × Nat), sm_goW P S d f M Φ K b lv st w cs → sm_ev (fun n => sm_go P S (sm_run P S n) d f M K b lv st w cs) Φ := by
  intro K
  induction K with
  | zero => intro b lv st w cs h; exact h.elim
  | succ K ih =>
    intro b lv st w cs h
    unfold sm_goW at h
    obtain ⟨hb, h⟩ := sm_g_of h
    have hb := of_decide_eq_true hb
    cases hB : M.2.2.2.2.2.2.2.2[b]? with
    | none => rw [hB] at h; exact h.elim
    | some B =>
      obtain ⟨pcb, lo, fall, is⟩ := B
      rw [hB] at h
      cases lo with
      | some live =>
        dsimp only at h
        cases hp : sm_pick live lv with
        | none => rw [hp] at h; exact h.elim
        | some vs =>
          rw [hp] at h
          have e0 : ∀ n, sm_go P S (sm_run P S n) d f M (K + 1) b lv st w cs = sm_run P S n d f b vs st w cs := by
            intro n
            unfold sm_go
            rw [if_neg hb, hB]
            dsimp only
            rw [hp]
          simp only [e0]
          exact sm_ev_wp h
      | none =>
        dsimp only at h
        have e0 : ∀ n, sm_go P S (sm_run P S n) d f M (K + 1) b lv st w cs = sm_blk P S (sm_run P S n) (sm_go P S (sm_run P S n) d f M K) d M fall is lv st w cs := by
          intro n
          show sm_go P S (sm_run P S n) d f M (K + 1) b lv st w cs = _
          rw [sm_go, if_neg hb, hB]
        simp only [e0]
        exact sm_blkW_of ih _ _ _ _ _ h
/-- one round by conditions -/
theorem sm_wp_step {b : Nat} {vs st : List Value} {w : sm_W} {cs : Nat × Nat} (h : sm_FW P S d f b vs st w cs Φ) : sm_wp P S d f b vs st w cs Φ := by
  unfold sm_FW at h
  split at h
  · next pcb live fall is e =>
    obtain ⟨N, z, k1, k2⟩ := sm_blkW_of (J := fun n => sm_go P S (sm_run P S n) d f (P f) 64) (fun b lv st w cs h => sm_goW_of 64 b lv st w cs h) _ _ _ _ _ h
    refine ⟨N + 1, z, ?_, k1⟩
    show sm_F P S (sm_run P S N) d f b vs st w cs = some z
    unfold sm_F
    rw [e]
    exact k2 N (Nat.le_refl N)
  · exact h.elim
theorem sm_wp_mono {b : Nat} {vs st : List Value} {w : sm_W} {cs : Nat × Nat} {Ψ : sm_Z → Prop} (h : sm_wp P S d f b vs st w cs Ψ) (hq : ∀ z, Ψ z → Φ z) : sm_wp P S d f b vs st w cs Φ := by
  obtain ⟨n, z, h1, h2⟩ := h
  exact ⟨n, z, h1, hq z h2⟩
end SmRules
end
section
/-! the same checks with the pcs written out: the kernel then does not sum them again and again -/
def sm_hd (pcs : List Nat) (k : Nat → List Nat → Bool) : Bool := match pcs with
  | p' :: r => k p' r
  | [] => false
theorem sm_inw (k j : Nat) {w : Cond} (h : (sm_chunk k)[j]? = some w) (hg : goodWord w = true) : w ∈ sm_wl := List.mem_filter.mpr ⟨sm_chunk_in (List.mem_of_getElem? h), hg⟩
def sm_okMh (M : sm_M) : Bool := plainName M.1.cls && decide (M.1.cls ≠ "java/lang/invoke/MethodHandle") && decide (M.1.cls ≠ "java/lang/invoke/VarHandle") &&
  decide ((parseMethodDescriptor M.1.desc).map (fun d => d.parameters.length) = some M.2.2.2.2.1) && decide (M.2.2.1 ≤ 60) && (match (sm_blks M)[0]? with
    | some B => decide (B.1 = 0)
    | none => false)
theorem sm_okMg_of {P : Nat → sm_M} {M : sm_M} (h : sm_okMh M = true) (hb : ∀ B ∈ sm_blks M, sm_okL P M B.2.2.1 B.2.2.2 B.1 = true) : sm_okM P M = true := Bool.and_eq_true_iff.mpr ⟨h, List.all_eq_true.mpr hb⟩
end
