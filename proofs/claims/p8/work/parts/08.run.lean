theorem sm_okM_of {P : Nat → sm_M} {M : sm_M} (h : sm_okM P M = true) : plainName M.1.cls = true ∧ (M.1.cls ≠ "java/lang/invoke/MethodHandle" ∧ M.1.cls ≠ "java/lang/invoke/VarHandle" ∧ (parseMethodDescriptor M.1.desc).map (fun d => d.parameters.length) = some M.2.2.2.2.1) ∧ M.2.2.1 ≤ 60 ∧ (∃ B, (sm_blks M)[0]? = some B ∧ B.1 = 0) ∧ ∀ B ∈ sm_blks M, sm_okL P M B.2.2.1 B.2.2.2 B.1 = true := by
  unfold sm_okM at h
  simp only [Bool.and_eq_true, decide_eq_true_eq] at h
  obtain ⟨⟨⟨⟨⟨⟨h1, h2⟩, h3⟩, h6⟩, h7⟩, h8⟩, h9⟩ := h
  refine ⟨h1, ⟨h2, h3, h6⟩, h7, ?_, List.all_eq_true.mp h9⟩
  split at h8
  · next B e => exact ⟨B, e, of_decide_eq_true h8⟩
  · cases h8
theorem sm_gI2 {M : sm_M} (h : Cond.code M.1 M.2.1 M.2.2.1 M.2.2.2.1 ∈ sm_wl) : GoodIn sm_wl (sm_mw M) := fun w hw => by
  rcases List.mem_cons.mp hw with rfl | hw
  · exact ⟨h, sm_wl_good h⟩
  · exact ⟨hw, sm_wl_good hw⟩
theorem sm_rc_of {ci n : Nat} {lay : List (Nat × Nat)} {st : List Value} (h : sm_rc 1 ci lay st n = true) : ∃ X b rest, st = X ++ .ref b :: rest ∧ X.length = n ∧ lay[b]? = some (0, ci) := by
  unfold sm_rc at h
  split at h
  · next hh => cases hh
  · split at h
    · next b rest e =>
      split at h
      · next c' e2 =>
        have hc := of_decide_eq_true h
        subst hc
        refine ⟨st.take n, b, rest, ?_, ?_, e2⟩
        · rw [← e, List.take_append_drop]
        · have hl : n < st.length := by
            rcases Nat.lt_or_ge n st.length with q | q
            · exact q
            · rw [List.drop_eq_nil_of_le q] at e; cases e
          simp; omega
      · cases h
    · cases h
section SmRun
variable {base : Nat} {ct : Nat → ClassId} {tt : Nat → Nat} {D : va_G} {S : sm_C} {M : sm_M} {d : Nat} {p : Program} {l : Launch} {e : Env} {R : Room} {s : State} {m : MethodId} {args : Array Value} {below : List Frame} {meth : Method} {c : Code} {Q : State → Prop}
variable {pc : Nat} {lv lv' : sm_V} {st st' r : List Value} {lay : List (Nat × Nat)} {me : sm_Y} {w : sm_W} {cs : Nat × Nat} {ops : List Nat} {z z' : sm_Z} {P : Nat → sm_M}
theorem sm_tl (o : Option Value) (r : List Value) : (o.map (sm_cv base tt)).toList ++ r.map (sm_cv base tt) = (o.toList ++ r).map (sm_cv base tt) := by
  cases o <;> simp
set_option maxHeartbeats 4000000 in
theorem sm_k_V (okP : ∀ f, sm_OK P (P f)) (hX : sm_X base ct tt D S M (d + 1) p R s m args meth c) {x g ci p1 p2 p3 : Nat} {X rest : List Value} {b : Nat} (hcal : sm_Cal (P g)) (hd : decode M.2.1 pc = .ok (.invokevirtual x, 3)) (ho : sm_okV P M x g 1 ci p1 p2 p3 = true) (hb1 : w.1[b]? = some (0, ci)) (hn1 : X.length = (P g).2.2.2.2.1) (h8 : (rest.map fun v => v.category).sum ≤ 8) (hce1 : cs.1 + (P g).2.2.2.2.2.1 ≤ M.2.2.2.2.2.1) (hsl1 : cs.2 + (P g).2.2.2.2.2.2.1 ≤ M.2.2.2.2.2.2.1)
    (hM : Met l (P g).1 (sm_mw (P g)) (sm_rm d (P g)) (va_Pc ((Value.ref b :: X.reverse).map (sm_cv base tt)) (sm_Pre base ct tt D S w)) (sm_Q base ct tt D z') (P g).2.2.2.2.2.1 (P g).2.2.2.2.2.2.1 (sm_A base)) (hlen : z'.2.1.length = w.1.length + (P g).2.2.2.2.2.1) (hlen2 : z'.2.1.length ≤ 1000)
    (kk : sm_TW base ct tt D M p l e R s m args below meth c Q (pc + 3) lv (z'.1.toList ++ rest) z'.2 (cs.1 + (P g).2.2.2.2.2.1, cs.2 + (P g).2.2.2.2.2.2.1)) : sm_TW base ct tt D M p l e R s m args below meth c Q pc lv (X ++ .ref b :: rest) w cs := by
  obtain ⟨hx, hb, hml, hown, hts, hnm, hfr, hlo, hce, hsl, hG⟩ := hX
  obtain ⟨g1, ⟨g2, g3, g4⟩, g7, -, -⟩ := sm_okM_of (okP g).1
  obtain ⟨g5, g6⟩ := hcal
  unfold sm_okV at ho
  split at ho
  · next C T N hc =>
    simp only [Bool.and_eq_true, decide_eq_true_eq] at ho
    obtain ⟨⟨⟨⟨-, hcls⟩, o1⟩, o2⟩, o3⟩ := ho
    intro H locs ls hl hP hS hz hn hcs
    refine sm_sized hG.2.1 hP hS hz (fun hsz => ?_)
    have hT : GoodIn sm_wl (wsV M.1.cls x C (P g).1 (sm_mw (P g))) := fun u hu => by
      rcases List.mem_append.mp hu with h | h
      · simp only [List.mem_cons, List.not_mem_nil, or_false] at h
        rcases h with rfl | rfl | rfl | rfl
        · exact ⟨sm_has_in o1, sm_wl_good (sm_has_in o1)⟩
        · exact ⟨sm_has_in o2, sm_wl_good (sm_has_in o2)⟩
        · exact ⟨sm_has_in o3, sm_wl_good (sm_has_in o3)⟩
        · rw [← hcls]; exact ⟨g6, sm_wl_good g6⟩
      · exact sm_gI2 g5 u h
    have hatO : (sm_ws base ct tt w)[b]? = some (sm_ad base tt b, .inr (ci, sm_fs base tt w ci b)) := sm_atO (lay := w.1) (m := w.2) hn hb1
    have hst : (F0 m pc ls ((X ++ .ref b :: rest).map (sm_cv base tt))).stack = ((X.reverse).map (sm_cv base tt)).reverse ++ .ref (sm_ad base tt b) :: rest.map (sm_cv base tt) := by
      simp [List.map_reverse]; rfl
    refine sm_after (va_runV (As := (X.reverse).map (sm_cv base tt)) (rest := rest.map (sm_cv base tt)) (b := sm_ad base tt b) (C := C) ⟨hx, hb, hml, hown, hts⟩ hM (cwV (P g).2.2.2.2.1 hts hT rfl rfl rfl ⟨hcls, g2, g3, g4⟩ ⟨by show d + 1 + 1 ≤ R.frames; omega, by show 8 + ((P g).2.2.1 + 11) + (80 * d + 100) ≤ R.locals; omega⟩) ⟨sm_blind, va_recv hG.1 hP hc hatO, fun U hU hW => ⟨rfl, by rw [hU]; exact hsz, hn, by rw [hU]; exact hP, hG.moved hW hU hS⟩⟩ rfl (by simp [hn1]) hl.1 hst (lv_room (by rw [sm_cats]; exact h8)) hd ⟨by omega, by omega⟩) hS (fun H1 locs1 hP1 hS1 => ?_)
    rw [sm_tl]
    exact kk H1 locs1 ls hl hP1 hS1 (by show s.heap.size + (cs.1 + _) = base + z'.2.1.length; rw [hlen]; have : s.heap.size + cs.1 = base + w.1.length := hz; omega) hlen2 ⟨hce1, hsl1⟩
  · cases ho
set_option maxHeartbeats 4000000 in
theorem sm_k_S (okP : ∀ f, sm_OK P (P f)) (hX : sm_X base ct tt D S M (d + 1) p R s m args meth c) {x g nst p1 p2 : Nat} {X rest : List Value} (hcal : sm_Cal (P g)) (hd : decode M.2.1 pc = .ok (.invokestatic x, 3)) (ho : sm_okS P M x g 0 nst p1 p2 = true) (hn1 : X.length = (P g).2.2.2.2.1) (h8 : (rest.map fun v => v.category).sum ≤ 8) (hce1 : cs.1 + (P g).2.2.2.2.2.1 ≤ M.2.2.2.2.2.1) (hsl1 : cs.2 + (P g).2.2.2.2.2.2.1 ≤ M.2.2.2.2.2.2.1)
    (hM : Met l (P g).1 (sm_mw (P g)) (sm_rm d (P g)) (va_Pc ((X.reverse).map (sm_cv base tt)) (sm_Pre base ct tt D S w)) (sm_Q base ct tt D z') (P g).2.2.2.2.2.1 (P g).2.2.2.2.2.2.1 (sm_A base)) (hlen : z'.2.1.length = w.1.length + (P g).2.2.2.2.2.1) (hlen2 : z'.2.1.length ≤ 1000)
    (kk : sm_TW base ct tt D M p l e R s m args below meth c Q (pc + 3) lv (z'.1.toList ++ rest) z'.2 (cs.1 + (P g).2.2.2.2.2.1, cs.2 + (P g).2.2.2.2.2.2.1)) : sm_TW base ct tt D M p l e R s m args below meth c Q pc lv (X ++ rest) w cs := by
  obtain ⟨hx, hb, hml, hown, hts, hnm, hfr, hlo, hce, hsl, hG⟩ := hX
  obtain ⟨g1, ⟨g2, g3, g4⟩, g7, -, -⟩ := sm_okM_of (okP g).1
  obtain ⟨g5, g6⟩ := hcal
  simp only [sm_okS, Bool.and_eq_true, decide_eq_true_eq] at ho
  obtain ⟨⟨-, o1⟩, o2⟩ := ho
  intro H locs ls hl hP hS hz hn hcs
  refine sm_sized hG.2.1 hP hS hz (fun hsz => ?_)
  have hst : (F0 m pc ls ((X ++ rest).map (sm_cv base tt))).stack = ((X.reverse).map (sm_cv base tt)).reverse ++ rest.map (sm_cv base tt) := by
    simp [List.map_reverse]
  have hrm : (sm_rm d (P g)).frames + 1 ≤ R.frames ∧ 8 + ((P g).2.2.1 + 11) + (sm_rm d (P g)).locals ≤ R.locals := ⟨by show d + 1 + 1 ≤ R.frames; omega, by show 8 + ((P g).2.2.1 + 11) + (80 * d + 100) ≤ R.locals; omega⟩
  have hpre : PreS s H (va_Pc ((X.reverse).map (sm_cv base tt)) (sm_Pre base ct tt D S w)) ((X.reverse).map (sm_cv base tt)) := ⟨sm_blind, fun U hU hW => ⟨rfl, by rw [hU]; exact hsz, hn, by rw [hU]; exact hP, hG.moved hW hU hS⟩⟩
  have hgo : ∀ (H1 : Heap) (locs1 : List Loc), va_P D vwCl (sm_ws base ct tt z'.2) H1 → va_S (sm_A base) s.heap H1 locs1 → W p l e R s m args below meth c H1 locs1 (cs.1 + (P g).2.2.2.2.2.1) (cs.2 + (P g).2.2.2.2.2.2.1) Q (F0 m (pc + 3) ls ((z'.1.map (sm_cv base tt)).toList ++ rest.map (sm_cv base tt))) := by
    intro H1 locs1 hP1 hS1
    rw [sm_tl]
    exact kk H1 locs1 ls hl hP1 hS1 (by show s.heap.size + (cs.1 + _) = base + z'.2.1.length; rw [hlen]; have : s.heap.size + cs.1 = base + w.1.length := hz; omega) hlen2 ⟨hce1, hsl1⟩
  by_cases hns : nst = 1
  · rw [if_pos hns] at o1
    have o1 := of_decide_eq_true o1
    have hN := hG.2.2.2.2.2 _ (List.mem_of_getElem? o1)
    exact sm_after (va_runSN (As := (X.reverse).map (sm_cv base tt)) (rest := rest.map (sm_cv base tt)) ⟨hx, hb, hml, hown, hts⟩ hM ⟨va_cnB (P g).2.2.2.2.1 hts (sm_gI2 g5) rfl rfl rfl hN (hts _ g6) ⟨g2, g3, g4⟩ hrm, hts _ (sm_has_in o2), trivial⟩ hpre rfl (by simp [hn1]) hl.1 hst (lv_room (by rw [sm_cats]; exact h8)) hd ⟨by omega, by omega⟩) hS hgo
  · rw [if_neg hns] at o1
    have hT : GoodIn sm_wl (va_wsS M.1.cls x (P g).1 (sm_mw (P g))) := fun u hu => by
      rcases List.mem_append.mp hu with h | h
      · simp only [List.mem_cons, List.not_mem_nil, or_false] at h
        rcases h with rfl | rfl | rfl
        · exact ⟨sm_has_in o1, sm_wl_good (sm_has_in o1)⟩
        · exact ⟨sm_has_in o2, sm_wl_good (sm_has_in o2)⟩
        · exact ⟨g6, sm_wl_good g6⟩
      · exact sm_gI2 g5 u h
    exact sm_after (va_runS (As := (X.reverse).map (sm_cv base tt)) (rest := rest.map (sm_cv base tt)) ⟨hx, hb, hml, hown, hts⟩ hM (va_cwS (P g).2.2.2.2.1 hts hT rfl rfl rfl ⟨g2, g3, g4⟩ hrm) hpre rfl (by simp [hn1]) hl.1 hst (lv_room (by rw [sm_cats]; exact h8)) hd ⟨by omega, by omega⟩) hS hgo
set_option maxHeartbeats 4000000 in
theorem sm_k_P (okP : ∀ f, sm_OK P (P f)) (hX : sm_X base ct tt D S M (d + 1) p R s m args meth c) {x g nst p1 p2 : Nat} {X rest : List Value} {b : Nat} (hcal : sm_Cal (P g)) (hd : decode M.2.1 pc = .ok (.invokespecial x, 3)) (ho : sm_okP P M x g 1 nst p1 p2 = true) (hn1 : X.length = (P g).2.2.2.2.1) (h8 : (rest.map fun v => v.category).sum ≤ 8) (hce1 : cs.1 + (P g).2.2.2.2.2.1 ≤ M.2.2.2.2.2.1) (hsl1 : cs.2 + (P g).2.2.2.2.2.2.1 ≤ M.2.2.2.2.2.2.1)
    (hM : Met l (P g).1 (sm_mw (P g)) (sm_rm d (P g)) (va_Pc ((Value.ref b :: X.reverse).map (sm_cv base tt)) (sm_Pre base ct tt D S w)) (sm_Q base ct tt D z') (P g).2.2.2.2.2.1 (P g).2.2.2.2.2.2.1 (sm_A base)) (hlen : z'.2.1.length = w.1.length + (P g).2.2.2.2.2.1) (hlen2 : z'.2.1.length ≤ 1000)
    (kk : sm_TW base ct tt D M p l e R s m args below meth c Q (pc + 3) lv (z'.1.toList ++ rest) z'.2 (cs.1 + (P g).2.2.2.2.2.1, cs.2 + (P g).2.2.2.2.2.2.1)) : sm_TW base ct tt D M p l e R s m args below meth c Q pc lv (X ++ .ref b :: rest) w cs := by
  obtain ⟨hx, hb, hml, hown, hts, hnm, hfr, hlo, hce, hsl, hG⟩ := hX
  obtain ⟨g1, ⟨g2, g3, g4⟩, g7, -, -⟩ := sm_okM_of (okP g).1
  obtain ⟨g5, g6⟩ := hcal
  simp only [sm_okP, Bool.and_eq_true, decide_eq_true_eq] at ho
  obtain ⟨⟨⟨⟨-, hin⟩, hret⟩, o1⟩, o2⟩ := ho
  intro H locs ls hl hP hS hz hn hcs
  refine sm_sized hG.2.1 hP hS hz (fun hsz => ?_)
  have hst : (F0 m pc ls ((X ++ .ref b :: rest).map (sm_cv base tt))).stack = ((X.reverse).map (sm_cv base tt)).reverse ++ .ref (sm_ad base tt b) :: rest.map (sm_cv base tt) := by
    simp [List.map_reverse]; rfl
  have hwe : sm_mw (P g) = Cond.code (P g).1 (P g).2.1 (P g).2.2.1 none :: sm_wl := by rw [← hret]; rfl
  have hrm : (sm_rm d (P g)).frames + 1 ≤ R.frames ∧ 8 + ((P g).2.2.1 + 11) + (sm_rm d (P g)).locals ≤ R.locals := ⟨by show d + 1 + 1 ≤ R.frames; omega, by show 8 + ((P g).2.2.1 + 11) + (80 * d + 100) ≤ R.locals; omega⟩
  have hpre : PreS s H (va_Pc ((Value.ref b :: X.reverse).map (sm_cv base tt)) (sm_Pre base ct tt D S w)) (.ref (sm_ad base tt b) :: (X.reverse).map (sm_cv base tt)) := ⟨sm_blind, fun U hU hW => ⟨rfl, by rw [hU]; exact hsz, hn, by rw [hU]; exact hP, hG.moved hW hU hS⟩⟩
  have hgo : ∀ (H1 : Heap) (locs1 : List Loc), va_P D vwCl (sm_ws base ct tt z'.2) H1 → va_S (sm_A base) s.heap H1 locs1 → W p l e R s m args below meth c H1 locs1 (cs.1 + (P g).2.2.2.2.2.1) (cs.2 + (P g).2.2.2.2.2.2.1) Q (F0 m (pc + 3) ls ((z'.1.map (sm_cv base tt)).toList ++ rest.map (sm_cv base tt))) := by
    intro H1 locs1 hP1 hS1
    rw [sm_tl]
    exact kk H1 locs1 ls hl hP1 hS1 (by show s.heap.size + (cs.1 + _) = base + z'.2.1.length; rw [hlen]; have : s.heap.size + cs.1 = base + w.1.length := hz; omega) hlen2 ⟨hce1, hsl1⟩
  by_cases hns : nst = 1
  · rw [if_pos hns] at o1
    have o1 := of_decide_eq_true o1
    have hN := hG.2.2.2.2.2 _ (List.mem_of_getElem? o1)
    exact sm_after (va_runIN (As := (X.reverse).map (sm_cv base tt)) (rest := rest.map (sm_cv base tt)) (b := sm_ad base tt b) ⟨hx, hb, hml, hown, hts⟩ hM ⟨va_cnB (P g).2.2.2.2.1 hts (sm_gI2 g5) hwe rfl rfl hN (hts _ g6) ⟨g2, g3, g4⟩ hrm, hin, hts _ (sm_has_in o2)⟩ hpre rfl (by simp [hn1]) hl.1 hst (lv_room (by rw [sm_cats]; exact h8)) hd ⟨by omega, by omega⟩) hS hgo
  · rw [if_neg hns] at o1
    exact sm_after (va_runI (As := (X.reverse).map (sm_cv base tt)) (rest := rest.map (sm_cv base tt)) (b := sm_ad base tt b) ⟨hx, hb, hml, hown, hts⟩ hM (cwI (P g).2.2.2.2.1 hts (sm_gI2 g5) hwe rfl rfl (hts _ g6) (hts _ (sm_has_in o1)) (hts _ (sm_has_in o2)) hin ⟨g2, g3, g4⟩ hrm) hpre rfl (by simp [hn1]) hl.1 hst (lv_room (by rw [sm_cats]; exact h8)) hd ⟨by omega, by omega⟩) hS hgo
end SmRun
