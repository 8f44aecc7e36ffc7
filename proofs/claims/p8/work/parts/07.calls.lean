section SmCalls
variable {base : Nat} {ct : Nat → ClassId} {tt : Nat → Nat} {D : va_G} {S : sm_C} {M : sm_M} {d : Nat} {p : Program} {l : Launch} {e : Env} {R : Room} {s : State} {m : MethodId} {args : Array Value} {below : List Frame} {meth : Method} {c : Code} {Q : State → Prop}
variable {pc : Nat} {lv lv' : sm_V} {st st' r : List Value} {lay : List (Nat × Nat)} {me : sm_Y} {w : sm_W} {cs : Nat × Nat} {ops : List Nat} {z : sm_Z} {P : Nat → sm_M}
theorem sm_Aq {q : Nat} (hb : base ≤ s.heap.size) (h : s.heap.size ≤ q) : sm_A base q := Nat.le_trans hb h
/-- the address of a new cell -/
theorem sm_newq {H1 : Heap} {q n : Nat} {x : va_E} (hD : va_D (sm_A base) (sm_ws base ct tt w ++ [(q, x)])) (hP : va_P D vwCl (sm_ws base ct tt w ++ [(q, x)]) H1) (hz : H1.size ≤ base + w.1.length + 1) : q = base + w.1.length := by
  have hlen : (sm_ws base ct tt w).length = w.1.length := by simp [sm_ws]
  have hq : (sm_ws base ct tt w ++ [(q, x)])[w.1.length]? = some (q, x) := by
    rw [List.getElem?_append_right (by omega), hlen, Nat.sub_self]; rfl
  have h1 : base ≤ q := hD.2 _ _ hq
  have h2 : q < H1.size := (hP _ _ hq).lt
  rcases Nat.lt_or_ge q (base + w.1.length) with h | h
  · have hk : q - base < w.1.length := by omega
    have hg : (sm_ws base ct tt w ++ [(q, x)])[q - base]? = some (sm_E base ct tt w (q - base) w.1[q - base]) := by
      rw [List.getElem?_append_left (by omega), sm_ws_get, List.getElem?_eq_getElem hk]; rfl
    have := hD.1 _ _ _ _ hq hg (by show q = base + (q - base); omega)
    omega
  · omega
theorem sm_sizedX {H1 : Heap} {locs : List Loc} {g : JFrame} {n : Nat} {cells slots : Nat} (hz : s.heap.size + cells = n) (k : H1.size ≤ n → W p l e R s m args below meth c H1 locs cells slots Q g) : W p l e R s m args below meth c H1 locs cells slots Q g := by
  intro T hT X
  have h1 := X.heapSize
  rw [hT] at h1
  exact k (by omega) T hT X
set_option maxHeartbeats 4000000 in
theorem sm_k_new (cf : sm_CF) (hX : sm_X base ct tt D S M d p R s m args meth c) {x ci p1 p2 p3 : Nat} (hd : decode M.2.1 pc = .ok (.new x, 3)) (ho : sm_okN M x ci p1 p2 p3 = true) (hg : ¬ (1000 ≤ lay.length ∨ M.2.2.2.2.2.1 < cs.1 + 1 ∨ M.2.2.2.2.2.2.1 < cs.2 + sm_N ci))
    (kk : sm_TW base ct tt D M p l e R s m args below meth c Q (pc + 3) lv (.ref lay.length :: st) (lay ++ [(0, ci)], sm_row me.1 lay.length (fun _ => 0), me.2.1, sm_row me.2.2 lay.length (fun _ => none)) (cs.1 + 1, cs.2 + sm_N ci)) : sm_TW base ct tt D M p l e R s m args below meth c Q pc lv st (lay, me) cs := by
  obtain ⟨hx, hb, hml, hown, hts, hnm, hfr, hlo, hce, hsl, hG⟩ := hX
  unfold sm_okN at ho
  split at ho
  · next C T N hc =>
    simp only [Bool.and_eq_true] at ho
    obtain ⟨c1, c2, c3, c4, c5⟩ := cf ci C T N hc
    intro H locs ls hl hP hS hz hn hcs
    have hfs : ∀ j, j < N → defaultValue (sm_fty ci j) = vp_V (sm_fs base tt (lay ++ [(0, ci)], sm_row me.1 lay.length (fun _ => 0), me.2.1, sm_row me.2.2 lay.length (fun _ => none)) ci lay.length) j := by
      intro j hj
      obtain ⟨k0, k2, k1, k3⟩ := c5 j hj
      have e1 : vp_V (sm_fs base tt (lay ++ [(0, ci)], sm_row me.1 lay.length (fun _ => 0), me.2.1, sm_row me.2.2 lay.length (fun _ => none)) ci lay.length) j = sm_fv base tt (lay ++ [(0, ci)], sm_row me.1 lay.length (fun _ => 0), me.2.1, sm_row me.2.2 lay.length (fun _ => none)) ci lay.length j := by
        simp [vp_V, List.getD, sm_fs_get (show j < sm_N ci by rw [c4]; exact hj)]
      rw [e1]
      rcases (show sm_cd ci j = 0 ∨ sm_cd ci j = 1 ∨ sm_cd ci j = 2 by omega) with h | h | h
      · rw [k0 h]; simp [sm_fv, h, sm_row]; rfl
      · rcases k1 h with ⟨n, e⟩ | ⟨n, e⟩ <;> (rw [e]; simp [sm_fv, h, sm_row, sm_rv, sm_cv]; rfl)
      · rw [k2 h]; simp [sm_fv, h, sm_row]; rfl
    rw [c4] at hg kk
    refine va_new hx hb hts c1 (sm_fty ci) c2 hown (hts _ (sm_has_in ho.1.1)) (hts _ (sm_has_in ho.1.2)) (hts _ (sm_has_in ho.2)) hG.1 hP (sm_D _) hS (fun q h => sm_Aq hG.2.1 h) hc hfs (by omega) (by omega) hd (fun q H1 hP1 hD1 hS1 => ?_)
    refine sm_sizedX (n := base + lay.length + 1) (by have : s.heap.size + cs.1 = base + lay.length := hz; omega) (fun hsz => ?_)
    have hq := sm_newq (w := (lay, me)) (n := 0) hD1 hP1 hsz
    have hq : q = base + lay.length := hq
    subst hq
    have hpush := sm_push (base := base) (ct := ct) (tt := tt) (lay := lay) (m := me) (m' := (sm_row me.1 lay.length (fun _ => 0), me.2.1, sm_row me.2.2 lay.length (fun _ => none))) (q := (0, ci)) (fun k hk u => by apply sm_E_new <;> simp [sm_row, Nat.ne_of_lt hk])
    have hP2 : va_P D vwCl (sm_ws base ct tt (lay ++ [(0, ci)], sm_row me.1 lay.length (fun _ => 0), me.2.1, sm_row me.2.2 lay.length (fun _ => none))) H1 := by
      rw [hpush]; exact hP1
    have k1 := kk H1 locs ls hl hP2 hS1 (by show s.heap.size + (cs.1 + 1) = base + (lay ++ [(0, ci)]).length; have : s.heap.size + cs.1 = base + lay.length := hz; simp; omega) (by show (lay ++ [(0, ci)]).length ≤ 1000; simp; omega) ⟨by show cs.1 + 1 ≤ _; omega, by show cs.2 + N ≤ _; omega⟩
    have e2 : (Value.ref lay.length :: st).map (sm_cv base tt) = Value.ref (base + lay.length) :: st.map (sm_cv base tt) := by
      show Value.ref (sm_ad base tt lay.length) :: _ = _
      rw [sm_ad_w (by omega)]
    rw [e2] at k1
    exact k1
  · cases ho
theorem sm_comp {t : Nat} (h : t < 4) : componentBytes (sm_ty t) ≤ 8 := by
  match t, h with
  | 0, _ => decide
  | 1, _ => decide
  | 2, _ => decide
  | 3, _ => decide
set_option maxHeartbeats 4000000 in
theorem sm_k_newa (hX : sm_X base ct tt D S M d p R s m args meth c) {at' : ArrayType} {t pos : Nat} {n : Int32} (hd : decode M.2.1 pc = .ok (.newarray at', 2)) (ho : sm_okA M at' t pos = true) (hg : ¬ (n < 0 ∨ 100000 < n.toNatClampNeg ∨ 1000 ≤ lay.length ∨ M.2.2.2.2.2.1 < cs.1 + 1 ∨ M.2.2.2.2.2.2.1 < cs.2 + n.toNatClampNeg))
    (kk : sm_TW base ct tt D M p l e R s m args below meth c Q (pc + 2) lv (.ref lay.length :: r) (lay ++ [(t + 1, n.toNatClampNeg)], sm_row me.1 lay.length (fun _ => 0), sm_row me.2.1 lay.length (fun _ => 0), me.2.2) (cs.1 + 1, cs.2 + n.toNatClampNeg)) : sm_TW base ct tt D M p l e R s m args below meth c Q pc lv (.int n :: r) (lay, me) cs := by
  obtain ⟨hx, hb, hml, hown, hts, hnm, hfr, hlo, hce, hsl, hG⟩ := hX
  simp only [sm_okA, Bool.and_eq_true, decide_eq_true_eq] at ho
  obtain ⟨⟨ht, hty⟩, hpos⟩ := ho
  intro H locs ls hl hP hS hz hn hcs
  have hcomp := sm_comp ht
  refine va_newa (a0 := (n.toNatClampNeg, if t = 3 then .inr (.inl (fun _ => 0)) else .inl (fun _ => 0))) hx hb (hts _ (sm_has_in hpos)) hty hG.1 hP (sm_D _) hS (fun q h => sm_Aq hG.2.1 h) (fun cA => ?_) (fun q => hg (Or.inl q)) rfl ?_ (by omega) (by omega) hd (fun q cA H1 hK1 hP1 hD1 hS1 => ?_)
  · match t, ht with
    | 0, _ => rfl
    | 1, _ => rfl
    | 2, _ => rfl
    | 3, _ => rfl
  · have h1 : n.toNatClampNeg ≤ 100000 := by omega
    exact Nat.le_trans (Nat.mul_le_mul h1 hcomp) (by decide)
  · have hcA : cA = ct t := by
      have h1 := (hK1.2 4 (cA, sm_ty t) rfl).2
      have h2 : ∃ ty, (sm_tys ct)[t]? = some (ct t, ty) ∧ ty = sm_ty t := by
        match t, ht with
        | 0, _ => exact ⟨_, rfl, rfl⟩
        | 1, _ => exact ⟨_, rfl, rfl⟩
        | 2, _ => exact ⟨_, rfl, rfl⟩
        | 3, _ => exact ⟨_, rfl, rfl⟩
      obtain ⟨ty, h3, rfl⟩ := h2
      have h4 := (hG.1.2 t _ h3).2
      match t, ht, h1, h4 with
      | 0, _, h1, h4 => exact Option.some.inj (h1.symm.trans h4)
      | 1, _, h1, h4 => exact Option.some.inj (h1.symm.trans h4)
      | 2, _, h1, h4 => exact Option.some.inj (h1.symm.trans h4)
      | 3, _, h1, h4 => exact Option.some.inj (h1.symm.trans h4)
    subst hcA
    refine sm_sizedX (n := base + lay.length + 1) (by have : s.heap.size + cs.1 = base + lay.length := hz; omega) (fun hsz => ?_)
    have hq := sm_newq (w := (lay, me)) (n := 0) hD1 hP1 hsz
    have hq : q = base + lay.length := hq
    subst hq
    have hpush := sm_push (base := base) (ct := ct) (tt := tt) (lay := lay) (m := me) (m' := (sm_row me.1 lay.length (fun _ => 0), sm_row me.2.1 lay.length (fun _ => 0), me.2.2)) (q := (t + 1, n.toNatClampNeg)) (fun k hk u => by apply sm_E_new <;> simp [sm_row, Nat.ne_of_lt hk])
    have hP2 : va_P D vwCl (sm_ws base ct tt (lay ++ [(t + 1, n.toNatClampNeg)], sm_row me.1 lay.length (fun _ => 0), sm_row me.2.1 lay.length (fun _ => 0), me.2.2)) H1 := by
      rw [hpush]
      have e3 : (sm_E base ct tt (lay ++ [(t + 1, n.toNatClampNeg)], sm_row me.1 lay.length (fun _ => 0), sm_row me.2.1 lay.length (fun _ => 0), me.2.2) lay.length (t + 1, n.toNatClampNeg)).2 = .inl (ct t, n.toNatClampNeg, if t = 3 then .inr (.inl (fun _ => 0)) else .inl (fun _ => 0)) := by
        simp [sm_E, sm_row]
      rw [e3]; exact hP1
    have k1 := kk H1 locs ls hl hP2 hS1 (by show s.heap.size + (cs.1 + 1) = base + (lay ++ [(t + 1, n.toNatClampNeg)]).length; have : s.heap.size + cs.1 = base + lay.length := hz; simp; omega) (by show (lay ++ [(t + 1, n.toNatClampNeg)]).length ≤ 1000; simp; omega) ⟨by show cs.1 + 1 ≤ _; omega, by show cs.2 + n.toNatClampNeg ≤ _; omega⟩
    have e2 : (Value.ref lay.length :: r).map (sm_cv base tt) = Value.ref (base + lay.length) :: r.map (sm_cv base tt) := by
      show Value.ref (sm_ad base tt lay.length) :: _ = _
      rw [sm_ad_w (by omega)]
    rw [e2] at k1
    exact k1
end SmCalls
