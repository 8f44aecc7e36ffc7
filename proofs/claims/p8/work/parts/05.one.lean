/-! the instructions that stay in their block -/
def sm_ln : Instr → Nat
  | .bipush _ => 2
  | .iload _ => 2
  | .lload _ => 2
  | .aload _ => 2
  | .istore _ => 2
  | .lstore _ => 2
  | .astore _ => 2
  | .ldc _ => 2
  | .newarray _ => 2
  | .sipush _ => 3
  | .ldc_w _ => 3
  | .ldc2_w _ => 3
  | .iinc _ _ => 3
  | .getfield _ => 3
  | .putfield _ => 3
  | .getstatic _ => 3
  | .invokevirtual _ => 3
  | .invokestatic _ => 3
  | .invokespecial _ => 3
  | .new _ => 3
  | .goto _ => 3
  | .ifCond _ _ => 3
  | .if_icmp _ _ => 3
  | .ifnull _ => 3
  | .ifnonnull _ => 3
  | _ => 1
def sm_fl (M : sm_M) (x : Nat) (ci k pos : Nat) : Bool := match vwCl[ci]? with
  | some (C, T, N) => decide (k < N) && sm_has pos (.fieldLink M.1.cls x C (T k).2.1 (T k).2.2.1) && decide ((T k).1 = C)
  | none => false
def sm_fp (M : sm_M) (ci k : Nat) : Bool := match vwCl[ci]? with
  | some (_, T, _) => if (T k).2.2.2 = true then decide (M.1.name = "<init>") && decide ((T k).1 = M.1.cls) else true
  | none => false
def sm_gs (M : sm_M) (x a pos : Nat) : Bool := match sm_stn[a - 1000]? with
  | some q => decide (1000 ≤ a) && sm_has pos (.fieldLink M.1.cls x q.1 q.2.1 q.2.2)
  | none => false
def sm_okst (M : sm_M) (x : Nat) (ops : List Nat) : Bool := match ops with
  | 0 :: r => sm_has (r.getD 0 0) (.methodLink M.1.cls x arraycopyName) && sm_has (r.getD 1 0) (.native arraycopyName) && sm_has (r.getD 2 0) (.static arraycopyName) && sm_has (r.getD 3 0) (.initialized "java/lang/System")
  | 1 :: r => sm_has (r.getD 0 0) (.methodLink M.1.cls x Lib.Math.max.name) && sm_has (r.getD 1 0) (.static Lib.Math.max.name)
  | 2 :: r => sm_has (r.getD 0 0) (.methodLink M.1.cls x Lib.Math.min.name) && sm_has (r.getD 1 0) (.static Lib.Math.min.name)
  | 3 :: r => sm_has (r.getD 0 0) (.methodLink M.1.cls x Lib.Math.abs.name) && sm_has (r.getD 1 0) (.static Lib.Math.abs.name)
  | _ => false
def sm_ok1 (M : sm_M) (i : Instr) (ops : List Nat) : Bool := match i with
  | .getfield x => sm_fl M x (ops.getD 0 0) (ops.getD 1 0) (ops.getD 2 0)
  | .putfield x => sm_fl M x (ops.getD 0 0) (ops.getD 1 0) (ops.getD 2 0) && sm_fp M (ops.getD 0 0) (ops.getD 1 0)
  | .ldc x => sm_has (ops.getD 1 0) (.constant M.1.cls x (Int32.ofNat (ops.getD 0 0)))
  | .ldc_w x => sm_has (ops.getD 1 0) (.constant M.1.cls x (Int32.ofNat (ops.getD 0 0)))
  | .ldc2_w x => sm_has (ops.getD 1 0) (.constantLong M.1.cls x (Int64.ofNat (ops.getD 0 0)))
  | .getstatic x => sm_gs M x (ops.getD 0 0) (ops.getD 1 0)
  | .invokestatic x => sm_okst M x ops
  | .invokespecial x => sm_has (ops.getD 0 0) (.methodLink M.1.cls x Lib.objectInit) && sm_has (ops.getD 1 0) (.instanceMethod Lib.objectInit) && sm_has (ops.getD 2 0) (.code Lib.objectInit ⟨#[0xb1]⟩ 1 none)
  | _ => true
theorem sm_tt0 {ct : Nat → ClassId} : (sm_tys ct)[0]? = some (ct 0, .int) := rfl
theorem sm_tt1 {ct : Nat → ClassId} : (sm_tys ct)[1]? = some (ct 1, .byte) := rfl
theorem sm_tt2 {ct : Nat → ClassId} : (sm_tys ct)[2]? = some (ct 2, .boolean) := rfl
theorem sm_tt3 {ct : Nat → ClassId} : (sm_tys ct)[3]? = some (ct 3, .long) := rfl
theorem sm_ttt {ct : Nat → ClassId} {t : Nat} (h : t < 4) : ∃ ty, (sm_tys ct)[t]? = some (ct t, ty) := by
  match t, h with
  | 0, _ => exact ⟨_, rfl⟩
  | 1, _ => exact ⟨_, rfl⟩
  | 2, _ => exact ⟨_, rfl⟩
  | 3, _ => exact ⟨_, rfl⟩
/-! the words of the three of Math: their code is among the tables -/
def sm_MW : Prop := Cond.code Lib.Math.max.name Lib.Math.max.code 2 (some .int) ∈ sm_wl ∧ Cond.code Lib.Math.min.name Lib.Math.min.code 2 (some .int) ∈ sm_wl ∧ Cond.code Lib.Math.abs.name Lib.Math.abs.code 1 (some .int) ∈ sm_wl ∧ Cond.initialized "java/lang/Math" ∈ sm_wl
theorem sm_mth : sm_MW := ⟨(sm_inw0 3 121 rfl rfl), (sm_inw0 2 148 rfl rfl), (sm_inw0 4 0 rfl rfl), (sm_inw0 0 15 rfl rfl)⟩
section SmOne
variable {base : Nat} {ct : Nat → ClassId} {tt : Nat → Nat} {D : va_G} {S : sm_C} {M : sm_M} {d : Nat} {p : Program} {l : Launch} {e : Env} {R : Room} {s : State} {m : MethodId} {args : Array Value} {below : List Frame} {meth : Method} {c : Code} {Q : State → Prop}
variable {pc : Nat} {lv lv' : sm_V} {st st' r : List Value} {lay : List (Nat × Nat)} {me me' : sm_Y} {cs : Nat × Nat} {ops : List Nat}
theorem sm_fl_of {x ci k pos : Nat} (h : sm_fl M x ci k pos = true) : ∃ C T N, vwCl[ci]? = some (C, T, N) ∧ k < N ∧ (Cond.fieldLink M.1.cls x C (T k).2.1 (T k).2.2.1) ∈ sm_wl ∧ (T k).1 = C := by
  unfold sm_fl at h; split at h
  · next C T N e => simp only [Bool.and_eq_true, decide_eq_true_eq] at h; exact ⟨C, T, N, e, h.1.1, sm_has_in h.1.2, h.2⟩
  · cases h
set_option maxHeartbeats 4000000 in
theorem sm_k_get (cf : sm_CF) (hX : sm_X base ct tt D S M d p R s m args meth c) {x ci k pos : Nat} (hd : decode M.2.1 pc = .ok (.getfield x, 3)) (ho : sm_fl M x ci k pos = true) (h : sm_get lay me ci k st = some st') (kk : sm_TW base ct tt D M p l e R s m args below meth c Q (pc + 3) lv st' (lay, me) cs) : sm_TW base ct tt D M p l e R s m args below meth c Q pc lv st (lay, me) cs := by
  obtain ⟨a, r, rfl, ha, hv⟩ := sm_get_of h
  obtain ⟨C, T, N, hc, hk, hw, hT⟩ := sm_fl_of ho
  obtain ⟨c1, -, -, c4, -⟩ := cf ci C T N hc
  obtain ⟨hx, hb, -, hown, hts, -, -, -, -, -, hG⟩ := hX
  intro H locs ls hl hP hS hz hn hcs
  have hfv : (sm_fs base tt (lay, me) ci a)[k]? = some (sm_fv base tt (lay, me) ci a k) := sm_fs_get (by rw [c4]; exact hk)
  refine va_get hx hb hts c1 hown hG.1 hP a (sm_atO hn ha) hc k hk (hts _ hw) (fun z hz => by rw [hT] at hz; exact hz) hfv hd ?_
  rcases hv with ⟨h1, rfl⟩ | ⟨h1, rfl⟩
  · have e : sm_fv base tt (lay, me) ci a k = sm_cv base tt (sm_rv (me.2.2 a k)) := by simp [sm_fv, h1]
    rw [e]; exact kk H locs ls hl hP hS hz hn hcs
  · have e : sm_fv base tt (lay, me) ci a k = .int (me.1 a k) := by simp [sm_fv, h1]
    rw [e]; exact kk H locs ls hl hP hS hz hn hcs
set_option maxHeartbeats 4000000 in
theorem sm_k_putG (cf : sm_CF) (hX : sm_X base ct tt D S M d p R s m args meth c) {x ci k pos a : Nat} {v : Value} (hd : decode M.2.1 pc = .ok (.putfield x, 3)) (ho : sm_fl M x ci k pos = true) (hf : sm_fp M ci k = true) (ha : lay[a]? = some (0, ci)) (hnar : narrow (sm_fty ci k) (sm_cv base tt v) = sm_cv base tt v) (hfit : fits (sm_fty ci k) (sm_cv base tt v) = true)
    (hw' : lay.length ≤ 1000 → (sm_ws base ct tt (lay, me)).set a (sm_ad base tt a, .inr (ci, (sm_fs base tt (lay, me) ci a).set k (sm_cv base tt v))) = sm_ws base ct tt (lay, me')) (kk : sm_TW base ct tt D M p l e R s m args below meth c Q (pc + 3) lv r (lay, me') cs) : sm_TW base ct tt D M p l e R s m args below meth c Q pc lv (v :: .ref a :: r) (lay, me) cs := by
  obtain ⟨C, T, N, hc, hk, hw, hT⟩ := sm_fl_of ho
  obtain ⟨c1, c2, c3, c4, -⟩ := cf ci C T N hc
  obtain ⟨hx, hb, -, hown, hts, hnm, -, -, -, -, hG⟩ := hX
  intro H locs ls hl hP hS hz hn hcs
  unfold sm_fp at hf
  rw [hc] at hf
  by_cases hfin : (T k).2.2.2 = true
  · simp only [hfin, if_true, Bool.and_eq_true, decide_eq_true_eq] at hf
    refine va_putF hx hb hts c1 (sm_fty ci) c2 c3 hown hG.1 hP (sm_D _) hS a (sm_atO hn ha) hc k hk (hts _ hw) (fun z hz => by rw [hT] at hz; exact hz) hfin (hnm hf.1) hf.2 (c2 k hk) hnar hfit (by rw [sm_fs_len, c4]; exact hk) hd (fun H1 locs1 hP1 _ hS1 => ?_)
    rw [hw' hn] at hP1
    exact kk H1 locs1 ls hl hP1 hS1 hz hn hcs
  · refine va_put hx hb hts c1 (sm_fty ci) c2 c3 hown hG.1 hP (sm_D _) hS a (sm_atO hn ha) hc k hk (hts _ hw) (fun z hz => by rw [hT] at hz; exact hz) (by simpa using hfin) (c2 k hk) hnar hfit (by rw [sm_fs_len, c4]; exact hk) hd (fun H1 locs1 hP1 _ hS1 => ?_)
    rw [hw' hn] at hP1
    exact kk H1 locs1 ls hl hP1 hS1 hz hn hcs
theorem sm_k_put (cf : sm_CF) (hX : sm_X base ct tt D S M d p R s m args meth c) {x ci k pos : Nat} (hd : decode M.2.1 pc = .ok (.putfield x, 3)) (ho : sm_fl M x ci k pos = true) (hf : sm_fp M ci k = true) (h : sm_put lv lay me ci k st = some (lv', st', me')) (kk : sm_TW base ct tt D M p l e R s m args below meth c Q (pc + 3) lv' st' (lay, me') cs) : sm_TW base ct tt D M p l e R s m args below meth c Q pc lv st (lay, me) cs := by
  obtain ⟨a, v, rfl, ha, rfl, hv⟩ := sm_put_of h
  obtain ⟨C, T, N, hc, hk, hw, hT⟩ := sm_fl_of ho
  obtain ⟨-, -, -, c4, c5⟩ := cf ci C T N hc
  obtain ⟨k0, k2, k1, -⟩ := c5 k hk
  rcases hv with ⟨x, rfl, hc0, rfl⟩ | ⟨x, rfl, hc2, hx2, rfl⟩ | ⟨q, rfl, hc1, rfl⟩
  · exact sm_k_putG cf hX (v := .int x) hd ho hf ha (by rw [k0 hc0]; rfl) (by rw [k0 hc0]; rfl) (fun hn => sm_setFI hn ha (by rw [c4]; exact hk) (by omega)) kk
  · exact sm_k_putG cf hX (v := .int x) hd ho hf ha (by rw [k2 hc2]; rcases hx2 with rfl | rfl <;> rfl) (by rw [k2 hc2]; rcases hx2 with rfl | rfl <;> rfl) (fun hn => sm_setFI hn ha (by rw [c4]; exact hk) (by omega)) kk
  · exact sm_k_putG cf hX (v := sm_rv q) hd ho hf ha (by rcases k1 hc1 with ⟨n, e⟩ | ⟨n, e⟩ <;> (rw [e]; cases q <;> rfl)) (by rcases k1 hc1 with ⟨n, e⟩ | ⟨n, e⟩ <;> (rw [e]; cases q <;> rfl)) (fun hn => sm_setFR hn ha (by rw [c4]; exact hk) hc1) kk
theorem sm_k_iald (hX : sm_X base ct tt D S M d p R s m args meth c) (hd : decode M.2.1 pc = .ok (.iaload, 1)) (h : sm_gI S lay me st = some st') (kk : sm_TW base ct tt D M p l e R s m args below meth c Q (pc + 1) lv st' (lay, me) cs) : sm_TW base ct tt D M p l e R s m args below meth c Q pc lv st (lay, me) cs := by
  obtain ⟨i, a, r, rfl, hv⟩ := sm_gI_of h
  obtain ⟨hx, hb, -, hown, hts, hnm, -, -, -, -, hG⟩ := hX
  intro H locs ls hl hP hS hz hn hcs
  rcases hv with ⟨n, ha, hin, rfl⟩ | ⟨q, hq, hin, rfl⟩
  · exact va_iald hx hb hG.1 hP a 0 (sm_atI (t := 0) hn ha (by decide)) sm_tt0 hin hd (kk H locs ls hl hP hS hz hn hcs)
  · obtain ⟨h1, hT⟩ := hG.2.2.2.1 a q hq
    show W p l e R s m args below meth c H locs cs.1 cs.2 Q (F0 m pc ls (.int i :: .ref (sm_ad base tt a) :: r.map (sm_cv base tt)))
    rw [sm_ad_s h1]
    exact va_ti hx hb hT hS hin rfl hd (kk H locs ls hl hP hS hz hn hcs)
theorem sm_k_lald (hX : sm_X base ct tt D S M d p R s m args meth c) (hd : decode M.2.1 pc = .ok (.laload, 1)) (h : sm_gL lay me st = some st') (kk : sm_TW base ct tt D M p l e R s m args below meth c Q (pc + 1) lv st' (lay, me) cs) : sm_TW base ct tt D M p l e R s m args below meth c Q pc lv st (lay, me) cs := by
  obtain ⟨i, a, r, rfl, hv⟩ := sm_gL_of h
  obtain ⟨hx, hb, -, hown, hts, hnm, -, -, -, -, hG⟩ := hX
  intro H locs ls hl hP hS hz hn hcs
  rcases hv with ⟨n, ha, hin, rfl⟩ | ⟨q, hq, hin, rfl⟩
  · exact va_lald hx hb hG.1 hP a 3 (sm_atL hn ha) sm_tt3 hin hd (kk H locs ls hl hP hS hz hn hcs)
  · obtain ⟨h1, hT⟩ := hG.2.2.2.2.1 a q hq
    show W p l e R s m args below meth c H locs cs.1 cs.2 Q (F0 m pc ls (.int i :: .ref (sm_ad base tt a) :: r.map (sm_cv base tt)))
    rw [sm_ad_s h1]
    exact va_tl hx hb hT hS hin rfl hd (kk H locs ls hl hP hS hz hn hcs)
theorem sm_k_bald (hX : sm_X base ct tt D S M d p R s m args meth c) (hd : decode M.2.1 pc = .ok (.baload, 1)) (h : sm_gB lay me st = some st') (kk : sm_TW base ct tt D M p l e R s m args below meth c Q (pc + 1) lv st' (lay, me) cs) : sm_TW base ct tt D M p l e R s m args below meth c Q pc lv st (lay, me) cs := by
  obtain ⟨i, a, r, n, rfl, hv, hin, rfl⟩ := sm_gB_of h
  obtain ⟨hx, hb, -, hown, hts, hnm, -, -, -, -, hG⟩ := hX
  intro H locs ls hl hP hS hz hn hcs
  rcases hv with ha | ha
  · exact va_bald hx hb hG.1 hP a 1 (sm_atI (t := 1) hn ha (by decide)) sm_tt1 hin hd (kk H locs ls hl hP hS hz hn hcs)
  · exact va_zald hx hb hG.1 hP a 2 (sm_atI (t := 2) hn ha (by decide)) sm_tt2 hin hd (kk H locs ls hl hP hS hz hn hcs)
theorem sm_k_alen (hX : sm_X base ct tt D S M d p R s m args meth c) (hd : decode M.2.1 pc = .ok (.arraylength, 1)) (h : sm_len S lay st = some st') (kk : sm_TW base ct tt D M p l e R s m args below meth c Q (pc + 1) lv st' (lay, me) cs) : sm_TW base ct tt D M p l e R s m args below meth c Q pc lv st (lay, me) cs := by
  obtain ⟨a, r, rfl, hv⟩ := sm_len_of h
  obtain ⟨hx, hb, -, hown, hts, hnm, -, -, -, -, hG⟩ := hX
  intro H locs ls hl hP hS hz hn hcs
  rcases hv with ⟨t, n, ha, ht, rfl⟩ | ⟨q, hq, rfl⟩ | ⟨q, hq, rfl⟩
  · obtain ⟨y, rfl, hy⟩ := sm_atA (base := base) (ct := ct) (tt := tt) (m := me) hn ha
    obtain ⟨ty, hty⟩ := sm_ttt (ct := ct) ht
    exact va_alen hx hb hG.1 hP a t hy hty rfl hd (kk H locs ls hl hP hS hz hn hcs)
  · obtain ⟨h1, hT⟩ := hG.2.2.2.1 a q hq
    show W p l e R s m args below meth c H locs cs.1 cs.2 Q (F0 m pc ls (.ref (sm_ad base tt a) :: r.map (sm_cv base tt)))
    rw [sm_ad_s h1]
    exact va_tlen hx hb hT hS rfl hd (kk H locs ls hl hP hS hz hn hcs)
  · obtain ⟨h1, hT⟩ := hG.2.2.2.2.1 a q hq
    show W p l e R s m args below meth c H locs cs.1 cs.2 Q (F0 m pc ls (.ref (sm_ad base tt a) :: r.map (sm_cv base tt)))
    rw [sm_ad_s h1]
    exact va_tlen hx hb hT hS rfl hd (kk H locs ls hl hP hS hz hn hcs)
theorem sm_k_iast (hX : sm_X base ct tt D S M d p R s m args meth c) (hd : decode M.2.1 pc = .ok (.iastore, 1)) (h : sm_pI lv lay me st = some (lv', st', me')) (kk : sm_TW base ct tt D M p l e R s m args below meth c Q (pc + 1) lv' st' (lay, me') cs) : sm_TW base ct tt D M p l e R s m args below meth c Q pc lv st (lay, me) cs := by
  obtain ⟨x, i, a, n, rfl, ha, hin, rfl, rfl⟩ := sm_pI_of h
  obtain ⟨hx, hb, -, hown, hts, hnm, -, -, -, -, hG⟩ := hX
  intro H locs ls hl hP hS hz hn hcs
  refine va_iast hx hb hG.1 hP (sm_D _) hS a 0 (sm_atI (t := 0) hn ha (by decide)) sm_tt0 hin hd (fun H1 locs1 hP1 _ hS1 => ?_)
  rw [sm_setI (t := 0) hn ha (by decide)] at hP1
  exact kk H1 locs1 ls hl hP1 hS1 hz hn hcs
theorem sm_k_last (hX : sm_X base ct tt D S M d p R s m args meth c) (hd : decode M.2.1 pc = .ok (.lastore, 1)) (h : sm_pL lv lay me st = some (lv', st', me')) (kk : sm_TW base ct tt D M p l e R s m args below meth c Q (pc + 1) lv' st' (lay, me') cs) : sm_TW base ct tt D M p l e R s m args below meth c Q pc lv st (lay, me) cs := by
  obtain ⟨x, i, a, n, rfl, ha, hin, rfl, rfl⟩ := sm_pL_of h
  obtain ⟨hx, hb, -, hown, hts, hnm, -, -, -, -, hG⟩ := hX
  intro H locs ls hl hP hS hz hn hcs
  refine va_last hx hb hG.1 hP (sm_D _) hS a 3 (sm_atL hn ha) sm_tt3 hin hd (fun H1 locs1 hP1 _ hS1 => ?_)
  rw [sm_setL hn ha] at hP1
  exact kk H1 locs1 ls hl hP1 hS1 hz hn hcs
theorem sm_k_bast (hX : sm_X base ct tt D S M d p R s m args meth c) (hd : decode M.2.1 pc = .ok (.bastore, 1)) (h : sm_pB lv lay me st = some (lv', st', me')) (kk : sm_TW base ct tt D M p l e R s m args below meth c Q (pc + 1) lv' st' (lay, me') cs) : sm_TW base ct tt D M p l e R s m args below meth c Q pc lv st (lay, me) cs := by
  obtain ⟨x, i, a, n, rfl, hin, rfl, hv⟩ := sm_pB_of h
  obtain ⟨hx, hb, -, hown, hts, hnm, -, -, -, -, hG⟩ := hX
  intro H locs ls hl hP hS hz hn hcs
  rcases hv with ⟨ha, rfl⟩ | ⟨ha, rfl⟩
  · refine va_bast hx hb hG.1 hP (sm_D _) hS a 1 (sm_atI (t := 1) hn ha (by decide)) sm_tt1 hin hd (fun H1 locs1 hP1 _ hS1 => ?_)
    rw [sm_setI (t := 1) hn ha (by decide)] at hP1
    exact kk H1 locs1 ls hl hP1 hS1 hz hn hcs
  · refine va_zast hx hb hG.1 hP (sm_D _) hS a 2 (sm_atI (t := 2) hn ha (by decide)) sm_tt2 hin hd (fun H1 locs1 hP1 _ hS1 => ?_)
    rw [sm_setI (t := 2) hn ha (by decide)] at hP1
    exact kk H1 locs1 ls hl hP1 hS1 hz hn hcs
theorem sm_nfw : nativeFrameWords "java/lang/System" "arraycopy" 5 ≤ 60 := by decide +kernel
theorem sm_k_copy (hX : sm_X base ct tt D S M d p R s m args meth c) {x : Nat} (hd : decode M.2.1 pc = .ok (.invokestatic x, 3)) {r0 : List Nat} (ho : sm_okst M x (0 :: r0) = true) (h : sm_cpy lv lay me st = some (lv', st', me')) (kk : sm_TW base ct tt D M p l e R s m args below meth c Q (pc + 3) lv' st' (lay, me') cs) : sm_TW base ct tt D M p l e R s m args below meth c Q pc lv st (lay, me) cs := by
  obtain ⟨n, dp, a, sp, a0, n0, n1, rfl, ha0, ha, hi, rfl, rfl⟩ := sm_cpy_of h
  obtain ⟨hx, hb, hml, hown, hts, hnm, hfr, hlo, -, -, hG⟩ := hX
  have ho : (sm_has (r0.getD 0 0) (.methodLink M.1.cls x arraycopyName) && sm_has (r0.getD 1 0) (.native arraycopyName) && sm_has (r0.getD 2 0) (.static arraycopyName) && sm_has (r0.getD 3 0) (.initialized "java/lang/System")) = true := ho
  simp only [Bool.and_eq_true] at ho
  intro H locs ls hl hP hS hz hn hcs
  have hcat := sm_cats (base := base) (tt := tt) st'
  obtain ⟨nw, hnw, h60⟩ : ∃ nw, nativeFrameWords "java/lang/System" "arraycopy" 5 = nw ∧ nw ≤ 60 := ⟨_, rfl, sm_nfw⟩
  refine va_copyi hx hb (hml.trans hl.1.symm) hown (hts _ (sm_has_in ho.1.1.1)) (hts _ (sm_has_in ho.1.1.2)) (hts _ (sm_has_in ho.1.2)) (hts _ (sm_has_in ho.2)) hG.1 hP (sm_D _) hS a0 a 0 0 (sm_atI (t := 0) hn ha0 (by decide)) (sm_atI (t := 0) hn ha (by decide)) sm_tt0 sm_tt0 rfl (fun q => hi (Or.inl q)) (fun q => hi (Or.inr (Or.inl q))) (fun q => hi (Or.inr (Or.inr (Or.inl q)))) (Nat.not_lt.mp (fun q => hi (Or.inr (Or.inr (Or.inr (Or.inl q)))))) (Nat.not_lt.mp (fun q => hi (Or.inr (Or.inr (Or.inr (Or.inr (Or.inl q))))))) (fun _ _ => rfl) (Nat.le_trans (Nat.le_add_left 1 d) hfr) (by rw [hcat, hnw]; exact Nat.le_trans (Nat.add_le_add (Nat.not_lt.mp (fun q => hi (Or.inr (Or.inr (Or.inr (Or.inr (Or.inr q))))))) (Nat.add_le_add_right h60 11)) (Nat.le_trans (Nat.le_trans (by decide : 8 + (60 + 11) ≤ 100) (Nat.le_add_left 100 (80 * d))) hlo)) hd (fun H1 locs1 hP1 _ hS1 => ?_)
  rw [sm_setRow hn ha] at hP1
  exact kk H1 locs1 ls hl hP1 hS1 hz hn hcs
theorem sm_k_oin (hX : sm_X base ct tt D S M d p R s m args meth c) {x : Nat} (hd : decode M.2.1 pc = .ok (.invokespecial x, 3)) (ho : sm_ok1 M (.invokespecial x) ops = true) (h : sm_oin st = some st') (kk : sm_TW base ct tt D M p l e R s m args below meth c Q (pc + 3) lv st' (lay, me) cs) : sm_TW base ct tt D M p l e R s m args below meth c Q pc lv st (lay, me) cs := by
  obtain ⟨a, rfl, hc⟩ := sm_oin_of h
  obtain ⟨hx, hb, hml, hown, hts, hnm, hfr, hlo, -, -, hG⟩ := hX
  have ho : (sm_has (ops.getD 0 0) (.methodLink M.1.cls x Lib.objectInit) && sm_has (ops.getD 1 0) (.instanceMethod Lib.objectInit) && sm_has (ops.getD 2 0) (.code Lib.objectInit ⟨#[0xb1]⟩ 1 none)) = true := ho
  simp only [Bool.and_eq_true] at ho
  intro H locs ls hl hP hS hz hn hcs
  have hcat := sm_cats (base := base) (tt := tt) st'
  have hr := lv_room (m := m) (pc := pc) (ls := ls) (rest := (Value.ref a :: st').map (sm_cv base tt)) (st := st'.map (sm_cv base tt)) (by rw [hcat]; exact hc)
  exact W.objInit hx hb hown (hts _ (sm_has_in ho.1.1)) (hts _ (sm_has_in ho.1.2)) (hts _ (sm_has_in ho.2)) rfl (hl.1.trans hml.symm) rfl hd (by omega) (by omega) (kk H locs ls hl hP hS hz hn hcs)
theorem sm_k_max (hX : sm_X base ct tt D S M d p R s m args meth c) {x : Nat} (hd : decode M.2.1 pc = .ok (.invokestatic x, 3)) {r0 : List Nat} (ho : sm_okst M x (1 :: r0) = true) (h : sm_ma (fun x y => if x < y then y else x) st = some st') (kk : sm_TW base ct tt D M p l e R s m args below meth c Q (pc + 3) lv st' (lay, me) cs) : sm_TW base ct tt D M p l e R s m args below meth c Q pc lv st (lay, me) cs := by
  obtain ⟨a, b, r, rfl, hc, rfl⟩ := sm_ma_of h
  obtain ⟨hx, hb, hml, hown, hts, hnm, hfr, hlo, hce, hsl, hG⟩ := hX
  have ho : (sm_has (r0.getD 0 0) (.methodLink M.1.cls x Lib.Math.max.name) && sm_has (r0.getD 1 0) (.static Lib.Math.max.name)) = true := ho
  simp only [Bool.and_eq_true] at ho
  intro H locs ls hl hP hS hz hn hcs
  have hcat := sm_cats (base := base) (tt := tt) r
  exact va_mmax hx hb (hml.trans hl.1.symm) hown (hts _ (sm_has_in ho.1)) (hts _ (sm_has_in ho.2)) (hts _ sm_mth.2.2.2) (hts _ sm_mth.1) (by omega) (by rw [hcat]; omega) (Nat.le_trans hcs.1 hce) (Nat.le_trans hcs.2 hsl) hd (kk H locs ls hl hP hS hz hn hcs)
theorem sm_k_min (hX : sm_X base ct tt D S M d p R s m args meth c) {x : Nat} (hd : decode M.2.1 pc = .ok (.invokestatic x, 3)) {r0 : List Nat} (ho : sm_okst M x (2 :: r0) = true) (h : sm_ma (fun x y => if y < x then y else x) st = some st') (kk : sm_TW base ct tt D M p l e R s m args below meth c Q (pc + 3) lv st' (lay, me) cs) : sm_TW base ct tt D M p l e R s m args below meth c Q pc lv st (lay, me) cs := by
  obtain ⟨a, b, r, rfl, hc, rfl⟩ := sm_ma_of h
  obtain ⟨hx, hb, hml, hown, hts, hnm, hfr, hlo, hce, hsl, hG⟩ := hX
  have ho : (sm_has (r0.getD 0 0) (.methodLink M.1.cls x Lib.Math.min.name) && sm_has (r0.getD 1 0) (.static Lib.Math.min.name)) = true := ho
  simp only [Bool.and_eq_true] at ho
  intro H locs ls hl hP hS hz hn hcs
  have hcat := sm_cats (base := base) (tt := tt) r
  exact va_mmin hx hb (hml.trans hl.1.symm) hown (hts _ (sm_has_in ho.1)) (hts _ (sm_has_in ho.2)) (hts _ sm_mth.2.2.2) (hts _ sm_mth.2.1) (by omega) (by rw [hcat]; omega) (Nat.le_trans hcs.1 hce) (Nat.le_trans hcs.2 hsl) hd (kk H locs ls hl hP hS hz hn hcs)
theorem sm_k_abs (hX : sm_X base ct tt D S M d p R s m args meth c) {x : Nat} (hd : decode M.2.1 pc = .ok (.invokestatic x, 3)) {r0 : List Nat} (ho : sm_okst M x (3 :: r0) = true) (h : sm_mb (fun x => if 0 ≤ x then x else 0 - x) st = some st') (kk : sm_TW base ct tt D M p l e R s m args below meth c Q (pc + 3) lv st' (lay, me) cs) : sm_TW base ct tt D M p l e R s m args below meth c Q pc lv st (lay, me) cs := by
  obtain ⟨a, r, rfl, hc, rfl⟩ := sm_mb_of h
  obtain ⟨hx, hb, hml, hown, hts, hnm, hfr, hlo, hce, hsl, hG⟩ := hX
  have ho : (sm_has (r0.getD 0 0) (.methodLink M.1.cls x Lib.Math.abs.name) && sm_has (r0.getD 1 0) (.static Lib.Math.abs.name)) = true := ho
  simp only [Bool.and_eq_true] at ho
  intro H locs ls hl hP hS hz hn hcs
  have hcat := sm_cats (base := base) (tt := tt) r
  exact va_mabs hx hb (hml.trans hl.1.symm) hown (hts _ (sm_has_in ho.1)) (hts _ (sm_has_in ho.2)) (hts _ sm_mth.2.2.2) (hts _ sm_mth.2.2.1) (by omega) (by rw [hcat]; omega) (Nat.le_trans hcs.1 hce) (Nat.le_trans hcs.2 hsl) hd (kk H locs ls hl hP hS hz hn hcs)
theorem sm_k_st4 (hX : sm_X base ct tt D S M d p R s m args meth c) {x : Nat} (hd : decode M.2.1 pc = .ok (.invokestatic x, 3)) (ho : sm_okst M x ops = true) (h : sm_st4 ops lv lay me st = some (lv', st', me')) (kk : sm_TW base ct tt D M p l e R s m args below meth c Q (pc + 3) lv' st' (lay, me') cs) : sm_TW base ct tt D M p l e R s m args below meth c Q pc lv st (lay, me) cs := by
  unfold sm_st4 at h
  split at h
  · exact sm_k_copy hX hd ho h kk
  · obtain ⟨h2, rfl, rfl⟩ := sm_p_of h; exact sm_k_max hX hd ho h2 kk
  · obtain ⟨h2, rfl, rfl⟩ := sm_p_of h; exact sm_k_min hX hd ho h2 kk
  · obtain ⟨h2, rfl, rfl⟩ := sm_p_of h; exact sm_k_abs hX hd ho h2 kk
  · cases h
theorem sm_k_gets (hX : sm_X base ct tt D S M d p R s m args meth c) {x : Nat} (hd : decode M.2.1 pc = .ok (.getstatic x, 3)) (ho : sm_ok1 M (.getstatic x) ops = true) (kk : sm_TW base ct tt D M p l e R s m args below meth c Q (pc + 3) lv (.ref (ops.getD 0 0) :: st) (lay, me) cs) : sm_TW base ct tt D M p l e R s m args below meth c Q pc lv st (lay, me) cs := by
  obtain ⟨hx, hb, hml, hown, hts, hnm, hfr, hlo, -, -, hG⟩ := hX
  intro H locs ls hl hP hS hz hn hcs
  have ho : sm_gs M x (ops.getD 0 0) (ops.getD 1 0) = true := ho
  unfold sm_gs at ho
  split at ho
  · next q hq =>
    simp only [Bool.and_eq_true, decide_eq_true_eq] at ho
    have hz2 := hG.2.2.1 _ q hq
    refine va_gets hx hb hz2 hS hown (hts _ (sm_has_in ho.2)) (fun z hz => hz) hd ?_
    have k1 := kk H locs ls hl hP hS hz hn hcs
    have e1 : (Value.ref (ops.getD 0 0) :: st).map (sm_cv base tt) = Value.ref (tt (ops.getD 0 0 - 1000)) :: st.map (sm_cv base tt) := by
      show Value.ref (sm_ad base tt (ops.getD 0 0)) :: _ = _
      rw [sm_ad_s ho.1]
    rw [e1] at k1
    exact k1
  · cases ho
set_option maxHeartbeats 8000000 in
theorem sm_one_ok (cf : sm_CF) (hX : sm_X base ct tt D S M d p R s m args meth c) {i : Instr} (hd : decode M.2.1 pc = .ok (i, sm_ln i)) (ho : sm_ok1 M i ops = true) (h : sm_one S M.2.2.1 i ops lv st lay me = some (lv', st', me')) (k : sm_TW base ct tt D M p l e R s m args below meth c Q (pc + sm_ln i) lv' st' (lay, me') cs) : sm_TW base ct tt D M p l e R s m args below meth c Q pc lv st (lay, me) cs := by
  cases i with
  | iconst n => cases h; exact fun H locs ls hl hP hS hz hn hcs => lv_iconst hX.1 hX.2.1 hd rfl (k H locs ls hl hP hS hz hn hcs)
  | bipush n => cases h; exact fun H locs ls hl hP hS hz hn hcs => lv_bipush hX.1 hX.2.1 hd rfl (k H locs ls hl hP hS hz hn hcs)
  | sipush n => cases h; exact fun H locs ls hl hP hS hz hn hcs => lv_sipush hX.1 hX.2.1 hd rfl (k H locs ls hl hP hS hz hn hcs)
  | lconst n => cases h; exact fun H locs ls hl hP hS hz hn hcs => lv_lconst hX.1 hX.2.1 hd rfl (k H locs ls hl hP hS hz hn hcs)
  | aconst_null => cases h; exact fun H locs ls hl hP hS hz hn hcs => lv_null hX.1 hX.2.1 hd (k H locs ls hl hP hS hz hn hcs)
  | ldc x => cases h; exact fun H locs ls hl hP hS hz hn hcs => lv_ldc hX.1 hX.2.1 hX.2.2.2.1 (hX.2.2.2.2.1 _ (sm_has_in ho)) hd (k H locs ls hl hP hS hz hn hcs)
  | ldc_w x => cases h; exact fun H locs ls hl hP hS hz hn hcs => lv_ldcw hX.1 hX.2.1 hX.2.2.2.1 (hX.2.2.2.2.1 _ (sm_has_in ho)) hd (k H locs ls hl hP hS hz hn hcs)
  | ldc2_w x => cases h; exact fun H locs ls hl hP hS hz hn hcs => lv_ldc2 hX.1 hX.2.1 hX.2.2.2.1 (hX.2.2.2.2.1 _ (sm_has_in ho)) hd (k H locs ls hl hP hS hz hn hcs)
  | iload x => obtain ⟨h2, rfl, rfl⟩ := sm_p_of h; obtain ⟨v, hv, rfl⟩ := sm_ldi_of h2; exact fun H locs ls hl hP hS hz hn hcs => lv_iload hX.1 hX.2.1 hd (sm_lk_ls hl hv) (k H locs ls hl hP hS hz hn hcs)
  | iload_n x => obtain ⟨h2, rfl, rfl⟩ := sm_p_of h; obtain ⟨v, hv, rfl⟩ := sm_ldi_of h2; exact fun H locs ls hl hP hS hz hn hcs => lv_iload_n hX.1 hX.2.1 hd rfl (sm_lk_ls hl hv) (k H locs ls hl hP hS hz hn hcs)
  | lload x => obtain ⟨h2, rfl, rfl⟩ := sm_p_of h; obtain ⟨v, hv, rfl⟩ := sm_ldl_of h2; exact fun H locs ls hl hP hS hz hn hcs => lv_lload hX.1 hX.2.1 hd (sm_lk_ls hl hv) (k H locs ls hl hP hS hz hn hcs)
  | lload_n x => obtain ⟨h2, rfl, rfl⟩ := sm_p_of h; obtain ⟨v, hv, rfl⟩ := sm_ldl_of h2; exact fun H locs ls hl hP hS hz hn hcs => lv_lload_n hX.1 hX.2.1 hd rfl (sm_lk_ls hl hv) (k H locs ls hl hP hS hz hn hcs)
  | aload x => obtain ⟨h2, rfl, rfl⟩ := sm_p_of h; (rcases sm_lda_of h2 with ⟨v, hv, rfl⟩ | ⟨hv, rfl⟩; exact fun H locs ls hl hP hS hz hn hcs => lv_aload hX.1 hX.2.1 hd (sm_lk_ls hl hv) (k H locs ls hl hP hS hz hn hcs); exact fun H locs ls hl hP hS hz hn hcs => lv_aloadN hX.1 hX.2.1 hd (sm_lk_ls hl hv) (k H locs ls hl hP hS hz hn hcs))
  | aload_n x => obtain ⟨h2, rfl, rfl⟩ := sm_p_of h; (rcases sm_lda_of h2 with ⟨v, hv, rfl⟩ | ⟨hv, rfl⟩; exact fun H locs ls hl hP hS hz hn hcs => lv_aload_n hX.1 hX.2.1 hd rfl (sm_lk_ls hl hv) (k H locs ls hl hP hS hz hn hcs); exact fun H locs ls hl hP hS hz hn hcs => lv_aload_nN hX.1 hX.2.1 hd rfl (sm_lk_ls hl hv) (k H locs ls hl hP hS hz hn hcs))
  | istore x => obtain ⟨v, rfl, hi, rfl, rfl⟩ := sm_sti_of h; exact fun H locs ls hl hP hS hz hn hcs => lv_istore hX.1 hX.2.1 hd hl hi (sm_s1_map (v := .int v)) (fun ls hl => k H locs ls hl hP hS hz hn hcs)
  | istore_n x => obtain ⟨v, rfl, hi, rfl, rfl⟩ := sm_sti_of h; exact fun H locs ls hl hP hS hz hn hcs => lv_istore_n hX.1 hX.2.1 hd rfl hl hi (sm_s1_map (v := .int v)) (fun ls hl => k H locs ls hl hP hS hz hn hcs)
  | lstore x => obtain ⟨v, rfl, hi, rfl, rfl⟩ := sm_stl_of h; exact fun H locs ls hl hP hS hz hn hcs => lv_lstore hX.1 hX.2.1 hd hl hi (sm_s2_map (v := .long v)) (fun ls hl => k H locs ls hl hP hS hz hn hcs)
  | lstore_n x => obtain ⟨v, rfl, hi, rfl, rfl⟩ := sm_stl_of h; exact fun H locs ls hl hP hS hz hn hcs => lv_lstore_n hX.1 hX.2.1 hd rfl hl hi (sm_s2_map (v := .long v)) (fun ls hl => k H locs ls hl hP hS hz hn hcs)
  | astore x => obtain ⟨hi, rfl, hv⟩ := sm_sta_of h; (rcases hv with ⟨v, rfl, rfl⟩ | ⟨rfl, rfl⟩; exact fun H locs ls hl hP hS hz hn hcs => lv_astore hX.1 hX.2.1 hd hl hi (sm_s1_map (v := .ref v)) (fun ls hl => k H locs ls hl hP hS hz hn hcs); exact fun H locs ls hl hP hS hz hn hcs => lv_astoreN hX.1 hX.2.1 hd hl hi (sm_s1_map (v := .null)) (fun ls hl => k H locs ls hl hP hS hz hn hcs))
  | astore_n x => obtain ⟨hi, rfl, hv⟩ := sm_sta_of h; (rcases hv with ⟨v, rfl, rfl⟩ | ⟨rfl, rfl⟩; exact fun H locs ls hl hP hS hz hn hcs => lv_astore_n hX.1 hX.2.1 hd rfl hl hi (sm_s1_map (v := .ref v)) (fun ls hl => k H locs ls hl hP hS hz hn hcs); exact fun H locs ls hl hP hS hz hn hcs => lv_astore_nN hX.1 hX.2.1 hd rfl hl hi (sm_s1_map (v := .null)) (fun ls hl => k H locs ls hl hP hS hz hn hcs))
  | iinc x n => obtain ⟨v, hv, hi, rfl, rfl, rfl⟩ := sm_inc_of h; exact fun H locs ls hl hP hS hz hn hcs => (by obtain ⟨j, hj⟩ := List.getElem?_of_mem (List.mem_map.mpr ⟨(x, Value.int v), sm_lk_in hv, rfl⟩ : (x, Value.int v) ∈ lv.map (sm_cq base tt)); exact lv_iinc hX.1 hX.2.1 hd hl hj rfl hi (sm_s1_map (v := .int _)) (fun ls hl => k H locs ls hl hP hS hz hn hcs))
  | iadd => obtain ⟨h2, rfl, rfl⟩ := sm_p_of h; obtain ⟨x, y, r, rfl, rfl⟩ := sm_ii_of h2; exact fun H locs ls hl hP hS hz hn hcs => lv_iadd hX.1 hX.2.1 hd (k H locs ls hl hP hS hz hn hcs)
  | isub => obtain ⟨h2, rfl, rfl⟩ := sm_p_of h; obtain ⟨x, y, r, rfl, rfl⟩ := sm_ii_of h2; exact fun H locs ls hl hP hS hz hn hcs => lv_isub hX.1 hX.2.1 hd (k H locs ls hl hP hS hz hn hcs)
  | imul => obtain ⟨h2, rfl, rfl⟩ := sm_p_of h; obtain ⟨x, y, r, rfl, rfl⟩ := sm_ii_of h2; exact fun H locs ls hl hP hS hz hn hcs => lv_imul hX.1 hX.2.1 hd (k H locs ls hl hP hS hz hn hcs)
  | iand => obtain ⟨h2, rfl, rfl⟩ := sm_p_of h; obtain ⟨x, y, r, rfl, rfl⟩ := sm_ii_of h2; exact fun H locs ls hl hP hS hz hn hcs => lv_iand hX.1 hX.2.1 hd (k H locs ls hl hP hS hz hn hcs)
  | ior => obtain ⟨h2, rfl, rfl⟩ := sm_p_of h; obtain ⟨x, y, r, rfl, rfl⟩ := sm_ii_of h2; exact fun H locs ls hl hP hS hz hn hcs => lv_ior hX.1 hX.2.1 hd (k H locs ls hl hP hS hz hn hcs)
  | ixor => obtain ⟨h2, rfl, rfl⟩ := sm_p_of h; obtain ⟨x, y, r, rfl, rfl⟩ := sm_ii_of h2; exact fun H locs ls hl hP hS hz hn hcs => lv_ixor hX.1 hX.2.1 hd (k H locs ls hl hP hS hz hn hcs)
  | ishl => obtain ⟨h2, rfl, rfl⟩ := sm_p_of h; obtain ⟨x, y, r, rfl, rfl⟩ := sm_ii_of h2; exact fun H locs ls hl hP hS hz hn hcs => lv_ishl hX.1 hX.2.1 hd (k H locs ls hl hP hS hz hn hcs)
  | ishr => obtain ⟨h2, rfl, rfl⟩ := sm_p_of h; obtain ⟨x, y, r, rfl, rfl⟩ := sm_ii_of h2; exact fun H locs ls hl hP hS hz hn hcs => lv_ishr hX.1 hX.2.1 hd (k H locs ls hl hP hS hz hn hcs)
  | iushr => obtain ⟨h2, rfl, rfl⟩ := sm_p_of h; obtain ⟨x, y, r, rfl, rfl⟩ := sm_ii_of h2; exact fun H locs ls hl hP hS hz hn hcs => lv_iushr hX.1 hX.2.1 hd rfl (k H locs ls hl hP hS hz hn hcs)
  | idiv => obtain ⟨h2, rfl, rfl⟩ := sm_p_of h; obtain ⟨x, y, r, rfl, hy, rfl⟩ := sm_iq_of h2; exact fun H locs ls hl hP hS hz hn hcs => lv_idiv hX.1 hX.2.1 hd hy (k H locs ls hl hP hS hz hn hcs)
  | irem => obtain ⟨h2, rfl, rfl⟩ := sm_p_of h; obtain ⟨x, y, r, rfl, hy, rfl⟩ := sm_iq_of h2; exact fun H locs ls hl hP hS hz hn hcs => lv_irem hX.1 hX.2.1 hd hy (k H locs ls hl hP hS hz hn hcs)
  | ineg => obtain ⟨h2, rfl, rfl⟩ := sm_p_of h; obtain ⟨x, r, rfl, rfl⟩ := sm_i1_of h2; exact fun H locs ls hl hP hS hz hn hcs => lv_ineg hX.1 hX.2.1 hd (k H locs ls hl hP hS hz hn hcs)
  | i2b => obtain ⟨h2, rfl, rfl⟩ := sm_p_of h; obtain ⟨x, r, rfl, rfl⟩ := sm_i1_of h2; exact fun H locs ls hl hP hS hz hn hcs => lv_i2b hX.1 hX.2.1 hd rfl (k H locs ls hl hP hS hz hn hcs)
  | i2l => obtain ⟨h2, rfl, rfl⟩ := sm_p_of h; obtain ⟨x, r, rfl, rfl⟩ := sm_i1_of h2; exact fun H locs ls hl hP hS hz hn hcs => lv_i2l hX.1 hX.2.1 hd rfl (k H locs ls hl hP hS hz hn hcs)
  | l2i => obtain ⟨h2, rfl, rfl⟩ := sm_p_of h; obtain ⟨x, r, rfl, rfl⟩ := sm_l1_of h2; exact fun H locs ls hl hP hS hz hn hcs => lv_l2i hX.1 hX.2.1 hd rfl (k H locs ls hl hP hS hz hn hcs)
  | ladd => obtain ⟨h2, rfl, rfl⟩ := sm_p_of h; obtain ⟨x, y, r, rfl, rfl⟩ := sm_ll_of h2; exact fun H locs ls hl hP hS hz hn hcs => lv_ladd hX.1 hX.2.1 hd (k H locs ls hl hP hS hz hn hcs)
  | lsub => obtain ⟨h2, rfl, rfl⟩ := sm_p_of h; obtain ⟨x, y, r, rfl, rfl⟩ := sm_ll_of h2; exact fun H locs ls hl hP hS hz hn hcs => lv_lsub hX.1 hX.2.1 hd (k H locs ls hl hP hS hz hn hcs)
  | lmul => obtain ⟨h2, rfl, rfl⟩ := sm_p_of h; obtain ⟨x, y, r, rfl, rfl⟩ := sm_ll_of h2; exact fun H locs ls hl hP hS hz hn hcs => lv_lmul hX.1 hX.2.1 hd (k H locs ls hl hP hS hz hn hcs)
  | land => obtain ⟨h2, rfl, rfl⟩ := sm_p_of h; obtain ⟨x, y, r, rfl, rfl⟩ := sm_ll_of h2; exact fun H locs ls hl hP hS hz hn hcs => lv_land hX.1 hX.2.1 hd (k H locs ls hl hP hS hz hn hcs)
  | lor => obtain ⟨h2, rfl, rfl⟩ := sm_p_of h; obtain ⟨x, y, r, rfl, rfl⟩ := sm_ll_of h2; exact fun H locs ls hl hP hS hz hn hcs => lv_lor hX.1 hX.2.1 hd (k H locs ls hl hP hS hz hn hcs)
  | lshl => obtain ⟨h2, rfl, rfl⟩ := sm_p_of h; obtain ⟨x, y, r, rfl, rfl⟩ := sm_li_of h2; exact fun H locs ls hl hP hS hz hn hcs => lv_lshl hX.1 hX.2.1 hd rfl (k H locs ls hl hP hS hz hn hcs)
  | lshr => obtain ⟨h2, rfl, rfl⟩ := sm_p_of h; obtain ⟨x, y, r, rfl, rfl⟩ := sm_li_of h2; exact fun H locs ls hl hP hS hz hn hcs => lv_lshr hX.1 hX.2.1 hd rfl (k H locs ls hl hP hS hz hn hcs)
  | lcmp => obtain ⟨h2, rfl, rfl⟩ := sm_p_of h; obtain ⟨x, y, r, rfl, rfl⟩ := sm_lc_of h2; exact fun H locs ls hl hP hS hz hn hcs => W.lcmp hX.1 hX.2.1 hd (k H locs ls hl hP hS hz hn hcs)
  | dup => obtain ⟨h2, rfl, rfl⟩ := sm_p_of h; obtain ⟨v, r, rfl, hv, rfl⟩ := sm_dup_of h2; exact fun H locs ls hl hP hS hz hn hcs => lv_dup hX.1 hX.2.1 hd ((sm_cv_cat v).trans hv) (k H locs ls hl hP hS hz hn hcs)
  | dup_x1 => obtain ⟨h2, rfl, rfl⟩ := sm_p_of h; obtain ⟨v, u, r, rfl, hv, hu, rfl⟩ := sm_dupx1_of h2; exact fun H locs ls hl hP hS hz hn hcs => lv_dup_x1 hX.1 hX.2.1 hd ((sm_cv_cat v).trans hv) ((sm_cv_cat u).trans hu) (k H locs ls hl hP hS hz hn hcs)
  | dup2 => obtain ⟨h2, rfl, rfl⟩ := sm_p_of h; obtain ⟨v, u, r, rfl, hv, hu, rfl⟩ := sm_dup2_of h2; exact fun H locs ls hl hP hS hz hn hcs => lv_dup2_11 hX.1 hX.2.1 hd ((sm_cv_cat v).trans hv) ((sm_cv_cat u).trans hu) (k H locs ls hl hP hS hz hn hcs)
  | pop => obtain ⟨h2, rfl, rfl⟩ := sm_p_of h; obtain ⟨v, rfl, hv⟩ := sm_pop_of h2; exact fun H locs ls hl hP hS hz hn hcs => lv_pop hX.1 hX.2.1 hd ((sm_cv_cat v).trans hv) (k H locs ls hl hP hS hz hn hcs)
  | iaload => obtain ⟨h2, rfl, rfl⟩ := sm_p_of h; exact sm_k_iald hX hd h2 k
  | baload => obtain ⟨h2, rfl, rfl⟩ := sm_p_of h; exact sm_k_bald hX hd h2 k
  | laload => obtain ⟨h2, rfl, rfl⟩ := sm_p_of h; exact sm_k_lald hX hd h2 k
  | arraylength => obtain ⟨h2, rfl, rfl⟩ := sm_p_of h; exact sm_k_alen hX hd h2 k
  | iastore => exact sm_k_iast hX hd h k
  | bastore => exact sm_k_bast hX hd h k
  | lastore => exact sm_k_last hX hd h k
  | getfield x => obtain ⟨h2, rfl, rfl⟩ := sm_p_of h; exact sm_k_get cf hX hd ho h2 k
  | putfield x => exact sm_k_put cf hX hd (Bool.and_eq_true_iff.mp ho).1 (Bool.and_eq_true_iff.mp ho).2 h k
  | getstatic x => cases h; exact sm_k_gets hX hd ho k
  | invokestatic x => exact sm_k_st4 hX hd ho h k
  | invokespecial x => obtain ⟨h2, rfl, rfl⟩ := sm_p_of h; exact sm_k_oin hX hd ho h2 k
  | _ => cases h
end SmOne
