/-! each instruction: the machine does what the small machine does -/
def sm_stn : List (String × String × String) := [("NightHours$Tokens", "WORDS", "[J"), ("NightHours$Grammar", "STEPS", "[I"), ("NightHours$Grammar", "ROOM", "[I"), ("NightHours$Asking", "WITH_YES", "[I")]
def sm_nest : List (String × Nat × MethodName) := [("NightHours", 15, ⟨"NightHours$Reader", "<init>", "()V"⟩), ("NightHours$Reader", 11, ⟨"NightHours$Tokens", "<init>", "()V"⟩), ("NightHours$Reader", 20, ⟨"NightHours$Grammar", "<init>", "()V"⟩), ("NightHours", 29, ⟨"NightHours$Book", "<init>", "()V"⟩), ("NightHours$Told", 88, ⟨"NightHours", "valueAt", "([III)I"⟩), ("NightHours$Going", 144, ⟨"NightHours", "valueAt", "([III)I"⟩), ("NightHours$Spans", 28, ⟨"NightHours", "valueAt", "([III)I"⟩), ("NightHours$Book", 22, ⟨"NightHours", "valueAt", "([III)I"⟩)]
def sm_G (base : Nat) (ct : Nat → ClassId) (tt : Nat → Nat) (D : va_G) (S : sm_C) (U : State) : Prop :=
  va_K D vwCl (sm_tys ct) U ∧ base ≤ U.heap.size ∧
  (∀ k q, sm_stn[k]? = some q → va_Z q.1 q.2.1 q.2.2 (.ref (tt k)) (sm_A base) U U.heap) ∧
  (∀ p q, sm_sI S p = some q → 1000 ≤ p ∧ va_T .int (tt (p - 1000)) q.1 (fun j => .int (q.2 j)) (sm_A base) U U.heap) ∧
  (∀ p q, sm_sL p = some q → 1000 ≤ p ∧ va_T .long (tt (p - 1000)) q.1 (fun j => .long (q.2 j)) (sm_A base) U U.heap) ∧
  (∀ q ∈ sm_nest, va_Nw (.methodLinkNest q.1 q.2.1 q.2.2 "NightHours") U)
def sm_X (base : Nat) (ct : Nat → ClassId) (tt : Nat → Nat) (D : va_G) (S : sm_C) (M : sm_M) (d : Nat) (p : Program) (R : Room) (s : State) (m : MethodId) (args : Array Value) (meth : Method) (c : Code) : Prop :=
  p.tables.exec = Jvm.exec ∧ c.code = M.2.1 ∧ c.maxLocals = M.2.2.1 ∧ s.vm.findClass M.1.cls = some m.cls ∧ (∀ w ∈ sm_wl, w.before args s = true) ∧ (M.1.name = "<init>" → meth.name = "<init>") ∧
  d + 1 ≤ R.frames ∧ 80 * d + 100 ≤ R.locals ∧ M.2.2.2.2.2.1 ≤ R.cells ∧ M.2.2.2.2.2.2.1 ≤ R.slots ∧ sm_G base ct tt D S s
def sm_TW (base : Nat) (ct : Nat → ClassId) (tt : Nat → Nat) (D : va_G) (M : sm_M) (p : Program) (l : Launch) (e : Env) (R : Room) (s : State) (m : MethodId) (args : Array Value) (below : List Frame) (meth : Method) (c : Code) (Q : State → Prop)
    (pc : Nat) (lv : sm_V) (st : List Value) (w : sm_W) (cs : Nat × Nat) : Prop :=
  ∀ (H : Heap) (locs : List Loc) (ls : Array Slot), lv_has ls M.2.2.1 (lv.map (sm_cq base tt)) → va_P D vwCl (sm_ws base ct tt w) H → va_S (sm_A base) s.heap H locs → s.heap.size + cs.1 = base + w.1.length → w.1.length ≤ 1000 → (cs.1 ≤ M.2.2.2.2.2.1 ∧ cs.2 ≤ M.2.2.2.2.2.2.1) →
    W p l e R s m args below meth c H locs cs.1 cs.2 Q (F0 m pc ls (st.map (sm_cv base tt)))
/-! what the kinds' tables say -/
def sm_fty : Nat → Nat → FieldType
  | 0 => tyX0
  | 1 => tyX1
  | 2 => tyX2
  | 3 => tyX3
  | 4 => tyX4
  | 5 => tyX5
  | 6 => tyX6
  | 7 => tyX7
  | 8 => tyX8
  | 9 => tyX9
  | 10 => tyX10
  | 11 => tyX11
  | _ => tyX12
def sm_CF : Prop := ∀ (ci : Nat) (C : String) (T : u_T) (N : Nat), vwCl[ci]? = some (C, T, N) → (∀ w ∈ u_ws C T N, w ∈ sm_wl) ∧ (∀ k, k < N → parseFieldDescriptor (T k).2.2.1 = some (sm_fty ci k)) ∧ (∀ a, a < N → ∀ b, b < N → a ≠ b → (T a).2.1 ≠ (T b).2.1) ∧ sm_N ci = N ∧
  ∀ k, k < N → (sm_cd ci k = 0 → sm_fty ci k = .int) ∧ (sm_cd ci k = 2 → sm_fty ci k = .boolean) ∧ (sm_cd ci k = 1 → (∃ n, sm_fty ci k = .object n) ∨ ∃ t, sm_fty ci k = .array t) ∧ sm_cd ci k ≤ 2
theorem sm_lk_in : ∀ {lv : sm_V} {i : Nat} {v : Value}, sm_lk lv i = some v → (i, v) ∈ lv
  | (j, u) :: r, i, v, h => by
    unfold sm_lk at h
    split at h
    · next e => subst e; cases h; exact List.mem_cons_self
    · exact List.mem_cons_of_mem _ (sm_lk_in h)
theorem sm_lk_ls {base : Nat} {tt : Nat → Nat} {lv : sm_V} {i : Nat} {v : Value} {ls : Array Slot} {n : Nat} (hl : lv_has ls n (lv.map (sm_cq base tt))) (h : sm_lk lv i = some v) : ls[i]? = some (.val (sm_cv base tt v)) :=
  hl.2.2 (i, sm_cv base tt v) (List.mem_map.mpr ⟨(i, v), sm_lk_in h, rfl⟩)
theorem sm_s1_map {base : Nat} {tt : Nat → Nat} {lv : sm_V} {i : Nat} {v : Value} : (i, sm_cv base tt v) :: (lv.map (sm_cq base tt)).filter (fun q => !(q.1 == i) && !(q.1 + 1 == i && q.2.category == 2)) = (sm_s1 lv i v).map (sm_cq base tt) := by
  unfold sm_s1
  rw [List.map_cons, List.filter_map]
  congr 1
  congr 1
  refine List.filter_congr (fun q _ => ?_)
  simp [sm_cq, sm_cv_cat]
theorem sm_s2_map {base : Nat} {tt : Nat → Nat} {lv : sm_V} {i : Nat} {v : Value} : (i, sm_cv base tt v) :: (lv.map (sm_cq base tt)).filter (fun q => !(q.1 == i) && (!(q.1 == i + 1) && !(q.1 + 1 == i && q.2.category == 2))) = (sm_s2 lv i v).map (sm_cq base tt) := by
  unfold sm_s2
  rw [List.map_cons, List.filter_map]
  congr 1
  congr 1
  refine List.filter_congr (fun q _ => ?_)
  simp [sm_cq, sm_cv_cat]
section SmSteps
variable {base : Nat} {ct : Nat → ClassId} {tt : Nat → Nat} {D : va_G} {S : sm_C} {M : sm_M} {d : Nat} {p : Program} {l : Launch} {e : Env} {R : Room} {s : State} {m : MethodId} {args : Array Value} {below : List Frame} {meth : Method} {c : Code} {Q : State → Prop}
variable {pc : Nat} {lv lv' : sm_V} {st st' r : List Value} {lay : List (Nat × Nat)} {me me' : sm_Y} {cs : Nat × Nat} {ops : List Nat}
/-! what an outcome says of the stack -/
theorem sm_p_of {o : Option (List Value)} (h : sm_p lv me o = some (lv', st', me')) : o = some st' ∧ lv' = lv ∧ me' = me := by
  cases o with
  | none => cases h
  | some u => cases h; exact ⟨rfl, rfl, rfl⟩
theorem sm_ii_of {f : Int32 → Int32 → Int32} (h : sm_ii f st = some st') : ∃ x y r, st = .int y :: .int x :: r ∧ st' = .int (f x y) :: r := by
  unfold sm_ii at h; split at h
  · cases h; exact ⟨_, _, _, rfl, rfl⟩
  · cases h
theorem sm_iq_of {f : Int32 → Int32 → Int32} (h : sm_iq f st = some st') : ∃ x y r, st = .int y :: .int x :: r ∧ ¬ y = 0 ∧ st' = .int (f x y) :: r := by
  unfold sm_iq at h; split at h
  · split at h
    · cases h
    · next hz => cases h; exact ⟨_, _, _, rfl, hz, rfl⟩
  · cases h
theorem sm_ll_of {f : Int64 → Int64 → Int64} (h : sm_ll f st = some st') : ∃ x y r, st = .long y :: .long x :: r ∧ st' = .long (f x y) :: r := by
  unfold sm_ll at h; split at h
  · cases h; exact ⟨_, _, _, rfl, rfl⟩
  · cases h
theorem sm_li_of {f : Int64 → Int32 → Int64} (h : sm_li f st = some st') : ∃ x y r, st = .int y :: .long x :: r ∧ st' = .long (f x y) :: r := by
  unfold sm_li at h; split at h
  · cases h; exact ⟨_, _, _, rfl, rfl⟩
  · cases h
theorem sm_i1_of {f : Int32 → Value} (h : sm_i1 f st = some st') : ∃ x r, st = .int x :: r ∧ st' = f x :: r := by
  unfold sm_i1 at h; split at h
  · cases h; exact ⟨_, _, rfl, rfl⟩
  · cases h
theorem sm_l1_of {f : Int64 → Value} (h : sm_l1 f st = some st') : ∃ x r, st = .long x :: r ∧ st' = f x :: r := by
  unfold sm_l1 at h; split at h
  · cases h; exact ⟨_, _, rfl, rfl⟩
  · cases h
theorem sm_lc_of (h : sm_lc st = some st') : ∃ x y r, st = .long y :: .long x :: r ∧ st' = .int (lg_cmp x y) :: r := by
  unfold sm_lc at h; split at h
  · cases h; exact ⟨_, _, _, rfl, rfl⟩
  · cases h
theorem sm_ldi_of {i : Nat} (h : sm_ldi lv i st = some st') : ∃ x, sm_lk lv i = some (.int x) ∧ st' = .int x :: st := by
  unfold sm_ldi at h; split at h
  · next e => cases h; exact ⟨_, e, rfl⟩
  · cases h
theorem sm_ldl_of {i : Nat} (h : sm_ldl lv i st = some st') : ∃ x, sm_lk lv i = some (.long x) ∧ st' = .long x :: st := by
  unfold sm_ldl at h; split at h
  · next e => cases h; exact ⟨_, e, rfl⟩
  · cases h
theorem sm_lda_of {i : Nat} (h : sm_lda lv i st = some st') : (∃ x, sm_lk lv i = some (.ref x) ∧ st' = .ref x :: st) ∨ (sm_lk lv i = some .null ∧ st' = .null :: st) := by
  unfold sm_lda at h; split at h
  · next e => cases h; exact Or.inl ⟨_, e, rfl⟩
  · next e => cases h; exact Or.inr ⟨e, rfl⟩
  · cases h
theorem sm_sti_of {i n : Nat} (h : sm_sti lv i n st me = some (lv', st', me')) : ∃ x, st = .int x :: st' ∧ i < n ∧ lv' = sm_s1 lv i (.int x) ∧ me' = me := by
  unfold sm_sti at h; split at h
  · split at h
    · next hi => cases h; exact ⟨_, rfl, hi, rfl, rfl⟩
    · cases h
  · cases h
theorem sm_stl_of {i n : Nat} (h : sm_stl lv i n st me = some (lv', st', me')) : ∃ x, st = .long x :: st' ∧ i + 1 < n ∧ lv' = sm_s2 lv i (.long x) ∧ me' = me := by
  unfold sm_stl at h; split at h
  · split at h
    · next hi => cases h; exact ⟨_, rfl, hi, rfl, rfl⟩
    · cases h
  · cases h
theorem sm_sta_of {i n : Nat} (h : sm_sta lv i n st me = some (lv', st', me')) : i < n ∧ me' = me ∧ ((∃ x, st = .ref x :: st' ∧ lv' = sm_s1 lv i (.ref x)) ∨ (st = .null :: st' ∧ lv' = sm_s1 lv i .null)) := by
  unfold sm_sta at h; split at h
  · split at h
    · next hi => cases h; exact ⟨hi, rfl, Or.inl ⟨_, rfl, rfl⟩⟩
    · cases h
  · split at h
    · next hi => cases h; exact ⟨hi, rfl, Or.inr ⟨rfl, rfl⟩⟩
    · cases h
  · cases h
theorem sm_inc_of {i n : Nat} {z : Int} (h : sm_inc lv i z n st me = some (lv', st', me')) : ∃ x, sm_lk lv i = some (.int x) ∧ i < n ∧ lv' = sm_s1 lv i (.int (x + Int32.ofInt z)) ∧ st' = st ∧ me' = me := by
  unfold sm_inc at h; split at h
  · next e => split at h
              · next hi => cases h; exact ⟨_, e, hi, rfl, rfl, rfl⟩
              · cases h
  · cases h
theorem sm_dup_of (h : sm_dup st = some st') : ∃ v r, st = v :: r ∧ v.category = 1 ∧ st' = v :: v :: r := by
  unfold sm_dup at h; split at h
  · split at h
    · next hc => cases h; exact ⟨_, _, rfl, hc, rfl⟩
    · cases h
  · cases h
theorem sm_dupx1_of (h : sm_dupx1 st = some st') : ∃ v u r, st = v :: u :: r ∧ v.category = 1 ∧ u.category = 1 ∧ st' = v :: u :: v :: r := by
  unfold sm_dupx1 at h; split at h
  · split at h
    · next hc => cases h; exact ⟨_, _, _, rfl, hc.1, hc.2, rfl⟩
    · cases h
  · cases h
theorem sm_dup2_of (h : sm_dup2 st = some st') : ∃ v u r, st = v :: u :: r ∧ v.category = 1 ∧ u.category = 1 ∧ st' = v :: u :: v :: u :: r := by
  unfold sm_dup2 at h; split at h
  · split at h
    · next hc => cases h; exact ⟨_, _, _, rfl, hc.1, hc.2, rfl⟩
    · cases h
  · cases h
theorem sm_pop_of (h : sm_pop st = some st') : ∃ v, st = v :: st' ∧ v.category = 1 := by
  unfold sm_pop at h; split at h
  · split at h
    · next hc => cases h; exact ⟨_, rfl, hc⟩
    · cases h
  · cases h
theorem sm_gI_of (h : sm_gI S lay me st = some st') : ∃ i a r, st = .int i :: .ref a :: r ∧ ((∃ n, lay[a]? = some (1, n) ∧ vp_in i n ∧ st' = .int (me.1 a i.toNatClampNeg) :: r) ∨ (∃ q, sm_sI S a = some q ∧ vp_in i q.1 ∧ st' = .int (q.2 i.toNatClampNeg) :: r)) := by
  unfold sm_gI at h; split at h
  · split at h
    · next e => split at h
                · cases h
                · next hi => cases h; exact ⟨_, _, _, rfl, Or.inl ⟨_, e, hi, rfl⟩⟩
    · cases h
    · split at h
      · next e => split at h
                  · cases h
                  · next hi => cases h; exact ⟨_, _, _, rfl, Or.inr ⟨_, e, hi, rfl⟩⟩
      · cases h
  · cases h
theorem sm_gB_of (h : sm_gB lay me st = some st') : ∃ i a r n, st = .int i :: .ref a :: r ∧ (lay[a]? = some (2, n) ∨ lay[a]? = some (3, n)) ∧ vp_in i n ∧ st' = .int (me.1 a i.toNatClampNeg) :: r := by
  unfold sm_gB at h; split at h
  · split at h
    · next e => split at h
                · cases h
                · next hi => cases h; exact ⟨_, _, _, _, rfl, Or.inl e, hi, rfl⟩
    · next e => split at h
                · cases h
                · next hi => cases h; exact ⟨_, _, _, _, rfl, Or.inr e, hi, rfl⟩
    · cases h
  · cases h
theorem sm_gL_of (h : sm_gL lay me st = some st') : ∃ i a r, st = .int i :: .ref a :: r ∧ ((∃ n, lay[a]? = some (4, n) ∧ vp_in i n ∧ st' = .long (me.2.1 a i.toNatClampNeg) :: r) ∨ (∃ q, sm_sL a = some q ∧ vp_in i q.1 ∧ st' = .long (q.2 i.toNatClampNeg) :: r)) := by
  unfold sm_gL at h; split at h
  · split at h
    · next e => split at h
                · cases h
                · next hi => cases h; exact ⟨_, _, _, rfl, Or.inl ⟨_, e, hi, rfl⟩⟩
    · cases h
    · split at h
      · next e => split at h
                  · cases h
                  · next hi => cases h; exact ⟨_, _, _, rfl, Or.inr ⟨_, e, hi, rfl⟩⟩
      · cases h
  · cases h
theorem sm_len_of (h : sm_len S lay st = some st') : ∃ a r, st = .ref a :: r ∧ ((∃ t n, lay[a]? = some (t + 1, n) ∧ t < 4 ∧ st' = .int (Int32.ofNat n) :: r) ∨ (∃ q, sm_sI S a = some q ∧ st' = .int (Int32.ofNat q.1) :: r) ∨ (∃ q, sm_sL a = some q ∧ st' = .int (Int32.ofNat q.1) :: r)) := by
  unfold sm_len at h; split at h
  · split at h
    · cases h
    · next e => split at h
                · next ht => cases h; exact ⟨_, _, rfl, Or.inl ⟨_, _, e, ht, rfl⟩⟩
                · cases h
    · split at h
      · next e => cases h; exact ⟨_, _, rfl, Or.inr (Or.inl ⟨_, e, rfl⟩)⟩
      · split at h
        · next e => cases h; exact ⟨_, _, rfl, Or.inr (Or.inr ⟨_, e, rfl⟩)⟩
        · cases h
  · cases h
theorem sm_pI_of (h : sm_pI lv lay me st = some (lv', st', me')) : ∃ x i a n, st = .int x :: .int i :: .ref a :: st' ∧ lay[a]? = some (1, n) ∧ vp_in i n ∧ lv' = lv ∧ me' = (sm_up me.1 a i.toNatClampNeg x, me.2) := by
  unfold sm_pI at h; split at h
  · split at h
    · next e => split at h
                · cases h
                · next hi => cases h; exact ⟨_, _, _, _, rfl, e, hi, rfl, rfl⟩
    · cases h
  · cases h
theorem sm_pB_of (h : sm_pB lv lay me st = some (lv', st', me')) : ∃ x i a n, st = .int x :: .int i :: .ref a :: st' ∧ vp_in i n ∧ lv' = lv ∧ ((lay[a]? = some (2, n) ∧ me' = (sm_up me.1 a i.toNatClampNeg (vp_nar .byte x), me.2)) ∨ (lay[a]? = some (3, n) ∧ me' = (sm_up me.1 a i.toNatClampNeg (vp_nar .boolean x), me.2))) := by
  unfold sm_pB at h; split at h
  · split at h
    · next e => split at h
                · cases h
                · next hi => cases h; exact ⟨_, _, _, _, rfl, hi, rfl, Or.inl ⟨e, rfl⟩⟩
    · next e => split at h
                · cases h
                · next hi => cases h; exact ⟨_, _, _, _, rfl, hi, rfl, Or.inr ⟨e, rfl⟩⟩
    · cases h
  · cases h
theorem sm_pL_of (h : sm_pL lv lay me st = some (lv', st', me')) : ∃ x i a n, st = .long x :: .int i :: .ref a :: st' ∧ lay[a]? = some (4, n) ∧ vp_in i n ∧ lv' = lv ∧ me' = (me.1, sm_up me.2.1 a i.toNatClampNeg x, me.2.2) := by
  unfold sm_pL at h; split at h
  · split at h
    · next e => split at h
                · cases h
                · next hi => cases h; exact ⟨_, _, _, _, rfl, e, hi, rfl, rfl⟩
    · cases h
  · cases h
theorem sm_get_of {ci k : Nat} (h : sm_get lay me ci k st = some st') : ∃ a r, st = .ref a :: r ∧ lay[a]? = some (0, ci) ∧ ((sm_cd ci k = 1 ∧ st' = sm_rv (me.2.2 a k) :: r) ∨ (¬ sm_cd ci k = 1 ∧ st' = .int (me.1 a k) :: r)) := by
  unfold sm_get at h; split at h
  · split at h
    · next e => split at h
                · next hc =>
                  subst hc
                  split at h
                  · next h1 => cases h; exact ⟨_, _, rfl, e, Or.inl ⟨h1, rfl⟩⟩
                  · next h1 => cases h; exact ⟨_, _, rfl, e, Or.inr ⟨h1, rfl⟩⟩
                · cases h
    · cases h
  · cases h
theorem sm_put_of {ci k : Nat} (h : sm_put lv lay me ci k st = some (lv', st', me')) : ∃ a v, st = v :: .ref a :: st' ∧ lay[a]? = some (0, ci) ∧ lv' = lv ∧ ((∃ x, v = .int x ∧ sm_cd ci k = 0 ∧ me' = (sm_up me.1 a k x, me.2)) ∨ (∃ x, v = .int x ∧ sm_cd ci k = 2 ∧ (x = 0 ∨ x = 1) ∧ me' = (sm_up me.1 a k x, me.2)) ∨ (∃ q, v = sm_rv q ∧ sm_cd ci k = 1 ∧ me' = (me.1, me.2.1, sm_up me.2.2 a k q))) := by
  unfold sm_put at h; split at h
  · split at h
    · next e => split at h
                · next hc =>
                  subst hc
                  split at h
                  · next h1 => cases h; exact ⟨_, _, rfl, e, rfl, Or.inl ⟨_, rfl, h1, rfl⟩⟩
                  · next h1 => cases h; exact ⟨_, _, rfl, e, rfl, Or.inr (Or.inr ⟨some _, rfl, h1, rfl⟩)⟩
                  · next h1 => cases h; exact ⟨_, _, rfl, e, rfl, Or.inr (Or.inr ⟨none, rfl, h1, rfl⟩)⟩
                  · next h1 => split at h
                               · next h2 => cases h; exact ⟨_, _, rfl, e, rfl, Or.inr (Or.inl ⟨_, rfl, h1, h2, rfl⟩)⟩
                               · cases h
                  · cases h
                · cases h
    · cases h
  · cases h
theorem sm_cpy_of (h : sm_cpy lv lay me st = some (lv', st', me')) : ∃ n dp a sp a0 n0 n1, st = .int n :: .int dp :: .ref a :: .int sp :: .ref a0 :: st' ∧ lay[a0]? = some (1, n0) ∧ lay[a]? = some (1, n1) ∧ ¬ (sp < 0 ∨ dp < 0 ∨ n < 0 ∨ n0 < sp.toNatClampNeg + n.toNatClampNeg ∨ n1 < dp.toNatClampNeg + n.toNatClampNeg ∨ 8 < (st'.map fun v => v.category).sum) ∧ lv' = lv ∧ me' = (sm_row me.1 a (va_cpy (me.1 a0) (me.1 a) sp.toNatClampNeg dp.toNatClampNeg n.toNatClampNeg), me.2) := by
  unfold sm_cpy at h; split at h
  · split at h
    · next e1 e2 => split at h
                    · cases h
                    · next hi => cases h; exact ⟨_, _, _, _, _, _, _, rfl, e1, e2, hi, rfl, rfl⟩
    · cases h
  · cases h
theorem sm_ma_of {f : Int32 → Int32 → Int32} (h : sm_ma f st = some st') : ∃ x y r, st = .int y :: .int x :: r ∧ (r.map fun v => v.category).sum ≤ 8 ∧ st' = .int (f x y) :: r := by
  unfold sm_ma at h; split at h
  · split at h
    · next hc => cases h; exact ⟨_, _, _, rfl, hc, rfl⟩
    · cases h
  · cases h
theorem sm_mb_of {f : Int32 → Int32} (h : sm_mb f st = some st') : ∃ x r, st = .int x :: r ∧ (r.map fun v => v.category).sum ≤ 8 ∧ st' = .int (f x) :: r := by
  unfold sm_mb at h; split at h
  · split at h
    · next hc => cases h; exact ⟨_, _, rfl, hc, rfl⟩
    · cases h
  · cases h
theorem sm_oin_of (h : sm_oin st = some st') : ∃ a, st = .ref a :: st' ∧ (st'.map fun v => v.category).sum ≤ 8 := by
  unfold sm_oin at h; split at h
  · split at h
    · next hc => cases h; exact ⟨_, rfl, hc⟩
    · cases h
  · cases h
end SmSteps
