/-! the world that the small machine's cells are in the heap: cell k lies at base + k -/
def sm_wl : List Cond := lw_tbl.filter goodWord
theorem sm_wl_good {w : Cond} (h : w ∈ sm_wl) : (w.onTables && w.keeps) = true ∨ ∃ ty, w = .arrayClass ty := good_of_word (List.mem_filter.mp h).2
def sm_chunk (k : Nat) : List Cond := match k with
  | 0 => tables_1_1
  | 1 => tables_1_2
  | 2 => tables_1_3
  | 3 => tables_1_4
  | 4 => tables_1_5
  | 5 => tables_1_6
  | 6 => tables_1_7
  | 7 => tables_1_8
  | 8 => tables_1_9
  | 9 => k2_sels lw_privs_1
  | 10 => k2_sels lw_privs_2
  | 11 => k2_sels lw_privs_3
  | 12 => k2_sels lw_privs_4
  | 13 => k2_sels lw_privs_5
  | 14 => k2_sels lw_privs_6
  | 15 => k2_sels lw_privs_7
  | 16 => k2_sels lw_privs_8
  | _ => []
theorem sm_sels_app (a b : List (MethodName × Nat)) : k2_sels (a ++ b) = k2_sels a ++ k2_sels b := List.map_append
theorem sm_chunk_in {k : Nat} {w : Cond} (h : w ∈ sm_chunk k) : w ∈ lw_tbl := by
  have ht : ∀ u, u ∈ tables_1 → u ∈ lw_tbl := fun u hu => List.mem_append_right _ hu
  have hp : ∀ u, u ∈ k2_sels lw_privs → u ∈ lw_tbl := fun u hu => List.mem_append_left _ hu
  unfold sm_chunk at h
  split at h
  · exact ht w (by unfold tables_1; simp only [List.mem_append]; simp [h])
  · exact ht w (by unfold tables_1; simp only [List.mem_append]; simp [h])
  · exact ht w (by unfold tables_1; simp only [List.mem_append]; simp [h])
  · exact ht w (by unfold tables_1; simp only [List.mem_append]; simp [h])
  · exact ht w (by unfold tables_1; simp only [List.mem_append]; simp [h])
  · exact ht w (by unfold tables_1; simp only [List.mem_append]; simp [h])
  · exact ht w (by unfold tables_1; simp only [List.mem_append]; simp [h])
  · exact ht w (by unfold tables_1; simp only [List.mem_append]; simp [h])
  · exact ht w (by unfold tables_1; simp only [List.mem_append]; simp [h])
  · exact hp w (by unfold lw_privs; simp only [sm_sels_app, List.mem_append]; simp [h])
  · exact hp w (by unfold lw_privs; simp only [sm_sels_app, List.mem_append]; simp [h])
  · exact hp w (by unfold lw_privs; simp only [sm_sels_app, List.mem_append]; simp [h])
  · exact hp w (by unfold lw_privs; simp only [sm_sels_app, List.mem_append]; simp [h])
  · exact hp w (by unfold lw_privs; simp only [sm_sels_app, List.mem_append]; simp [h])
  · exact hp w (by unfold lw_privs; simp only [sm_sels_app, List.mem_append]; simp [h])
  · exact hp w (by unfold lw_privs; simp only [sm_sels_app, List.mem_append]; simp [h])
  · exact hp w (by unfold lw_privs; simp only [sm_sels_app, List.mem_append]; simp [h])
  · cases h
/-- the word is the one at that place of the tables -/
def sm_has (pos : Nat) (w : Cond) : Bool := decide ((sm_chunk (pos / 256))[pos % 256]? = some w) && goodWord w
theorem sm_has_in {pos : Nat} {w : Cond} (h : sm_has pos w = true) : w ∈ sm_wl := by
  simp only [sm_has, Bool.and_eq_true, decide_eq_true_eq] at h
  exact List.mem_filter.mpr ⟨sm_chunk_in (List.mem_of_getElem? h.1), h.2⟩
theorem sm_inw0 (k j : Nat) {w : Cond} (h : (sm_chunk k)[j]? = some w) (hg : goodWord w = true) : w ∈ sm_wl := List.mem_filter.mpr ⟨sm_chunk_in (List.mem_of_getElem? h), hg⟩
def sm_ty : Nat → FieldType
  | 0 => .int
  | 1 => .byte
  | 2 => .boolean
  | _ => .long
def sm_tys (ct : Nat → ClassId) : List (ClassId × FieldType) := [(ct 0, .int), (ct 1, .byte), (ct 2, .boolean), (ct 3, .long)]
def sm_ad (base : Nat) (tt : Nat → Nat) (p : Nat) : Nat := if p < 1000 then base + p else tt (p - 1000)
def sm_cv (base : Nat) (tt : Nat → Nat) : Value → Value
  | .ref p => .ref (sm_ad base tt p)
  | v => v
def sm_cq (base : Nat) (tt : Nat → Nat) (q : Nat × Value) : Nat × Value := (q.1, sm_cv base tt q.2)
def sm_fv (base : Nat) (tt : Nat → Nat) (w : sm_W) (c k j : Nat) : Value := if sm_cd c j = 1 then sm_cv base tt (sm_rv (w.2.2.2 k j)) else .int (w.2.1 k j)
def sm_fs (base : Nat) (tt : Nat → Nat) (w : sm_W) (c k : Nat) : List Value := (List.range (sm_N c)).map (sm_fv base tt w c k)
def sm_E (base : Nat) (ct : Nat → ClassId) (tt : Nat → Nat) (w : sm_W) (k : Nat) (q : Nat × Nat) : Nat × va_E := (base + k, match q with
  | (0, c) => .inr (c, sm_fs base tt w c k)
  | (t + 1, n) => .inl (ct t, n, if t = 3 then .inr (.inl (w.2.2.1 k)) else .inl (w.2.1 k)))
def sm_ws (base : Nat) (ct : Nat → ClassId) (tt : Nat → Nat) (w : sm_W) : va_W := w.1.mapIdx (sm_E base ct tt w)
def sm_A (base : Nat) : Nat → Prop := fun q => base ≤ q
section SmWorld
variable {base : Nat} {ct : Nat → ClassId} {tt : Nat → Nat} {lay : List (Nat × Nat)} {m m' : sm_Y} {p : Nat}
theorem sm_cv_cat (v : Value) : (sm_cv base tt v).category = v.category := by cases v <;> rfl
theorem sm_cats (r : List Value) : ((r.map (sm_cv base tt)).map fun v => v.category) = r.map fun v => v.category := by
  rw [List.map_map]; exact List.map_congr_left (fun v _ => sm_cv_cat v)
theorem sm_ws_get (w : sm_W) (k : Nat) : (sm_ws base ct tt w)[k]? = w.1[k]?.map (sm_E base ct tt w k) := by
  simp [sm_ws, List.getElem?_mapIdx]
theorem sm_lt {α : Type} {l : List α} {k : Nat} {q : α} (h : l[k]? = some q) : k < l.length := (List.getElem?_eq_some_iff.mp h).1
theorem sm_ad_w (h : p < 1000) : sm_ad base tt p = base + p := by simp [sm_ad, h]
theorem sm_ad_s (h : 1000 ≤ p) : sm_ad base tt p = tt (p - 1000) := by simp [sm_ad, Nat.not_lt.mpr h]
theorem sm_at (hn : lay.length ≤ 1000) {q : Nat × Nat} (h : lay[p]? = some q) : (sm_ws base ct tt (lay, m))[p]? = some (sm_ad base tt p, (sm_E base ct tt (lay, m) p q).2) := by
  rw [sm_ws_get]
  show lay[p]?.map _ = _
  rw [h, sm_ad_w (Nat.lt_of_lt_of_le (sm_lt h) hn)]
  rfl
theorem sm_atI (hn : lay.length ≤ 1000) {n t : Nat} (h : lay[p]? = some (t + 1, n)) (ht : ¬ t = 3) : (sm_ws base ct tt (lay, m))[p]? = some (sm_ad base tt p, .inl (ct t, n, .inl (m.1 p))) := by
  rw [sm_at hn h]; simp [sm_E, ht]
theorem sm_atL (hn : lay.length ≤ 1000) {n : Nat} (h : lay[p]? = some (4, n)) : (sm_ws base ct tt (lay, m))[p]? = some (sm_ad base tt p, .inl (ct 3, n, .inr (.inl (m.2.1 p)))) := by
  rw [sm_at hn h]; simp [sm_E]
theorem sm_atO (hn : lay.length ≤ 1000) {c : Nat} (h : lay[p]? = some (0, c)) : (sm_ws base ct tt (lay, m))[p]? = some (sm_ad base tt p, .inr (c, sm_fs base tt (lay, m) c p)) := by
  rw [sm_at hn h]; simp [sm_E]
theorem sm_atA (hn : lay.length ≤ 1000) {n t : Nat} (h : lay[p]? = some (t + 1, n)) : ∃ x : vp_A, x.1 = n ∧ (sm_ws base ct tt (lay, m))[p]? = some (sm_ad base tt p, .inl (ct t, x)) := by
  rw [sm_at hn h]; exact ⟨(n, if t = 3 then .inr (.inl (m.2.1 p)) else .inl (m.1 p)), rfl, rfl⟩
theorem sm_D (w : sm_W) : va_D (sm_A base) (sm_ws base ct tt w) := by
  refine ⟨fun i j x y hx hy hxy => ?_, fun k q hk => ?_⟩
  · rw [sm_ws_get] at hx hy
    obtain ⟨u, -, rfl⟩ := Option.map_eq_some_iff.mp hx
    obtain ⟨v, -, rfl⟩ := Option.map_eq_some_iff.mp hy
    exact Nat.add_left_cancel hxy
  · rw [sm_ws_get] at hk
    obtain ⟨u, -, rfl⟩ := Option.map_eq_some_iff.mp hk
    exact Nat.le_add_right base k
/-- one cell changes -/
theorem sm_set (hn : lay.length ≤ 1000) {q : Nat × Nat} {e : va_E} (h : lay[p]? = some q) (ho : ∀ k, k ≠ p → ∀ u, sm_E base ct tt (lay, m') k u = sm_E base ct tt (lay, m) k u) (he : (sm_E base ct tt (lay, m') p q).2 = e) :
    (sm_ws base ct tt (lay, m)).set p (sm_ad base tt p, e) = sm_ws base ct tt (lay, m') := by
  have hp := sm_lt h
  refine List.ext_getElem? (fun k => ?_)
  rw [List.getElem?_set, sm_ws_get, sm_ws_get]
  show _ = lay[k]?.map _
  by_cases hk : p = k
  · subst hk
    have hl : p < (sm_ws base ct tt (lay, m)).length := by simp [sm_ws]; exact hp
    rw [if_pos rfl, if_pos hl, h, sm_ad_w (Nat.lt_of_lt_of_le hp hn), ← he]
    rfl
  · rw [if_neg hk]
    show lay[k]?.map _ = _
    cases lay[k]? with
    | none => rfl
    | some u => simp [ho k (fun x => hk x.symm) u]
theorem sm_E_I {j : Nat} {x : Int32} {k : Nat} (hk : k ≠ p) (u : Nat × Nat) : sm_E base ct tt (lay, sm_up m.1 p j x, m.2) k u = sm_E base ct tt (lay, m) k u := by
  unfold sm_E sm_fs sm_fv sm_up; simp [hk]
theorem sm_E_L {j : Nat} {x : Int64} {k : Nat} (hk : k ≠ p) (u : Nat × Nat) : sm_E base ct tt (lay, m.1, sm_up m.2.1 p j x, m.2.2) k u = sm_E base ct tt (lay, m) k u := by
  unfold sm_E sm_fs sm_fv sm_up; simp [hk]
theorem sm_E_R {j : Nat} {x : Option Nat} {k : Nat} (hk : k ≠ p) (u : Nat × Nat) : sm_E base ct tt (lay, m.1, m.2.1, sm_up m.2.2 p j x) k u = sm_E base ct tt (lay, m) k u := by
  unfold sm_E sm_fs sm_fv sm_up; simp [hk]
theorem sm_E_row {g : Nat → Int32} {k : Nat} (hk : k ≠ p) (u : Nat × Nat) : sm_E base ct tt (lay, sm_row m.1 p g, m.2) k u = sm_E base ct tt (lay, m) k u := by
  unfold sm_E sm_fs sm_fv sm_row; simp [hk]
theorem sm_upI (f : Nat → Nat → Int32) (p j : Nat) (x : Int32) : sm_up f p j x p = upd (f p) j x := by
  unfold sm_up; rw [if_pos rfl]; rfl
theorem sm_upL (f : Nat → Nat → Int64) (p j : Nat) (x : Int64) : sm_up f p j x p = vp_updL (f p) j x := by
  unfold sm_up; rw [if_pos rfl]; rfl
theorem sm_setI (hn : lay.length ≤ 1000) {n t j : Nat} {x : Int32} (h : lay[p]? = some (t + 1, n)) (ht : ¬ t = 3) : (sm_ws base ct tt (lay, m)).set p (sm_ad base tt p, .inl (ct t, n, .inl (upd (m.1 p) j x))) = sm_ws base ct tt (lay, sm_up m.1 p j x, m.2) :=
  sm_set hn h (fun k hk u => sm_E_I hk u) (by simp [sm_E, ht, sm_upI])
theorem sm_setL (hn : lay.length ≤ 1000) {n j : Nat} {x : Int64} (h : lay[p]? = some (4, n)) : (sm_ws base ct tt (lay, m)).set p (sm_ad base tt p, .inl (ct 3, n, .inr (.inl (vp_updL (m.2.1 p) j x)))) = sm_ws base ct tt (lay, m.1, sm_up m.2.1 p j x, m.2.2) :=
  sm_set hn h (fun k hk u => sm_E_L hk u) (by simp [sm_E, sm_upL])
theorem sm_setRow (hn : lay.length ≤ 1000) {n : Nat} {g : Nat → Int32} (h : lay[p]? = some (1, n)) : (sm_ws base ct tt (lay, m)).set p (sm_ad base tt p, .inl (ct 0, n, .inl g)) = sm_ws base ct tt (lay, sm_row m.1 p g, m.2) :=
  sm_set hn h (fun k hk u => sm_E_row hk u) (by simp [sm_E, sm_row])
theorem sm_fs_get {w : sm_W} {c k j : Nat} (hj : j < sm_N c) : (sm_fs base tt w c k)[j]? = some (sm_fv base tt w c k j) := by
  simp [sm_fs, hj]
theorem sm_fs_len {w : sm_W} {c k : Nat} : (sm_fs base tt w c k).length = sm_N c := by simp [sm_fs]
theorem sm_fs_set {m m' : sm_Y} {c k j : Nat} {v : Value} (hj : j < sm_N c) (hv : sm_fv base tt (lay, m') c k j = v) (ho : ∀ i, i ≠ j → sm_fv base tt (lay, m') c k i = sm_fv base tt (lay, m) c k i) : (sm_fs base tt (lay, m) c k).set j v = sm_fs base tt (lay, m') c k := by
  refine List.ext_getElem? (fun i => ?_)
  rw [List.getElem?_set, sm_fs_len]
  by_cases hi : j = i
  · subst hi
    rw [if_pos rfl, if_pos hj, sm_fs_get hj, hv]
  · rw [if_neg hi]
    by_cases hl : i < sm_N c
    · rw [sm_fs_get hl, sm_fs_get hl, ho i (fun x => hi x.symm)]
    · rw [List.getElem?_eq_none (by rw [sm_fs_len]; omega), List.getElem?_eq_none (by rw [sm_fs_len]; omega)]
theorem sm_setFI (hn : lay.length ≤ 1000) {c j : Nat} {x : Int32} (h : lay[p]? = some (0, c)) (hj : j < sm_N c) (hc : ¬ sm_cd c j = 1) : (sm_ws base ct tt (lay, m)).set p (sm_ad base tt p, .inr (c, (sm_fs base tt (lay, m) c p).set j (.int x))) = sm_ws base ct tt (lay, sm_up m.1 p j x, m.2) :=
  sm_set hn h (fun k hk u => sm_E_I hk u) (by
    show Sum.inr (c, _) = Sum.inr (c, _)
    rw [sm_fs_set (m' := (sm_up m.1 p j x, m.2)) hj]
    · simp [sm_fv, hc, sm_up]
    · intro i hi; simp [sm_fv, sm_up, hi])
theorem sm_setFR (hn : lay.length ≤ 1000) {c j : Nat} {x : Option Nat} (h : lay[p]? = some (0, c)) (hj : j < sm_N c) (hc : sm_cd c j = 1) : (sm_ws base ct tt (lay, m)).set p (sm_ad base tt p, .inr (c, (sm_fs base tt (lay, m) c p).set j (sm_cv base tt (sm_rv x)))) = sm_ws base ct tt (lay, m.1, m.2.1, sm_up m.2.2 p j x) :=
  sm_set hn h (fun k hk u => sm_E_R hk u) (by
    show Sum.inr (c, _) = Sum.inr (c, _)
    rw [sm_fs_set (m' := (m.1, m.2.1, sm_up m.2.2 p j x)) hj]
    · simp [sm_fv, hc, sm_up]
    · intro i hi; simp [sm_fv, sm_up, hi])
theorem sm_E_new {k : Nat} {w w' : sm_W} (h1 : w'.2.1 k = w.2.1 k) (h2 : w'.2.2.1 k = w.2.2.1 k) (h3 : w'.2.2.2 k = w.2.2.2 k) (u : Nat × Nat) : sm_E base ct tt w' k u = sm_E base ct tt w k u := by
  unfold sm_E sm_fs sm_fv; rw [h1, h2, h3]
/-- one more cell -/
theorem sm_push {q : Nat × Nat} (h : ∀ k, k < lay.length → ∀ u, sm_E base ct tt (lay ++ [q], m') k u = sm_E base ct tt (lay, m) k u) : sm_ws base ct tt (lay ++ [q], m') = sm_ws base ct tt (lay, m) ++ [(base + lay.length, (sm_E base ct tt (lay ++ [q], m') lay.length q).2)] := by
  refine List.ext_getElem? (fun k => ?_)
  rw [sm_ws_get, List.getElem?_append, List.getElem?_append, sm_ws_get]
  have hl : (sm_ws base ct tt (lay, m)).length = lay.length := by simp [sm_ws]
  rw [hl]
  by_cases hk : k < lay.length
  · rw [if_pos hk, if_pos hk]
    show lay[k]?.map _ = lay[k]?.map _
    cases hq : lay[k]? with
    | none => rfl
    | some u => simp [h k hk u]
  · rw [if_neg hk, if_neg hk]
    by_cases h0 : k = lay.length
    · subst h0; simp [sm_E]
    · rw [List.getElem?_eq_none (by simp; omega), List.getElem?_eq_none (by simp; omega)]; rfl
end SmWorld
