/-! blocks, calls, methods -/
def sm_blks (M : sm_M) : List sm_B := M.2.2.2.2.2.2.2.2
def sm_tg (M : sm_M) (pc : Nat) (off : Int) (b : Nat) : Bool := match (sm_blks M)[b]? with
  | some B => decide ((pc : Int) + off = (B.1 : Int))
  | none => false
def sm_tgs (M : sm_M) (pc : Nat) : List Int → List Nat → Bool
  | [], [] => true
  | o :: os, b :: bs => sm_tg M pc o b && sm_tgs M pc os bs
  | _, _ => false
def sm_okN (M : sm_M) (x ci p1 p2 p3 : Nat) : Bool := match vwCl[ci]? with
  | some (C, _, N) => sm_has p1 (.classLink M.1.cls x C) && sm_has p2 (.instantiable C N) && sm_has p3 (.initialized C)
  | none => false
def sm_okV (P : Nat → sm_M) (M : sm_M) (x g inst ci p1 p2 p3 : Nat) : Bool := match vwCl[ci]? with
  | some (C, _, _) => decide (inst = 1) && decide ((P g).1.cls = C) && sm_has p1 (.methodLink M.1.cls x (P g).1) && sm_has p2 (.instanceMethod (P g).1) && sm_has p3 (.selects C (P g).1 (P g).1)
  | none => false
def sm_okS (P : Nat → sm_M) (M : sm_M) (x g inst nst p1 p2 : Nat) : Bool := decide (inst = 0) && (if nst = 1 then decide (sm_nest[p1]? = some (M.1.cls, x, (P g).1)) else sm_has p1 (.methodLink M.1.cls x (P g).1)) && sm_has p2 (.static (P g).1)
def sm_okP (P : Nat → sm_M) (M : sm_M) (x g inst nst p1 p2 : Nat) : Bool := decide (inst = 1) && decide ((P g).1.name = "<init>") && decide ((P g).2.2.2.1 = none) && (if nst = 1 then decide (sm_nest[p1]? = some (M.1.cls, x, (P g).1)) else sm_has p1 (.methodLink M.1.cls x (P g).1)) && sm_has p2 (.instanceMethod (P g).1)
def sm_okD (P : Nat → sm_M) (M : sm_M) (i : Instr) (g inst ci : Nat) (r : List Nat) : Bool := match i with
  | .invokevirtual x => sm_okV P M x g inst ci (r.getD 0 0) (r.getD 1 0) (r.getD 2 0)
  | .invokestatic x => sm_okS P M x g inst (r.getD 3 0) (r.getD 0 0) (r.getD 1 0)
  | .invokespecial x => sm_okP P M x g inst (r.getD 3 0) (r.getD 0 0) (r.getD 1 0)
  | _ => false
def sm_okC (P : Nat → sm_M) (M : sm_M) (i : Instr) (g inst ci : Nat) (r : List Nat) : Bool := decide ((P g).2.2.2.2.2.2.2.1.getD 2 0 = 1) && sm_okD P M i g inst ci r
def sm_okE (P : Nat → sm_M) (M : sm_M) (i : Instr) (ops : List Nat) : Bool := match ops with
  | g :: inst :: ci :: a1 :: a2 :: a3 :: a4 :: r => sm_okC P M i g inst ci (a1 :: a2 :: a3 :: a4 :: r)
  | _ => sm_ok1 M i ops
def sm_dec (M : sm_M) (pc : Nat) (i : Instr) : Bool := decide (decode M.2.1 pc = .ok (i, sm_ln i))
def sm_decS (M : sm_M) (pc : Nat) (i : Instr) (len : Nat) : Bool := decide (decode M.2.1 pc = .ok (i, len))
def sm_isI (r : Option FieldType) : Bool := match r with
  | some .int => true
  | some .boolean => true
  | _ => false
def sm_isO (r : Option FieldType) : Bool := match r with
  | some (.object _) => true
  | _ => false
def sm_okA (M : sm_M) (at' : ArrayType) (t pos : Nat) : Bool := decide (t < 4) && decide (newarray.typeOf at' = sm_ty t) && sm_has pos (.arrayClass (newarray.typeOf at'))
def sm_okI (P : Nat → sm_M) (M : sm_M) (pc : Nat) (i : Instr) (ops : List Nat) (k : Nat → Bool) : Bool := match i with
  | .goto off => sm_dec M pc (.goto off) && sm_tg M pc off (ops.getD 0 0)
  | .ifCond c off => sm_dec M pc (.ifCond c off) && sm_tg M pc off (ops.getD 0 0) && sm_tg M pc 3 (ops.getD 1 0)
  | .if_icmp c off => sm_dec M pc (.if_icmp c off) && sm_tg M pc off (ops.getD 0 0) && sm_tg M pc 3 (ops.getD 1 0)
  | .ifnull off => sm_dec M pc (.ifnull off) && sm_tg M pc off (ops.getD 0 0) && sm_tg M pc 3 (ops.getD 1 0)
  | .ifnonnull off => sm_dec M pc (.ifnonnull off) && sm_tg M pc off (ops.getD 0 0) && sm_tg M pc 3 (ops.getD 1 0)
  | .tableswitch df lo hi offs => (match decode M.2.1 pc with
    | .ok (j, _) => decide (j = .tableswitch df lo hi offs)
    | _ => false) && sm_tg M pc df (ops.getD 0 0) && sm_tgs M pc offs.toList (ops.drop 1) && decide (lo + offs.toList.length = hi + 1)
  | .lookupswitch df ps => (match decode M.2.1 pc with
    | .ok (j, _) => decide (j = .lookupswitch df ps)
    | _ => false) && sm_tg M pc df (ops.getD 0 0) && sm_tgs M pc (ps.toList.map (fun q => q.2)) (ops.drop 1) && (ps.toList.zip (ps.toList.drop 1)).all (fun (a, next) => a.1 < next.1)
  | .ireturn => sm_dec M pc .ireturn && sm_isI M.2.2.2.1
  | .lreturn => sm_dec M pc .lreturn && decide (M.2.2.2.1 = some .long)
  | .areturn => sm_dec M pc .areturn && sm_isO M.2.2.2.1
  | .return_ => sm_dec M pc .return_ && decide (M.2.2.2.1 = none)
  | .new x => sm_dec M pc (.new x) && sm_okN M x (ops.getD 0 0) (ops.getD 1 0) (ops.getD 2 0) (ops.getD 3 0) && k (pc + 3)
  | .newarray at' => sm_dec M pc (.newarray at') && sm_okA M at' (ops.getD 0 0) (ops.getD 1 0) && k (pc + 2)
  | i => sm_dec M pc i && sm_okE P M i ops && k (pc + sm_ln i)
def sm_okL (P : Nat → sm_M) (M : sm_M) (fall : Nat) : List (Instr × List Nat) → Nat → Bool
  | [], pc => sm_tg M pc 0 fall
  | (i, ops) :: is, pc => sm_okI P M pc i ops (sm_okL P M fall is)
/-- a method's table is in order -/
def sm_okM (P : Nat → sm_M) (M : sm_M) : Bool := plainName M.1.cls && decide (M.1.cls ≠ "java/lang/invoke/MethodHandle") && decide (M.1.cls ≠ "java/lang/invoke/VarHandle") &&
  decide ((parseMethodDescriptor M.1.desc).map (fun d => d.parameters.length) = some M.2.2.2.2.1) && decide (M.2.2.1 ≤ 60) && (match (sm_blks M)[0]? with
    | some B => decide (B.1 = 0)
    | none => false) && (sm_blks M).all (fun B => sm_okL P M B.2.2.1 B.2.2.2 B.1)
def sm_Cal (M : sm_M) : Prop := Cond.code M.1 M.2.1 M.2.2.1 M.2.2.2.1 ∈ sm_wl ∧ Cond.initialized M.1.cls ∈ sm_wl
/-- its table is in order, and if it is called its words are among the tables' -/
def sm_OK (P : Nat → sm_M) (M : sm_M) : Prop := sm_okM P M = true ∧ (M.2.2.2.2.2.2.2.1.getD 2 0 = 1 → sm_Cal M)
theorem sm_dec_of {M : sm_M} {pc : Nat} {i : Instr} (h : sm_dec M pc i = true) : decode M.2.1 pc = .ok (i, sm_ln i) := of_decide_eq_true h
theorem sm_tg_of {M : sm_M} {pc b : Nat} {off : Int} (h : sm_tg M pc off b = true) : ∃ B, (sm_blks M)[b]? = some B ∧ (pc : Int) + off = (B.1 : Int) := by
  unfold sm_tg at h; split at h
  · next B e => exact ⟨B, e, of_decide_eq_true h⟩
  · cases h
def sm_mw (M : sm_M) : List Cond := .code M.1 M.2.1 M.2.2.1 M.2.2.2.1 :: sm_wl
def sm_rm (d : Nat) (M : sm_M) : Room := { frames := d + 1, cells := M.2.2.2.2.2.1, slots := M.2.2.2.2.2.2.1, locals := 80 * d + 100 }
def sm_Pre (base : Nat) (ct : Nat → ClassId) (tt : Nat → Nat) (D : va_G) (S : sm_C) (w : sm_W) (U : State) : Prop := U.heap.size = base + w.1.length ∧ w.1.length ≤ 1000 ∧ va_P D vwCl (sm_ws base ct tt w) U.heap ∧ sm_G base ct tt D S U
def sm_Q (base : Nat) (ct : Nat → ClassId) (tt : Nat → Nat) (D : va_G) (z : sm_Z) : Array Value → State → Outcome → State → Prop := fun _ st oc t => oc = .returned (z.1.map (sm_cv base tt)) ∧ va_P D vwCl (sm_ws base ct tt z.2) t.heap ∧ va_F (sm_A base) st t
def sm_ret (i : Instr) (v : Option Value) (ret : Option FieldType) : Prop := (i = .ireturn ∧ ∃ x, v = some (.int x) ∧ (ret = some .int ∨ (ret = some .boolean ∧ (x = 0 ∨ x = 1)))) ∨ (i = .lreturn ∧ ∃ x, v = some (.long x) ∧ ret = some .long) ∨ (i = .areturn ∧ ∃ x, v = some (.ref x) ∧ ∃ n, ret = some (.object n)) ∨ (i = .return_ ∧ v = none ∧ ret = none)
def sm_end (base : Nat) (ct : Nat → ClassId) (tt : Nat → Nat) (D : va_G) (M : sm_M) (p : Program) (l : Launch) (e : Env) (R : Room) (s : State) (m : MethodId) (args : Array Value) (below : List Frame) (meth : Method) (c : Code) (Q : State → Prop) (z : sm_Z) : Prop :=
  ∀ (H : Heap) (locs : List Loc) (pc : Nat) (ls : Array Slot) (i : Instr), decode M.2.1 pc = .ok (i, 1) → sm_ret i z.1 M.2.2.2.1 → va_P D vwCl (sm_ws base ct tt z.2) H → va_S (sm_A base) s.heap H locs →
    W p l e R s m args below meth c H locs M.2.2.2.2.2.1 M.2.2.2.2.2.2.1 Q (F0 m pc ls ((z.1.map (sm_cv base tt)).toList))
theorem sm_G.moved {base : Nat} {ct : Nat → ClassId} {tt : Nat → Nat} {D : va_G} {S : sm_C} {s U : State} {H : Heap} {locs : List Loc} (h : sm_G base ct tt D S s) (hW : s.WarmedH U.vm) (hU : U.heap = H) (hS : va_S (sm_A base) s.heap H locs) : sm_G base ct tt D S U := by
  obtain ⟨h1, h2, h3, h4, h5, h6⟩ := h
  have hk : ∀ a : Nat, a < s.heap.size → ¬ sm_A base a → U.heap[a]? = s.heap[a]? := fun a ha hn => by rw [hU]; exact hS.2.1 a ha hn
  refine ⟨va_K.moved hW.alike h1, by rw [hU]; exact Nat.le_trans h2 hS.1, fun k q hq => (va_Z.moved hW.alike (h3 k q hq)).kept hk, fun p q hq => ?_, fun p q hq => ?_, fun q hq => va_Nw.warmM hW (h6 q hq)⟩
  · exact ⟨(h4 p q hq).1, (va_T.moved hW.alike (h4 p q hq).2).kept hk⟩
  · exact ⟨(h5 p q hq).1, (va_T.moved hW.alike (h5 p q hq).2).kept hk⟩
theorem sm_blind {base : Nat} {ct : Nat → ClassId} {tt : Nat → Nat} {D : va_G} {S : sm_C} {w : sm_W} {as : List Value} : FrameBlind (va_Pc as (sm_Pre base ct tt D S w)) := by
  intro a U g mk h
  obtain ⟨h0, h1, h2, h3, h4, h5, h6, h7, h8, h9⟩ := h
  refine ⟨h0, h1, h2, h3, va_K.moved (u := U) (U := U.calling g mk a) (Vm.Alike.refl U.vm) h4, h5, fun k q hq => va_Z.moved (u := U) (U := U.calling g mk a) (Vm.Alike.refl U.vm) (h6 k q hq), fun p q hq => ⟨(h7 p q hq).1, va_T.moved (u := U) (U := U.calling g mk a) (Vm.Alike.refl U.vm) (h7 p q hq).2⟩, fun p q hq => ⟨(h8 p q hq).1, va_T.moved (u := U) (U := U.calling g mk a) (Vm.Alike.refl U.vm) (h8 p q hq).2⟩, fun q hq => va_Nw.same rfl (u := U) (U := U.calling g mk a) rfl (h9 q hq)⟩
theorem sm_args_map {base : Nat} {tt : Nat → Nat} : ∀ (vs : List Value) (i : Nat), lv_args i (vs.map (sm_cv base tt)) = (lv_args i vs).map (sm_cq base tt)
  | [], _ => rfl
  | v :: vs, i => by
    show (i, sm_cv base tt v) :: lv_args _ _ = (i, sm_cv base tt v) :: (lv_args _ vs).map _
    rw [sm_cv_cat, sm_args_map vs]
theorem sm_sl_len {base : Nat} {tt : Nat → Nat} (vs : List Value) : (lg_sl (vs.map (sm_cv base tt))).length = (lg_sl vs).length := by
  induction vs with
  | nil => rfl
  | cons v r ih =>
    simp only [lg_sl, List.map_cons, List.flatMap_cons, List.length_append, sm_cv_cat] at ih ⊢
    rw [ih]
    split <;> rfl
theorem sm_pick_of : ∀ {live : List Nat} {lv : sm_V} {vs : List Value}, sm_pick live lv = some vs → ∀ q ∈ live.zip vs, q ∈ lv
  | [], lv, vs, h, q, hq => by simp at hq
  | i :: r, lv, vs, h, q, hq => by
    unfold sm_pick at h
    split at h
    · cases h
    · next v hv =>
      split at h
      · cases h
      · next vs' hvs =>
        cases h
        rcases List.mem_cons.mp hq with rfl | hq
        · exact sm_lk_in hv
        · exact sm_pick_of hvs q hq
section SmMain
variable {base : Nat} {ct : Nat → ClassId} {tt : Nat → Nat} {D : va_G} {S : sm_C} {M : sm_M} {d : Nat} {p : Program} {l : Launch} {e : Env} {R : Room} {s : State} {m : MethodId} {args : Array Value} {below : List Frame} {meth : Method} {c : Code} {Q : State → Prop}
variable {pc : Nat} {lv lv' : sm_V} {st st' r : List Value} {w : sm_W} {cs : Nat × Nat} {ops : List Nat} {z : sm_Z}
theorem sm_sub (h : ∀ q ∈ lv', q ∈ lv) (k : sm_TW base ct tt D M p l e R s m args below meth c Q pc lv' st w cs) : sm_TW base ct tt D M p l e R s m args below meth c Q pc lv st w cs := by
  intro H locs ls hl hP hS hz hn hcs
  refine k H locs ls ⟨hl.1, hl.2.1, fun q hq => ?_⟩ hP hS hz hn hcs
  obtain ⟨u, hu, rfl⟩ := List.mem_map.mp hq
  exact hl.2.2 _ (List.mem_map.mpr ⟨u, h u hu, rfl⟩)
theorem sm_after {mc ms cells slots : Nat} {H : Heap} {locs : List Loc} {ls : Array Slot} {st0 rest : List Value} {a : Array Value} (hr : va_Run p l e R s m args below meth c H locs cells slots mc ms (F0 m pc ls st0) rest (sm_Q base ct tt D z a) (sm_A base)) (hS : va_S (sm_A base) s.heap H locs)
    (kk : ∀ (H1 : Heap) (locs1 : List Loc), va_P D vwCl (sm_ws base ct tt z.2) H1 → va_S (sm_A base) s.heap H1 locs1 → W p l e R s m args below meth c H1 locs1 (cells + mc) (slots + ms) Q (F0 m (pc + 3) ls ((z.1.map (sm_cv base tt)).toList ++ rest))) : W p l e R s m args below meth c H locs cells slots Q (F0 m pc ls st0) := by
  intro T hT X
  obtain ⟨v, st₀, t, T', L, h0, X', hL, e1, e2, ⟨hv, hP1, hz, hk⟩, st⟩ := hr T hT X
  have hv := Outcome.returned.inj hv
  subst hv
  rw [h0] at hz hk
  obtain ⟨t2, a1, b1⟩ := kk T'.heap (locs ++ L) (by rw [e1]; exact hP1) ⟨Nat.le_trans hS.1 (by rw [e1]; exact hz), fun q h1 h2 => by rw [e1, hk q (Nat.lt_of_lt_of_le h1 hS.1) h2]; exact hS.2.1 q h1 h2, fun q hq => by
      rcases List.mem_append.mp hq with h | h
      · exact hS.2.2 q h
      · exact hL q h⟩ T' rfl X'
  exact ⟨t2, st t2 a1, b1⟩
theorem sm_size_le {H : Heap} {locs : List Loc} (hb : base ≤ s.heap.size) (hP : va_P D vwCl (sm_ws base ct tt w) H) (hS : va_S (sm_A base) s.heap H locs) (hz : s.heap.size + cs.1 = base + w.1.length) : base + w.1.length ≤ H.size := by
  cases hw : w.1.length with
  | zero =>
    have := hS.1
    rw [hw] at hz
    omega
  | succ n =>
    have hn : n < w.1.length := by omega
    have h1 : (sm_ws base ct tt w)[n]? = some (sm_E base ct tt w n w.1[n]) := by rw [sm_ws_get, List.getElem?_eq_getElem hn]; rfl
    have h2 : base + n < H.size := (hP n _ h1).lt
    omega
theorem sm_sized {H : Heap} {locs : List Loc} {g : JFrame} (hb : base ≤ s.heap.size) (hP : va_P D vwCl (sm_ws base ct tt w) H) (hS : va_S (sm_A base) s.heap H locs) (hz : s.heap.size + cs.1 = base + w.1.length) (k : H.size = base + w.1.length → W p l e R s m args below meth c H locs cs.1 cs.2 Q g) : W p l e R s m args below meth c H locs cs.1 cs.2 Q g := by
  intro T hT X
  have h1 := X.heapSize
  have h2 := sm_size_le hb hP hS hz
  rw [hT] at h1
  exact k (by omega) T hT X
end SmMain
