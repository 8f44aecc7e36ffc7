/-! THE CLAIM OUT OF THE SMALL MACHINE'S RUN OF THE LAW -/
def R_law : String := "NightHoursLaw"
def lw_P (b : Addr) (xs : List Int32) (args : Array Value) (s : State) : Prop := args = #[.ref b] ∧ s.IntsAt b xs ∧ xs.length ≤ 3072 ∧ (Jvm.Cond.and given_1 narrow_1).before args s = true
def lw_Q (_ : Array Value) (s : State) (o : Outcome) (t : State) : Prop := o = .returned (some (.int 1)) ∧ Framed s o t [] 600000 7302250
def lw_Z (below : List Frame) (a : Array Value) (s : State) : State → Prop := fun t => ∃ o, t.status = .running ∧ Ended t below o ∧ lw_Q a s o t
/-- the law's own end, with 1 on the stack, nothing written that was there before, its room as the claim has it -/
theorem lw_ret {p : Program} {l : Launch} {e : Env} {s : State} {m : MethodId} {below : List Frame} {meth : Method} {c : Code} {b : Nat} (hx : p.tables.exec = Jvm.exec) (hb : c.code = code) (hr : meth.sig.returnType = ret) (hlocks : meth.locks = false) {pc : Nat} {H : Heap} {ls : Array Slot} (hdg : decode code pc = .ok (.ireturn, 1)) : W p l e room_1 s m #[Value.ref b] below meth c H [] 600000 7302250 (lw_Z below #[Value.ref b] s) (F0 m pc ls [.int 1]) := by
  intro T hT X
  obtain ⟨fs, hret, hrun, hended, hW, hframe⟩ := X.leave (v := some (.int 1)) (hlocks := hlocks) (fun h => by rw [hr] at h; cases h)
  have hmeth' : T.vm.method? m = some meth := X.method'
  refine ⟨T.setFrames fs, ?_, .returned (some (.int 1)), hrun, hended, rfl, ⟨_, rfl⟩, hW, hframe⟩
  jvm_step X.here [X.here.top, hx, hb, hdg, hmeth', hr, ret, narrow_b1]
  (try refine ⟨rfl, ?_⟩); (try refine ⟨rfl, ?_⟩)
  first | (intro acts; rw [hret _ acts rfl rfl rfl]) | rw [hret _ _ rfl rfl rfl]
  exact Steps.refl _
/-- what holds at the law's entry: the machine, the code, the tables' words (any of lw_tbl by 'hts w (by decide +kernel)'), the script of L ints xs at the cell b, what the Statement gives of the start (any of its parts by flat_of_before) -/
def lw_At (p : Program) (s : State) (m : MethodId) (meth : Method) (c : Code) (b L : Nat) (xs : Nat → Int32) : Prop :=
  p.tables.exec = Jvm.exec ∧ c.code = code ∧ meth.sig.returnType = ret ∧ c.maxLocals = 4 ∧ s.vm.findClass R_law = some m.cls ∧ (∀ w ∈ lw_tbl, w.before #[Value.ref b] s = true) ∧ va_X b L xs s s.heap ∧ b < s.heap.size ∧ meth.locks = false ∧ (Jvm.Cond.and given_1 narrow_1).before #[Value.ref b] s = true
theorem sm_st_I {n : Nat} {cls nm : String} {l : List Int32} {args : Array Value} {s : State} (hs : ∀ c ∈ flatC (Jvm.Cond.and given_1 narrow_1), c.before args s = true) (hn : l.length = n) (h31 : n < 2 ^ 31)
    (h1 : Cond.arrayOf (.static cls nm "[I") .int ∈ flatC (Jvm.Cond.and given_1 narrow_1)) (h2 : Cond.eq (.length (.static cls nm "[I")) (.int (Int32.ofNat n)) ∈ flatC (Jvm.Cond.and given_1 narrow_1)) (h3 : ∀ j, j < n → Cond.eq (.elem (.static cls nm "[I") (.int (Int32.ofNat j))) (.int (l.getD j 0)) ∈ flatC (Jvm.Cond.and given_1 narrow_1)) (hl : (Cond.laysStatic cls nm "[I").before args s = true) (hi : (Cond.initialized cls).before args s = true) :
    ∃ t : Nat, va_Z cls nm "[I" (.ref t) (sm_A s.heap.size) s s.heap ∧ va_T .int t n (fun j => .int (l.getD j 0)) (sm_A s.heap.size) s s.heap := by
  have hA : ∀ a : Nat, a < s.heap.size → ¬ sm_A s.heap.size a := fun a h q => absurd q (Nat.not_le.mpr h)
  obtain ⟨t, e1, e2⟩ := va_Tof (f := fun j => .int (l.getD j 0)) h31 (hs _ h1) (va_eqt (hs _ h2)) (fun j hj => va_eqt (hs _ (h3 j hj))) hA
  exact ⟨t, va_Zref hl hi e1 hA, e2⟩
theorem sm_st_L {n : Nat} {cls nm : String} {l : List Int64} {args : Array Value} {s : State} (hs : ∀ c ∈ flatC (Jvm.Cond.and given_1 narrow_1), c.before args s = true) (hn : l.length = n) (h31 : n < 2 ^ 31)
    (h1 : Cond.arrayOf (.static cls nm "[J") .long ∈ flatC (Jvm.Cond.and given_1 narrow_1)) (h2 : Cond.eq (.length (.static cls nm "[J")) (.int (Int32.ofNat n)) ∈ flatC (Jvm.Cond.and given_1 narrow_1)) (h3 : ∀ j, j < n → Cond.eq (.elem (.static cls nm "[J") (.int (Int32.ofNat j))) (.long (l.getD j 0)) ∈ flatC (Jvm.Cond.and given_1 narrow_1)) (hl : (Cond.laysStatic cls nm "[J").before args s = true) (hi : (Cond.initialized cls).before args s = true) :
    ∃ t : Nat, va_Z cls nm "[J" (.ref t) (sm_A s.heap.size) s s.heap ∧ va_T .long t n (fun j => .long (l.getD j 0)) (sm_A s.heap.size) s s.heap := by
  have hA : ∀ a : Nat, a < s.heap.size → ¬ sm_A s.heap.size a := fun a h q => absurd q (Nat.not_le.mpr h)
  obtain ⟨t, e1, e2⟩ := va_Tof (f := fun j => .long (l.getD j 0)) h31 (hs _ h1) (va_eqt (hs _ h2)) (fun j hj => va_eqtl (hs _ (h3 j hj))) hA
  exact ⟨t, va_Zref hl hi e1 hA, e2⟩
theorem sm_arr {args : Array Value} {s : State} {ty : FieldType} (h : (Cond.arrayClass ty).before args s = true) : ∃ cA, ArrOfT s cA ty ∧ s.vm.findClass ("[" ++ ty.toString) = some cA := by
  obtain ⟨cA, kA, comp, h1, h2, h3⟩ := Cond.arrayClass_spec h
  exact ⟨cA, fun n z => ⟨fun k h => (by cases h), kA, h2, comp, h3⟩, h1⟩
/-- the world at the beginning: no cells -/
def sm_w0 : sm_W := ([], fun _ _ => 0, fun _ _ => 0, fun _ _ => none)
set_option maxRecDepth 100000 in
theorem sm_fl1 : Cond.arrayOf (.static "NightHours$Tokens" "WORDS" "[J") .long ∈ flatC (Jvm.Cond.and given_1 narrow_1) ∧ Cond.eq (.length (.static "NightHours$Tokens" "WORDS" "[J")) (.int (Int32.ofNat 15)) ∈ flatC (Jvm.Cond.and given_1 narrow_1) ∧ ∀ j, j < 15 → Cond.eq (.elem (.static "NightHours$Tokens" "WORDS" "[J") (.int (Int32.ofNat j))) (.long (sm_words.getD j 0)) ∈ flatC (Jvm.Cond.and given_1 narrow_1) := by decide +kernel
set_option maxRecDepth 100000 in
theorem sm_fl2 : Cond.arrayOf (.static "NightHours$Grammar" "STEPS" "[I") .int ∈ flatC (Jvm.Cond.and given_1 narrow_1) ∧ Cond.eq (.length (.static "NightHours$Grammar" "STEPS" "[I")) (.int (Int32.ofNat 138)) ∈ flatC (Jvm.Cond.and given_1 narrow_1) ∧ ∀ j, j < 138 → Cond.eq (.elem (.static "NightHours$Grammar" "STEPS" "[I") (.int (Int32.ofNat j))) (.int (sm_steps.getD j 0)) ∈ flatC (Jvm.Cond.and given_1 narrow_1) := by decide +kernel
set_option maxRecDepth 100000 in
theorem sm_fl3 : Cond.arrayOf (.static "NightHours$Grammar" "ROOM" "[I") .int ∈ flatC (Jvm.Cond.and given_1 narrow_1) ∧ Cond.eq (.length (.static "NightHours$Grammar" "ROOM" "[I")) (.int (Int32.ofNat 15)) ∈ flatC (Jvm.Cond.and given_1 narrow_1) ∧ ∀ j, j < 15 → Cond.eq (.elem (.static "NightHours$Grammar" "ROOM" "[I") (.int (Int32.ofNat j))) (.int (sm_room.getD j 0)) ∈ flatC (Jvm.Cond.and given_1 narrow_1) := by decide +kernel
set_option maxRecDepth 100000 in
theorem sm_fl4 : Cond.arrayOf (.static "NightHours$Asking" "WITH_YES" "[I") .int ∈ flatC (Jvm.Cond.and given_1 narrow_1) ∧ Cond.eq (.length (.static "NightHours$Asking" "WITH_YES" "[I")) (.int (Int32.ofNat 5)) ∈ flatC (Jvm.Cond.and given_1 narrow_1) ∧ ∀ j, j < 5 → Cond.eq (.elem (.static "NightHours$Asking" "WITH_YES" "[I") (.int (Int32.ofNat j))) (.int (sm_withyes.getD j 0)) ∈ flatC (Jvm.Cond.and given_1 narrow_1) := by decide +kernel
/-- what the law's run must be, for every script -/
def sm_Main : Prop := ∀ (L : Nat) (xs : Nat → Int32), L ≤ 3072 → sm_wp sm_P (L, xs) 60 307 0 [.ref 1004] [] sm_w0 (0, 0) (fun z => z.1 = some (.int 1))
set_option maxHeartbeats 4000000 in
set_option maxRecDepth 100000 in
theorem sm_whole (hmain : sm_Main) {p : Program} {e : Env} {s : State} {m : MethodId} {below : List Frame} {meth : Method} {c : Code} (l : Launch) {b L : Nat} {xs : Nat → Int32} (hL : L ≤ 3072) (C0 : lw_At p s m meth c b L xs) : W p l e room_1 s m #[Value.ref b] below meth c s.heap [] 0 0 (lw_Z below #[Value.ref b] s) (entryFrame m ([Value.ref b] : List Value).toArray 4) := by
  obtain ⟨hx, hb, hr, hml, hown, hts, hX, hbl, hlocks, hgv⟩ := id C0
  have hs := flat_of_before _ hgv
  have hwl : ∀ w ∈ sm_wl, w.before #[Value.ref b] s = true := fun w hw => hts w (List.mem_filter.mp hw).1
  obtain ⟨c0, iS0, k0⟩ := u_known (C := RX0) (T := TX0) (N := 6) (n := 6) hwl ly_0 (hwl _ (sm_inw 1 221 rfl rfl))
  obtain ⟨c1, iS1, k1⟩ := u_known (C := RX1) (T := TX1) (N := 3) (n := 3) hwl ly_1 (hwl _ (sm_inw 1 52 rfl rfl))
  obtain ⟨c2, iS2, k2⟩ := u_known (C := RX2) (T := TX2) (N := 18) (n := 18) hwl ly_2 (hwl _ (sm_inw 1 70 rfl rfl))
  obtain ⟨c3, iS3, k3⟩ := u_known (C := RX3) (T := TX3) (N := 4) (n := 4) hwl ly_3 (hwl _ (sm_inw 0 59 rfl rfl))
  obtain ⟨c4, iS4, k4⟩ := u_known (C := RX4) (T := TX4) (N := 5) (n := 5) hwl ly_4 (hwl _ (sm_inw 1 14 rfl rfl))
  obtain ⟨c5, iS5, k5⟩ := u_known (C := RX5) (T := TX5) (N := 6) (n := 6) hwl ly_5 (hwl _ (sm_inw 1 76 rfl rfl))
  obtain ⟨c6, iS6, k6⟩ := u_known (C := RX6) (T := TX6) (N := 12) (n := 12) hwl ly_6 (hwl _ (sm_inw 1 169 rfl rfl))
  obtain ⟨c7, iS7, k7⟩ := u_known (C := RX7) (T := TX7) (N := 12) (n := 12) hwl ly_7 (hwl _ (sm_inw 0 27 rfl rfl))
  obtain ⟨c8, iS8, k8⟩ := u_known (C := RX8) (T := TX8) (N := 4) (n := 4) hwl ly_8 (hwl _ (sm_inw 0 84 rfl rfl))
  obtain ⟨c9, iS9, k9⟩ := u_known (C := RX9) (T := TX9) (N := 4) (n := 4) hwl ly_9 (hwl _ (sm_inw 0 33 rfl rfl))
  obtain ⟨c10, iS10, k10⟩ := u_known (C := RX10) (T := TX10) (N := 19) (n := 19) hwl ly_10 (hwl _ (sm_inw 0 78 rfl rfl))
  obtain ⟨c11, iS11, k11⟩ := u_known (C := RX11) (T := TX11) (N := 14) (n := 14) hwl ly_11 (hwl _ (sm_inw 0 19 rfl rfl))
  obtain ⟨c12, iS12, k12⟩ := u_known (C := RX12) (T := TX12) (N := 97) (n := 97) hwl ly_12 (hwl _ (sm_inw 5 36 rfl rfl))
  obtain ⟨dC, dI, hKc⟩ : ∃ (dC : Nat → ClassId) (dI : Nat → Nat → Nat), ∀ (k : Nat) (q : vw_C), vwCl[k]? = some q → u_Kn s q.1 q.2.1 q.2.2 (dC k) (dI k) := by
    refine ⟨fun k => match k with
      | 0 => c0
      | 1 => c1
      | 2 => c2
      | 3 => c3
      | 4 => c4
      | 5 => c5
      | 6 => c6
      | 7 => c7
      | 8 => c8
      | 9 => c9
      | 10 => c10
      | 11 => c11
      | _ => c12, fun k => match k with
      | 0 => iS0
      | 1 => iS1
      | 2 => iS2
      | 3 => iS3
      | 4 => iS4
      | 5 => iS5
      | 6 => iS6
      | 7 => iS7
      | 8 => iS8
      | 9 => iS9
      | 10 => iS10
      | 11 => iS11
      | _ => iS12, ?_⟩
    intro k q hq
    match k, hq with
    | 0, hq => cases hq; exact k0
    | 1, hq => cases hq; exact k1
    | 2, hq => cases hq; exact k2
    | 3, hq => cases hq; exact k3
    | 4, hq => cases hq; exact k4
    | 5, hq => cases hq; exact k5
    | 6, hq => cases hq; exact k6
    | 7, hq => cases hq; exact k7
    | 8, hq => cases hq; exact k8
    | 9, hq => cases hq; exact k9
    | 10, hq => cases hq; exact k10
    | 11, hq => cases hq; exact k11
    | 12, hq => cases hq; exact k12
    | k + 13, hq => simp [vwCl] at hq
  obtain ⟨a0, hr0, hf0⟩ := sm_arr (ty := .int) (hwl _ (sm_inw 0 56 rfl rfl))
  obtain ⟨a1, hr1, hf1⟩ := sm_arr (ty := .byte) (hwl _ (sm_inw 0 55 rfl rfl))
  obtain ⟨a2, hr2, hf2⟩ := sm_arr (ty := .boolean) (hwl _ (sm_inw 1 219 rfl rfl))
  obtain ⟨a3, hr3, hf3⟩ := sm_arr (ty := .long) (hwl _ (sm_inw 0 57 rfl rfl))
  obtain ⟨t0, z0, T0⟩ := sm_st_L (l := sm_words) hs (n := 15) rfl (by decide) sm_fl1.1 sm_fl1.2.1 sm_fl1.2.2 (hts _ (sm_chunk_in (List.mem_of_getElem? (show (sm_chunk 2)[92]? = some _ from rfl)))) (hwl _ (sm_inw 0 3 rfl rfl))
  obtain ⟨t1, z1, T1⟩ := sm_st_I (l := sm_steps) hs (n := 138) rfl (by decide) sm_fl2.1 sm_fl2.2.1 sm_fl2.2.2 (hts _ (sm_chunk_in (List.mem_of_getElem? (show (sm_chunk 2)[121]? = some _ from rfl)))) (hwl _ (sm_inw 0 4 rfl rfl))
  obtain ⟨t2, z2, T2⟩ := sm_st_I (l := sm_room) hs (n := 15) rfl (by decide) sm_fl3.1 sm_fl3.2.1 sm_fl3.2.2 (hts _ (sm_chunk_in (List.mem_of_getElem? (show (sm_chunk 2)[127]? = some _ from rfl)))) (hwl _ (sm_inw 0 4 rfl rfl))
  obtain ⟨t3, z3, T3⟩ := sm_st_I (l := sm_withyes) hs (n := 5) rfl (by decide) sm_fl4.1 sm_fl4.2.1 sm_fl4.2.2 (hts _ (sm_chunk_in (List.mem_of_getElem? (show (sm_chunk 4)[167]? = some _ from rfl)))) (hwl _ (sm_inw 0 13 rfl rfl))
  obtain ⟨scr, x1, x2, x3, x4, x5⟩ := hX
  have hnA : ¬ sm_A s.heap.size b := Nat.not_le.mpr hbl
  have T4 : va_T .int b L (fun j => .int (xs j)) (sm_A s.heap.size) s s.heap := ⟨scr, x1, x2, x3, by rw [x4]; exact Nat.le_refl L, by rw [x4], x5, hnA⟩
  obtain ⟨ct, hct⟩ : ∃ ct : Nat → ClassId, ct = fun t => match t with
    | 0 => a0
    | 1 => a1
    | 2 => a2
    | _ => a3 := ⟨_, rfl⟩
  obtain ⟨tt, htt⟩ : ∃ tt : Nat → Nat, tt = fun t => match t with
    | 0 => t0
    | 1 => t1
    | 2 => t2
    | 3 => t3
    | _ => b := ⟨_, rfl⟩
  have hK : va_K (dC, dI) vwCl (sm_tys ct) s := by
    refine ⟨hKc, fun k q hq => ?_⟩
    subst hct
    match k, hq with
    | 0, hq => cases hq; exact ⟨hr0, hf0⟩
    | 1, hq => cases hq; exact ⟨hr1, hf1⟩
    | 2, hq => cases hq; exact ⟨hr2, hf2⟩
    | 3, hq => cases hq; exact ⟨hr3, hf3⟩
    | k + 4, hq => simp [sm_tys] at hq
  have hG : sm_G s.heap.size ct tt (dC, dI) (L, xs) s := by
    refine ⟨hK, Nat.le_refl _, fun k q hq => ?_, fun p q hq => ?_, fun p q hq => ?_, fun q hq => ?_⟩
    · subst htt
      match k, hq with
      | 0, hq => cases hq; exact z0
      | 1, hq => cases hq; exact z1
      | 2, hq => cases hq; exact z2
      | 3, hq => cases hq; exact z3
      | k + 4, hq => simp [sm_stn] at hq
    · unfold sm_sI at hq
      subst htt
      split at hq
      · cases hq; exact ⟨by decide, T1⟩
      · cases hq; exact ⟨by decide, T2⟩
      · cases hq; exact ⟨by decide, T3⟩
      · cases hq; exact ⟨by decide, T4⟩
      · cases hq
    · unfold sm_sL at hq
      subst htt
      split at hq
      · cases hq; exact ⟨by decide, T0⟩
      · cases hq
    · simp only [sm_nest, List.mem_cons, List.not_mem_nil, or_false] at hq
      rcases hq with rfl | rfl | rfl | rfl | rfl | rfl | rfl | rfl
      · exact va_Nw.of rfl (hts _ (sm_chunk_in (k := 0) (List.mem_of_getElem? (i := 28) rfl)))
      · exact va_Nw.of rfl (hts _ (sm_chunk_in (k := 0) (List.mem_of_getElem? (i := 34) rfl)))
      · exact va_Nw.of rfl (hts _ (sm_chunk_in (k := 0) (List.mem_of_getElem? (i := 60) rfl)))
      · exact va_Nw.of rfl (hts _ (sm_chunk_in (k := 1) (List.mem_of_getElem? (i := 53) rfl)))
      · exact va_Nw.of rfl (hts _ (sm_chunk_in (k := 2) (List.mem_of_getElem? (i := 177) rfl)))
      · exact va_Nw.of rfl (hts _ (sm_chunk_in (k := 3) (List.mem_of_getElem? (i := 126) rfl)))
      · exact va_Nw.of rfl (hts _ (sm_chunk_in (k := 3) (List.mem_of_getElem? (i := 228) rfl)))
      · exact va_Nw.of rfl (hts _ (sm_chunk_in (k := 4) (List.mem_of_getElem? (i := 211) rfl)))
  obtain ⟨n, z, hrun, hz⟩ := hmain L xs hL
  have hXX : sm_X s.heap.size ct tt (dC, dI) (L, xs) (sm_P 307) 60 p room_1 s m #[Value.ref b] meth c := ⟨hx, hb, hml, hown, hwl, fun h => absurd h (by decide), by decide, by decide, by decide, by decide, hG⟩
  have he : sm_end s.heap.size ct tt (dC, dI) (sm_P 307) p l e room_1 s m #[Value.ref b] below meth c (lw_Z below #[Value.ref b] s) z := by
    intro H locs pc ls i hd hq hP hS
    rw [hz] at hq ⊢
    rcases hq with ⟨rfl, -⟩ | ⟨-, x, h, -⟩ | ⟨-, x, h, -⟩ | ⟨-, h, -⟩
    · refine va_forget (fun q hq => hS.2.2 q hq) (W.widen (k := 600000) (n := 7302250) (by decide) (by decide) ?_)
      exact lw_ret hx hb hr hlocks hd
    · cases h
    · cases h
    · cases h
  have hblk : ∃ (B : sm_B) (live : List Nat), (sm_blks (sm_P 307))[0]? = some B ∧ B.1 = 0 ∧ B.2.1 = some live := ⟨_, _, rfl, rfl, rfl⟩
  obtain ⟨B, live, hB, hB0, hlive⟩ := hblk
  have k1 := sm_run_ok sm_cf sm_okAll n 60 307 p e room_1 s m #[Value.ref b] below meth c _ z hXX he 0 [.ref 1004] [] sm_w0 (0, 0) B live hB hlive hrun
  have hl := lv_entry ([.ref b]) (n := 4) (Nat.le_of_ble_eq_true rfl)
  rw [lg_entry_eq]
  generalize (lg_sl ([.ref b]) ++ List.replicate (4 - (lg_sl ([.ref b])).length) Slot.unset).toArray = ls at hl ⊢
  rw [if_pos rfl, hB0] at k1
  have e4 : (lv_args 0 [.ref 1004]).map (sm_cq s.heap.size tt) = lv_args 0 [.ref b] := by
    subst htt
    rfl
  exact k1 s.heap [] ls (by rw [e4]; exact hl) (fun k q h => by simp [sm_ws, sm_w0] at h) va_S.rf rfl (by decide) ⟨Nat.zero_le _, Nat.zero_le _⟩
