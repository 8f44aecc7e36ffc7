section SmMet
variable {base : Nat} {ct : Nat → ClassId} {tt : Nat → Nat} {D : va_G} {S : sm_C} {M : sm_M} {d : Nat} {p : Program} {l : Launch} {e : Env} {R : Room} {s : State} {m : MethodId} {args : Array Value} {below : List Frame} {meth : Method} {c : Code} {Q : State → Prop}
variable {z z' : sm_Z} {P : Nat → sm_M}
variable {rec : Nat → Nat → Nat → List Value → List Value → sm_W → Nat × Nat → Option sm_Z} {jmp : Nat → sm_V → List Value → sm_W → Nat × Nat → Option sm_Z} {fall : Nat}
theorem sm_isI_of {r : Option FieldType} (h : sm_isI r = true) : r = some .int ∨ r = some .boolean := by
  unfold sm_isI at h
  split at h
  · exact Or.inl rfl
  · exact Or.inr rfl
  · cases h
theorem sm_isO_of {r : Option FieldType} (h : sm_isO r = true) : ∃ n, r = some (.object n) := by
  unfold sm_isO at h
  split at h
  · exact ⟨_, rfl⟩
  · cases h
set_option maxHeartbeats 8000000 in
theorem sm_blk_ok (cf : sm_CF) (okP : ∀ f, sm_OK P (P f)) (hX : sm_X base ct tt D S M d p R s m args meth c) (hr : sm_Hr base ct tt D S P l rec) (he : sm_end base ct tt D M p l e R s m args below meth c Q z) (hj : ∀ (b : Nat) (lv : sm_V) (st : List Value) (w : sm_W) (cs : Nat × Nat) (B : sm_B), (sm_blks M)[b]? = some B → jmp b lv st w cs = some z → sm_TW base ct tt D M p l e R s m args below meth c Q B.1 lv st w cs) :
    ∀ (is : List (Instr × List Nat)) (pc : Nat) (lv : sm_V) (st : List Value) (w : sm_W) (cs : Nat × Nat), sm_okL P M fall is pc = true → sm_blk P S rec jmp d M fall is lv st w cs = some z → sm_TW base ct tt D M p l e R s m args below meth c Q pc lv st w cs := by
  intro is
  induction is with
  | nil =>
    intro pc lv st w cs ok h
    have ok : sm_tg M pc 0 fall = true := ok
    obtain ⟨B, hB, e1⟩ := sm_tg_of ok
    have e2 : pc = B.1 := by omega
    rw [e2]
    exact hj _ _ _ _ _ B hB h
  | cons q is ih =>
    obtain ⟨i, ops⟩ := q
    intro pc lv st w cs ok h
    cases i with
    | goto off =>
      have ok : (sm_dec M pc (.goto off) && sm_tg M pc off (ops.getD 0 0)) = true := ok
      simp only [Bool.and_eq_true] at ok
      obtain ⟨B, hB, e1⟩ := sm_tg_of ok.2
      exact fun H locs ls hl hP hS hz hn hcs => lv_goto hX.1 hX.2.1 (sm_dec_of ok.1) e1 (hj _ _ _ _ _ B hB h H locs ls hl hP hS hz hn hcs)
    | ifCond c' off =>
      have ok : (sm_dec M pc (.ifCond c' off) && sm_tg M pc off (ops.getD 0 0) && sm_tg M pc 3 (ops.getD 1 0)) = true := ok
      simp only [Bool.and_eq_true] at ok
      obtain ⟨B, hB, e1⟩ := sm_tg_of ok.1.2
      obtain ⟨B', hB', e2⟩ := sm_tg_of ok.2
      exact sm_b1_ok hX (sm_dec_of ok.1.1) e1 e2 (fun r h => hj _ _ _ _ _ B hB h) (fun r h => hj _ _ _ _ _ B' hB' h) h
    | if_icmp c' off =>
      have ok : (sm_dec M pc (.if_icmp c' off) && sm_tg M pc off (ops.getD 0 0) && sm_tg M pc 3 (ops.getD 1 0)) = true := ok
      simp only [Bool.and_eq_true] at ok
      obtain ⟨B, hB, e1⟩ := sm_tg_of ok.1.2
      obtain ⟨B', hB', e2⟩ := sm_tg_of ok.2
      exact sm_b2_ok hX (sm_dec_of ok.1.1) e1 e2 (fun r h => hj _ _ _ _ _ B hB h) (fun r h => hj _ _ _ _ _ B' hB' h) h
    | ifnull off =>
      have ok : (sm_dec M pc (.ifnull off) && sm_tg M pc off (ops.getD 0 0) && sm_tg M pc 3 (ops.getD 1 0)) = true := ok
      simp only [Bool.and_eq_true] at ok
      obtain ⟨B, hB, e1⟩ := sm_tg_of ok.1.2
      obtain ⟨B', hB', e2⟩ := sm_tg_of ok.2
      exact sm_bnull_ok hX (sm_dec_of ok.1.1) e1 e2 (fun r h => hj _ _ _ _ _ B hB h) (fun r h => hj _ _ _ _ _ B' hB' h) h
    | ifnonnull off =>
      have ok : (sm_dec M pc (.ifnonnull off) && sm_tg M pc off (ops.getD 0 0) && sm_tg M pc 3 (ops.getD 1 0)) = true := ok
      simp only [Bool.and_eq_true] at ok
      obtain ⟨B, hB, e1⟩ := sm_tg_of ok.1.2
      obtain ⟨B', hB', e2⟩ := sm_tg_of ok.2
      exact sm_bnon_ok hX (sm_dec_of ok.1.1) e1 e2 (fun r h => hj _ _ _ _ _ B' hB' h) (fun r h => hj _ _ _ _ _ B hB h) h
    | tableswitch df lo hi offs =>
      unfold sm_okL sm_okI at ok
      simp only [Bool.and_eq_true, decide_eq_true_eq] at ok
      obtain ⟨⟨⟨o1, o2⟩, o3⟩, o4⟩ := ok
      obtain ⟨len, hd⟩ : ∃ len, decode M.2.1 pc = .ok (.tableswitch df lo hi offs, len) := by
        split at o1
        · next j len e => exact ⟨len, by rw [← of_decide_eq_true o1]; exact e⟩
        · cases o1
      obtain ⟨t1, t2⟩ := sm_tgs_of o3
      unfold sm_blk at h
      dsimp only at h
      split at h
      · next x r =>
        rcases sm_sw_or h with ⟨j, b, h1, h2, h3⟩ | ⟨h1, h2⟩
        · obtain ⟨o, ho1, ho2⟩ := t2 j b h1
          obtain ⟨B, hB, e1⟩ := sm_tg_of ho2
          have hjl : j < offs.toList.length := sm_lt ho1
          refine fun H locs ls hl hP hS hz hn hcs => lv_tableIn hX.1 hX.2.1 hd (off := o) (by omega) (by omega) ?_ e1 (hj _ _ _ _ _ B hB h3 H locs ls hl hP hS hz hn hcs)
          have e5 : (x.toInt - lo).toNat = j := by omega
          rw [e5, ← Array.getElem?_toList]
          exact ho1
        · obtain ⟨B, hB, e1⟩ := sm_tg_of o2
          refine fun H locs ls hl hP hS hz hn hcs => lv_tableOut hX.1 hX.2.1 hd ?_ e1 (hj _ _ _ _ _ B hB h2 H locs ls hl hP hS hz hn hcs)
          rcases Int.lt_or_le x.toInt lo with q | q
          · exact Or.inl q
          · refine Or.inr ?_
            rcases Int.lt_or_le hi x.toInt with q2 | q2
            · exact q2
            · exact absurd (show x.toInt = lo + ((x.toInt - lo).toNat : Int) by omega) (h1 (x.toInt - lo).toNat (by rw [t1]; omega))
      · cases h
    | lookupswitch df ps =>
      unfold sm_okL sm_okI at ok
      simp only [Bool.and_eq_true] at ok
      obtain ⟨⟨⟨o1, o2⟩, o3⟩, o4⟩ := ok
      obtain ⟨len, hd⟩ : ∃ len, decode M.2.1 pc = .ok (.lookupswitch df ps, len) := by
        split at o1
        · next j len e => exact ⟨len, by rw [← of_decide_eq_true o1]; exact e⟩
        · cases o1
      obtain ⟨t1, t2⟩ := sm_tgs_of o3
      unfold sm_blk at h
      dsimp only at h
      split at h
      · next x r =>
        rcases sm_lo_or (df := df) h with ⟨j, b, q, h1, h2, h3, h4⟩ | ⟨h1, h2⟩
        · obtain ⟨o, ho1, ho2⟩ := t2 j b h1
          obtain ⟨B, hB, e1⟩ := sm_tg_of ho2
          have e5 : q.2 = o := by
            rw [List.getElem?_map, h2] at ho1
            exact Option.some.inj ho1
          exact fun H locs ls hl hP hS hz hn hcs => lv_lookup hX.1 hX.2.1 hd o4 (h3.trans e5) e1 (hj _ _ _ _ _ B hB h4 H locs ls hl hP hS hz hn hcs)
        · obtain ⟨B, hB, e1⟩ := sm_tg_of o2
          exact fun H locs ls hl hP hS hz hn hcs => lv_lookup hX.1 hX.2.1 hd o4 h1 e1 (hj _ _ _ _ _ B hB h2 H locs ls hl hP hS hz hn hcs)
      · cases h
    | ireturn =>
      have ok : (sm_dec M pc .ireturn && sm_isI M.2.2.2.1) = true := ok
      simp only [Bool.and_eq_true] at ok
      unfold sm_blk at h
      dsimp only at h
      split at h
      · next x =>
        split at h
        · next hc =>
          subst hc
          have hx : z = (some (.int x), w) ∧ (M.2.2.2.1 = some .int ∨ (M.2.2.2.1 = some .boolean ∧ (x = 0 ∨ x = 1))) := by
            rcases sm_isI_of ok.2 with q | q
            · rw [q] at h; cases h; exact ⟨rfl, Or.inl q⟩
            · rw [q] at h
              have h : (if x = 0 ∨ x = 1 then some (some (Value.int x), w) else none) = some z := h
              split at h
              · next hx => cases h; exact ⟨rfl, Or.inr ⟨q, hx⟩⟩
              · cases h
          obtain ⟨rfl, hq⟩ := hx
          exact fun H locs ls hl hP hS hz hn hcs => he H locs pc ls .ireturn (sm_dec_of ok.1) (Or.inl ⟨rfl, x, rfl, hq⟩) hP hS
        · cases h
      · cases h
    | lreturn =>
      have ok : (sm_dec M pc .lreturn && decide (M.2.2.2.1 = some .long)) = true := ok
      simp only [Bool.and_eq_true, decide_eq_true_eq] at ok
      unfold sm_blk at h
      dsimp only at h
      split at h
      · next x =>
        split at h
        · next hc => subst hc; cases h; exact fun H locs ls hl hP hS hz hn hcs => he H locs pc ls .lreturn (sm_dec_of ok.1) (Or.inr (Or.inl ⟨rfl, x, rfl, ok.2⟩)) hP hS
        · cases h
      · cases h
    | areturn =>
      have ok : (sm_dec M pc .areturn && sm_isO M.2.2.2.1) = true := ok
      simp only [Bool.and_eq_true] at ok
      unfold sm_blk at h
      dsimp only at h
      split at h
      · next x =>
        split at h
        · next hc => subst hc; cases h; exact fun H locs ls hl hP hS hz hn hcs => he H locs pc ls .areturn (sm_dec_of ok.1) (Or.inr (Or.inr (Or.inl ⟨rfl, x, rfl, sm_isO_of ok.2⟩))) hP hS
        · cases h
      · cases h
    | return_ =>
      have ok : (sm_dec M pc .return_ && decide (M.2.2.2.1 = none)) = true := ok
      simp only [Bool.and_eq_true, decide_eq_true_eq] at ok
      unfold sm_blk at h
      dsimp only at h
      split at h
      · split at h
        · next hc => subst hc; cases h; exact fun H locs ls hl hP hS hz hn hcs => he H locs pc ls .return_ (sm_dec_of ok.1) (Or.inr (Or.inr (Or.inr ⟨rfl, rfl, ok.2⟩))) hP hS
        · cases h
      · cases h
    | new x =>
      have ok : (sm_dec M pc (.new x) && sm_okN M x (ops.getD 0 0) (ops.getD 1 0) (ops.getD 2 0) (ops.getD 3 0) && sm_okL P M fall is (pc + 3)) = true := ok
      simp only [Bool.and_eq_true] at ok
      unfold sm_blk at h
      dsimp only at h
      split at h
      · cases h
      · next hc => exact sm_k_new (lay := w.1) (me := w.2) cf hX (sm_dec_of ok.1.1) ok.1.2 hc (ih _ _ _ _ _ ok.2 h)
    | newarray at' =>
      have ok : (sm_dec M pc (.newarray at') && sm_okA M at' (ops.getD 0 0) (ops.getD 1 0) && sm_okL P M fall is (pc + 2)) = true := ok
      simp only [Bool.and_eq_true] at ok
      unfold sm_blk at h
      dsimp only at h
      split at h
      · split at h
        · cases h
        · next hc => exact sm_k_newa (lay := w.1) (me := w.2) hX (sm_dec_of ok.1.1) ok.1.2 hc (ih _ _ _ _ _ ok.2 h)
      · cases h
    | _ =>
      rw [sm_blk_else rfl] at h
      have ok := Bool.and_eq_true_iff.mp ok
      have ok1 := Bool.and_eq_true_iff.mp ok.1
      exact sm_else_ok cf okP hX hr (sm_dec_of ok1.1) ok1.2 (fun lv st w cs h => ih _ _ _ _ _ ok.2 h) h
theorem sm_okB (okP : ∀ f, sm_OK P (P f)) {f b : Nat} {B : sm_B} (h : (sm_blks (P f))[b]? = some B) : sm_okL P (P f) B.2.2.1 B.2.2.2 B.1 = true := (sm_okM_of (okP f).1).2.2.2.2 B (List.mem_of_getElem? h)
theorem sm_go_ok {f : Nat} (cf : sm_CF) (okP : ∀ f, sm_OK P (P f)) (hX : sm_X base ct tt D S (P f) d p R s m args meth c) (hr : sm_Hr base ct tt D S P l rec) (he : sm_end base ct tt D (P f) p l e R s m args below meth c Q z)
    (hc : ∀ (b : Nat) (vs st : List Value) (w : sm_W) (cs : Nat × Nat) (B : sm_B) (live : List Nat), (sm_blks (P f))[b]? = some B → B.2.1 = some live → rec d f b vs st w cs = some z → sm_TW base ct tt D (P f) p l e R s m args below meth c Q B.1 (if b = 0 then lv_args 0 vs else live.zip vs) st w cs) :
    ∀ (n : Nat) (b : Nat) (lv : sm_V) (st : List Value) (w : sm_W) (cs : Nat × Nat) (B : sm_B), (sm_blks (P f))[b]? = some B → sm_go P S rec d f (P f) n b lv st w cs = some z → sm_TW base ct tt D (P f) p l e R s m args below meth c Q B.1 lv st w cs := by
  intro n
  induction n with
  | zero => intro b lv st w cs B hB h; cases h
  | succ n ih =>
    intro b lv st w cs B hB h
    unfold sm_go at h
    split at h
    · cases h
    · next hb0 =>
      have hB' : (P f).2.2.2.2.2.2.2.2[b]? = some B := hB
      rw [hB'] at h
      obtain ⟨pcb, lo, fall, is⟩ := B
      cases lo with
      | some live =>
        dsimp only at h
        split at h
        · cases h
        · next vs hvs =>
          have k1 := hc b vs st w cs _ live hB rfl h
          rw [if_neg hb0] at k1
          exact sm_sub (sm_pick_of hvs) k1
      | none =>
        dsimp only at h
        exact sm_blk_ok cf okP hX hr he (fun b lv st w cs B hB h => ih b lv st w cs B hB h) is pcb lv st w cs (sm_okB okP hB) h
/-- what is shown of n rounds of the small machine: in every place where its method may stand -/
def sm_Cn (base : Nat) (ct : Nat → ClassId) (tt : Nat → Nat) (D : va_G) (S : sm_C) (P : Nat → sm_M) (l : Launch) (n : Nat) : Prop :=
  ∀ (d f : Nat) (p : Program) (e : Env) (R : Room) (s : State) (m : MethodId) (args : Array Value) (below : List Frame) (meth : Method) (c : Code) (Q : State → Prop) (z : sm_Z), sm_X base ct tt D S (P f) d p R s m args meth c → sm_end base ct tt D (P f) p l e R s m args below meth c Q z →
    ∀ (b : Nat) (vs st : List Value) (w : sm_W) (cs : Nat × Nat) (B : sm_B) (live : List Nat), (sm_blks (P f))[b]? = some B → B.2.1 = some live → sm_run P S n d f b vs st w cs = some z → sm_TW base ct tt D (P f) p l e R s m args below meth c Q B.1 (if b = 0 then lv_args 0 vs else live.zip vs) st w cs
set_option maxHeartbeats 4000000 in
theorem sm_end_met {f : Nat} (hx : p.tables.exec = Jvm.exec) (hb : c.code = (P f).2.1) (hret : meth.sig.returnType = (P f).2.2.2.1) (hlocks : meth.locks = false) : sm_end base ct tt D (P f) p l e R s m args below meth c (MQ below (sm_Q base ct tt D z) args s (P f).2.2.2.2.2.1 (P f).2.2.2.2.2.2.1 (sm_A base)) z := by
  intro H locs pc ls i hd hq hP hS
  obtain ⟨zv, zw⟩ := z
  rcases hq with ⟨rfl, x, hv, hr⟩ | ⟨rfl, x, hv, hr⟩ | ⟨rfl, x, hv, n, hr⟩ | ⟨rfl, hv, hr⟩
  · have hv : zv = some (.int x) := hv
    subst hv
    rcases hr with hr | ⟨hr, h01⟩
    · exact W.iret hx hb (hret.trans hr) (fun t ht hw => ⟨rfl, by rw [ht]; exact hP, hS.F ht⟩) hS.2.2 hd hlocks
    · exact W.zret hx hb (hret.trans hr) (by rcases h01 with rfl | rfl <;> rfl) (fun t ht hw => ⟨rfl, by rw [ht]; exact hP, hS.F ht⟩) hS.2.2 hd hlocks
  · have hv : zv = some (.long x) := hv
    subst hv
    exact W.lret hx hb (hret.trans hr) (fun t ht hw => ⟨rfl, by rw [ht]; exact hP, hS.F ht⟩) hS.2.2 hd hlocks
  · have hv : zv = some (.ref x) := hv
    subst hv
    exact W.aret hx hb (hret.trans hr) (Or.inl ⟨n, rfl⟩) (Or.inr ⟨_, rfl⟩) (fun t ht hw => ⟨rfl, by rw [ht]; exact hP, hS.F ht⟩) hS.2.2 hd hlocks
  · have hv : zv = none := hv
    subst hv
    exact W.vret hx hb (hret.trans hr) (fun t ht hw => ⟨rfl, by rw [ht]; exact hP, hS.F ht⟩) hS.2.2 hd hlocks
set_option maxHeartbeats 4000000 in
theorem sm_met (okP : ∀ f, sm_OK P (P f)) {n : Nat} (hC : sm_Cn base ct tt D S P l n) : sm_Hr base ct tt D S P l (sm_run P S n) := by
  intro d f as w z hsl hw hrun
  refine ⟨?_, sm_run_len n d f 0 as [] w (0, 0) z hrun⟩
  obtain ⟨g1, -, g7, ⟨B, hB, hB0⟩, -⟩ := sm_okM_of (okP f).1
  refine Met.ofW (cc := (P f).2.1) (maxL := (P f).2.2.1) (ret := (P f).2.2.2.1) g1 rfl ?_
  intro p e s m args below meth c s₁ Bd hml hv
  obtain ⟨rfl, hsz, hw', hP, hG⟩ := hv
  have hts0 := atoms_spec (ws := sm_mw (P f)) Bd.pre
  have hX : sm_X base ct tt D S (P f) d p (sm_rm d (P f)) s m ((as.map (sm_cv base tt)).toArray) meth c :=
    ⟨Bd.exec, Bd.bytes, hml, findClass_of_methodNamed Bd.named, fun u hu => hts0 u (List.mem_cons_of_mem _ hu), fun q => (name_of_methodNamed Bd.named Bd.method).1.trans q, Nat.le_refl _, Nat.le_refl _, Nat.le_refl _, Nat.le_refl _, hG⟩
  have hl := lv_entry (as.map (sm_cv base tt)) (n := (P f).2.2.1) (by rw [sm_sl_len]; exact hsl)
  rw [lg_entry_eq]
  generalize (lg_sl (as.map (sm_cv base tt)) ++ List.replicate ((P f).2.2.1 - (lg_sl (as.map (sm_cv base tt))).length) Slot.unset).toArray = ls at hl ⊢
  rw [sm_args_map] at hl
  have hcut : ∃ live, B.2.1 = some live := by
    cases n with
    | zero => cases hrun
    | succ n =>
      have hrun : sm_F P S (sm_run P S n) d f 0 as [] w (0, 0) = some z := hrun
      unfold sm_F at hrun
      have hB' : (P f).2.2.2.2.2.2.2.2[0]? = some B := hB
      rw [hB'] at hrun
      obtain ⟨pcb, lo, fall, is⟩ := B
      cases lo with
      | some live => exact ⟨live, rfl⟩
      | none => cases hrun
  obtain ⟨live, hlive⟩ := hcut
  have k1 := hC d f p e (sm_rm d (P f)) s m _ below meth c _ z hX (sm_end_met Bd.exec Bd.bytes Bd.returns Bd.notSynchronized) 0 as [] w (0, 0) B live hB hlive hrun
  rw [if_pos rfl, hB0] at k1
  exact k1 s.heap [] ls hl hP va_S.rf (by show s.heap.size + 0 = base + w.1.length; rw [hsz]; rfl) hw ⟨Nat.zero_le _, Nat.zero_le _⟩
theorem sm_run_ok (cf : sm_CF) (okP : ∀ f, sm_OK P (P f)) : ∀ n, sm_Cn base ct tt D S P l n
  | 0 => fun d f p e R s m args below meth c Q z hX he b vs st w cs B live hB hlive h => by cases h
  | n + 1 => fun d f p e R s m args below meth c Q z hX he b vs st w cs B live hB hlive h => by
    have ihn := sm_run_ok cf okP n
    have h : sm_F P S (sm_run P S n) d f b vs st w cs = some z := h
    unfold sm_F at h
    have hB' : (P f).2.2.2.2.2.2.2.2[b]? = some B := hB
    rw [hB'] at h
    obtain ⟨pcb, lo, fall, is⟩ := B
    have hlive : lo = some live := hlive
    subst hlive
    exact sm_blk_ok cf okP hX (sm_met okP ihn) he (fun b lv st w cs B hB h => sm_go_ok cf okP hX (sm_met okP ihn) he (ihn d f p e R s m args below meth c Q z hX he) 64 b lv st w cs B hB h) is pcb _ st w cs (sm_okB okP hB) h
end SmMet
