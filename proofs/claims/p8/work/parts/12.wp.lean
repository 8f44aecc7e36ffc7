/-! what must hold ahead for an end: the small machine by conditions -/
def sm_ow (o : sm_O) (k : sm_V → List Value → sm_Y → Prop) : Prop := match o with
  | some q => k q.1 q.2.1 q.2.2
  | none => False
theorem sm_ow_of {o : sm_O} {k : sm_V → List Value → sm_Y → Prop} (h : sm_ow o k) : ∃ q, o = some q ∧ k q.1 q.2.1 q.2.2 := by
  cases o with
  | none => exact h.elim
  | some q => exact ⟨q, rfl, h⟩
def sm_wI (S : sm_C) (lay : List (Nat × Nat)) (m : sm_Y) (st : List Value) (k : List Value → Prop) : Prop := match st with
  | .int i :: .ref p :: r => match lay[p]? with
    | some (1, n) => vp_in i n ∧ k (.int (m.1 p i.toNatClampNeg) :: r)
    | some _ => False
    | none => match sm_sI S p with
      | some q => vp_in i q.1 ∧ k (.int (q.2 i.toNatClampNeg) :: r)
      | none => False
  | _ => False
def sm_wB (lay : List (Nat × Nat)) (m : sm_Y) (st : List Value) (k : List Value → Prop) : Prop := match st with
  | .int i :: .ref p :: r => match lay[p]? with
    | some (2, n) => vp_in i n ∧ k (.int (m.1 p i.toNatClampNeg) :: r)
    | some (3, n) => vp_in i n ∧ k (.int (m.1 p i.toNatClampNeg) :: r)
    | _ => False
  | _ => False
def sm_wL (lay : List (Nat × Nat)) (m : sm_Y) (st : List Value) (k : List Value → Prop) : Prop := match st with
  | .int i :: .ref p :: r => match lay[p]? with
    | some (4, n) => vp_in i n ∧ k (.long (m.2.1 p i.toNatClampNeg) :: r)
    | some _ => False
    | none => match sm_sL p with
      | some q => vp_in i q.1 ∧ k (.long (q.2 i.toNatClampNeg) :: r)
      | none => False
  | _ => False
def sm_wpI (lay : List (Nat × Nat)) (m : sm_Y) (st : List Value) (k : List Value → sm_Y → Prop) : Prop := match st with
  | .int x :: .int i :: .ref p :: r => match lay[p]? with
    | some (1, n) => vp_in i n ∧ k r (sm_up m.1 p i.toNatClampNeg x, m.2)
    | _ => False
  | _ => False
def sm_wpB (lay : List (Nat × Nat)) (m : sm_Y) (st : List Value) (k : List Value → sm_Y → Prop) : Prop := match st with
  | .int x :: .int i :: .ref p :: r => match lay[p]? with
    | some (2, n) => vp_in i n ∧ k r (sm_up m.1 p i.toNatClampNeg (vp_nar .byte x), m.2)
    | some (3, n) => vp_in i n ∧ k r (sm_up m.1 p i.toNatClampNeg (vp_nar .boolean x), m.2)
    | _ => False
  | _ => False
def sm_wpL (lay : List (Nat × Nat)) (m : sm_Y) (st : List Value) (k : List Value → sm_Y → Prop) : Prop := match st with
  | .long x :: .int i :: .ref p :: r => match lay[p]? with
    | some (4, n) => vp_in i n ∧ k r (m.1, sm_up m.2.1 p i.toNatClampNeg x, m.2.2)
    | _ => False
  | _ => False
def sm_g (b : Bool) (A : Prop) : Prop := match b with
  | true => A
  | false => False
theorem sm_g_of {b : Bool} {A : Prop} (h : sm_g b A) : b = true ∧ A := by
  cases b with
  | true => exact ⟨rfl, h⟩
  | false => exact h.elim
def sm_wput (lay : List (Nat × Nat)) (m : sm_Y) (c k : Nat) (st : List Value) (kk : List Value → sm_Y → Prop) : Prop := match st with
  | v :: .ref p :: r => match lay[p]? with
    | some (0, c') => sm_g (decide (c' = c)) (match sm_cd c k, v with
      | 0, .int x => kk r (sm_up m.1 p k x, m.2)
      | 1, .ref q => kk r (m.1, m.2.1, sm_up m.2.2 p k (some q))
      | 1, .null => kk r (m.1, m.2.1, sm_up m.2.2 p k none)
      | 2, .int x => (x = 0 ∨ x = 1) ∧ kk r (sm_up m.1 p k x, m.2)
      | _, _ => False)
    | _ => False
  | _ => False
def sm_wq (f : Int32 → Int32 → Int32) (st : List Value) (k : List Value → Prop) : Prop := match st with
  | .int y :: .int x :: r => ¬ y = 0 ∧ k (.int (f x y) :: r)
  | _ => False
def sm_wcpy (lay : List (Nat × Nat)) (m : sm_Y) (st : List Value) (k : List Value → sm_Y → Prop) : Prop := match st with
  | .int n :: .int dp :: .ref a :: .int sp :: .ref a0 :: r => match lay[a0]?, lay[a]? with
    | some (1, n0), some (1, n1) => sm_g (decide ((r.map fun v => v.category).sum ≤ 8)) ((¬ sp < 0 ∧ ¬ dp < 0 ∧ ¬ n < 0 ∧ sp.toNatClampNeg + n.toNatClampNeg ≤ n0 ∧ dp.toNatClampNeg + n.toNatClampNeg ≤ n1) ∧ k r (sm_row m.1 a (va_cpy (m.1 a0) (m.1 a) sp.toNatClampNeg dp.toNatClampNeg n.toNatClampNeg), m.2))
    | _, _ => False
  | _ => False
def sm_wst4 (ops : List Nat) (lv : sm_V) (lay : List (Nat × Nat)) (m : sm_Y) (st : List Value) (k : sm_V → List Value → sm_Y → Prop) : Prop := match ops with
  | 0 :: _ => sm_wcpy lay m st (fun s m' => k lv s m')
  | ops => sm_ow (sm_st4 ops lv lay m st) k
def sm_oneW (S : sm_C) (nL : Nat) (i : Instr) (ops : List Nat) (lv : sm_V) (st : List Value) (lay : List (Nat × Nat)) (m : sm_Y) (k : sm_V → List Value → sm_Y → Prop) : Prop := match i with
  | .iaload => sm_wI S lay m st (fun s => k lv s m)
  | .baload => sm_wB lay m st (fun s => k lv s m)
  | .laload => sm_wL lay m st (fun s => k lv s m)
  | .iastore => sm_wpI lay m st (fun s m' => k lv s m')
  | .bastore => sm_wpB lay m st (fun s m' => k lv s m')
  | .lastore => sm_wpL lay m st (fun s m' => k lv s m')
  | .putfield _ => sm_wput lay m (ops.getD 0 0) (ops.getD 1 0) st (fun s m' => k lv s m')
  | .idiv => sm_wq (fun x y => x / y) st (fun s => k lv s m)
  | .irem => sm_wq (fun x y => x - x / y * y) st (fun s => k lv s m)
  | .invokestatic _ => sm_wst4 ops lv lay m st k
  | i => sm_ow (sm_one S nL i ops lv st lay m) k
section SmWp
variable {S : sm_C} {nL : Nat} {ops : List Nat} {lv : sm_V} {st : List Value} {lay : List (Nat × Nat)} {m : sm_Y} {k : sm_V → List Value → sm_Y → Prop}
theorem sm_vpn {i : Int32} {n : Nat} (h : vp_in i n) : ¬ (i < 0 ∨ n ≤ i.toNatClampNeg) := h
theorem sm_wI_of {kk : List Value → Prop} (h : sm_wI S lay m st kk) : ∃ s, sm_gI S lay m st = some s ∧ kk s := by
  unfold sm_wI at h
  split at h
  · split at h
    · next e => obtain ⟨h1, h2⟩ := h; exact ⟨_, by simp only [sm_gI, e]; rw [if_neg (sm_vpn h1)], h2⟩
    · exact h.elim
    · next e =>
      split at h
      · next q e2 => obtain ⟨h1, h2⟩ := h; exact ⟨_, by simp only [sm_gI, e, e2]; rw [if_neg (sm_vpn h1)], h2⟩
      · exact h.elim
  · exact h.elim
theorem sm_wB_of {kk : List Value → Prop} (h : sm_wB lay m st kk) : ∃ s, sm_gB lay m st = some s ∧ kk s := by
  unfold sm_wB at h
  split at h
  · split at h
    · next e => obtain ⟨h1, h2⟩ := h; exact ⟨_, by simp only [sm_gB, e]; rw [if_neg (sm_vpn h1)], h2⟩
    · next e => obtain ⟨h1, h2⟩ := h; exact ⟨_, by simp only [sm_gB, e]; rw [if_neg (sm_vpn h1)], h2⟩
    · exact h.elim
  · exact h.elim
theorem sm_wL_of {kk : List Value → Prop} (h : sm_wL lay m st kk) : ∃ s, sm_gL lay m st = some s ∧ kk s := by
  unfold sm_wL at h
  split at h
  · split at h
    · next e => obtain ⟨h1, h2⟩ := h; exact ⟨_, by simp only [sm_gL, e]; rw [if_neg (sm_vpn h1)], h2⟩
    · exact h.elim
    · next e =>
      split at h
      · next q e2 => obtain ⟨h1, h2⟩ := h; exact ⟨_, by simp only [sm_gL, e, e2]; rw [if_neg (sm_vpn h1)], h2⟩
      · exact h.elim
  · exact h.elim
theorem sm_wpI_of {kk : List Value → sm_Y → Prop} (h : sm_wpI lay m st kk) : ∃ s m', sm_pI lv lay m st = some (lv, s, m') ∧ kk s m' := by
  unfold sm_wpI at h
  split at h
  · split at h
    · next e => obtain ⟨h1, h2⟩ := h; exact ⟨_, _, by simp only [sm_pI, e]; rw [if_neg (sm_vpn h1)], h2⟩
    · exact h.elim
  · exact h.elim
theorem sm_wpB_of {kk : List Value → sm_Y → Prop} (h : sm_wpB lay m st kk) : ∃ s m', sm_pB lv lay m st = some (lv, s, m') ∧ kk s m' := by
  unfold sm_wpB at h
  split at h
  · split at h
    · next e => obtain ⟨h1, h2⟩ := h; exact ⟨_, _, by simp only [sm_pB, e]; rw [if_neg (sm_vpn h1)], h2⟩
    · next e => obtain ⟨h1, h2⟩ := h; exact ⟨_, _, by simp only [sm_pB, e]; rw [if_neg (sm_vpn h1)], h2⟩
    · exact h.elim
  · exact h.elim
theorem sm_wpL_of {kk : List Value → sm_Y → Prop} (h : sm_wpL lay m st kk) : ∃ s m', sm_pL lv lay m st = some (lv, s, m') ∧ kk s m' := by
  unfold sm_wpL at h
  split at h
  · split at h
    · next e => obtain ⟨h1, h2⟩ := h; exact ⟨_, _, by simp only [sm_pL, e]; rw [if_neg (sm_vpn h1)], h2⟩
    · exact h.elim
  · exact h.elim
theorem sm_wput_of {c k' : Nat} {kk : List Value → sm_Y → Prop} (h : sm_wput lay m c k' st kk) : ∃ s m', sm_put lv lay m c k' st = some (lv, s, m') ∧ kk s m' := by
  unfold sm_wput at h
  split at h
  · split at h
    · next e =>
      have hh := sm_g_of h
      clear h
      obtain ⟨hc0, h⟩ := hh
      have hc := of_decide_eq_true hc0
      clear hc0
      subst hc
      split at h
      · next e2 => exact ⟨_, _, by simp only [sm_put, e, e2]; rfl, h⟩
      · next e2 => exact ⟨_, _, by simp only [sm_put, e, e2]; rfl, h⟩
      · next e2 => exact ⟨_, _, by simp only [sm_put, e, e2]; rfl, h⟩
      · next e2 => obtain ⟨h1, h2⟩ := h; exact ⟨_, _, by simp only [sm_put, e, e2]; rw [if_pos trivial, if_pos h1], h2⟩
      · exact h.elim
    · exact h.elim
  · exact h.elim
theorem sm_wq_of {f : Int32 → Int32 → Int32} {kk : List Value → Prop} (h : sm_wq f st kk) : ∃ s, sm_iq f st = some s ∧ kk s := by
  unfold sm_wq at h
  split at h
  · obtain ⟨h1, h2⟩ := h; exact ⟨_, by simp only [sm_iq]; rw [if_neg h1], h2⟩
  · exact h.elim
theorem sm_wcpy_of {kk : List Value → sm_Y → Prop} (h : sm_wcpy lay m st kk) : ∃ s m', sm_cpy lv lay m st = some (lv, s, m') ∧ kk s m' := by
  unfold sm_wcpy at h
  split at h
  · split at h
    · next e1 e2 =>
      obtain ⟨h0, ⟨h1, h2, h3, h4, h5⟩, h6⟩ := sm_g_of h
      have h0 := of_decide_eq_true h0
      refine ⟨_, _, ?_, h6⟩
      simp only [sm_cpy, e1, e2]
      rw [if_neg]
      intro q
      rcases q with q | q | q | q | q | q
      · exact h1 q
      · exact h2 q
      · exact h3 q
      · omega
      · omega
      · omega
    · exact h.elim
  · exact h.elim
theorem sm_oneW_of {i : Instr} (h : sm_oneW S nL i ops lv st lay m k) : ∃ q, sm_one S nL i ops lv st lay m = some q ∧ k q.1 q.2.1 q.2.2 := by
  cases i with
  | iaload => obtain ⟨s, h1, h2⟩ := sm_wI_of (kk := fun s => k lv s m) h; exact ⟨(lv, s, m), by show sm_p lv m (sm_gI S lay m st) = _; rw [h1]; rfl, h2⟩
  | baload => obtain ⟨s, h1, h2⟩ := sm_wB_of (kk := fun s => k lv s m) h; exact ⟨(lv, s, m), by show sm_p lv m (sm_gB lay m st) = _; rw [h1]; rfl, h2⟩
  | laload => obtain ⟨s, h1, h2⟩ := sm_wL_of (kk := fun s => k lv s m) h; exact ⟨(lv, s, m), by show sm_p lv m (sm_gL lay m st) = _; rw [h1]; rfl, h2⟩
  | iastore => obtain ⟨s, m', h1, h2⟩ := sm_wpI_of (lv := lv) h; exact ⟨(lv, s, m'), h1, h2⟩
  | bastore => obtain ⟨s, m', h1, h2⟩ := sm_wpB_of (lv := lv) h; exact ⟨(lv, s, m'), h1, h2⟩
  | lastore => obtain ⟨s, m', h1, h2⟩ := sm_wpL_of (lv := lv) h; exact ⟨(lv, s, m'), h1, h2⟩
  | putfield x => obtain ⟨s, m', h1, h2⟩ := sm_wput_of (lv := lv) h; exact ⟨(lv, s, m'), h1, h2⟩
  | idiv => obtain ⟨s, h1, h2⟩ := sm_wq_of (f := fun x y => x / y) (kk := fun s => k lv s m) h; exact ⟨(lv, s, m), by show sm_p lv m (sm_iq (fun x y => x / y) st) = _; rw [h1]; rfl, h2⟩
  | irem => obtain ⟨s, h1, h2⟩ := sm_wq_of (f := fun x y => x - x / y * y) (kk := fun s => k lv s m) h; exact ⟨(lv, s, m), by show sm_p lv m (sm_iq (fun x y => x - x / y * y) st) = _; rw [h1]; rfl, h2⟩
  | invokestatic x =>
    have h : sm_wst4 ops lv lay m st k := h
    show ∃ q, sm_st4 ops lv lay m st = some q ∧ k q.1 q.2.1 q.2.2
    unfold sm_wst4 at h
    split at h
    · obtain ⟨s, m', h1, h2⟩ := sm_wcpy_of (lv := lv) h; exact ⟨(lv, s, m'), h1, h2⟩
    · exact sm_ow_of h
  | _ => exact sm_ow_of h
end SmWp
/-! more rounds change nothing -/
section SmMono
variable {P : Nat → sm_M} {S : sm_C} {rec rec' : Nat → Nat → Nat → List Value → List Value → sm_W → Nat × Nat → Option sm_Z} {jmp jmp' : Nat → sm_V → List Value → sm_W → Nat × Nat → Option sm_Z} {d fall : Nat} {M : sm_M} {z : sm_Z}
theorem sm_b1_mono {α : Type} {z : α} {st : List Value} {a b a' b' : List Value → Option α} {c : ClassFile.Cond} (ha : ∀ r, a r = some z → a' r = some z) (hb : ∀ r, b r = some z → b' r = some z) (h : sm_b1 c st a b = some z) : sm_b1 c st a' b' = some z := by
  unfold sm_b1 at h ⊢
  split at h
  · cases c <;> (dsimp only at h ⊢; split at h <;> rename_i hc <;> first | (rw [if_pos hc]; first | exact ha _ h | exact hb _ h) | (rw [if_neg hc]; first | exact ha _ h | exact hb _ h))
  · cases h
theorem sm_b2_mono {α : Type} {z : α} {st : List Value} {a b a' b' : List Value → Option α} {c : ClassFile.Cond} (ha : ∀ r, a r = some z → a' r = some z) (hb : ∀ r, b r = some z → b' r = some z) (h : sm_b2 c st a b = some z) : sm_b2 c st a' b' = some z := by
  unfold sm_b2 at h ⊢
  split at h
  · cases c <;> (dsimp only at h ⊢; split at h <;> rename_i hc <;> first | (rw [if_pos hc]; first | exact ha _ h | exact hb _ h) | (rw [if_neg hc]; first | exact ha _ h | exact hb _ h))
  · cases h
theorem sm_bn_mono {α : Type} {z : α} {st : List Value} {a b a' b' : List Value → Option α} (ha : ∀ r, a r = some z → a' r = some z) (hb : ∀ r, b r = some z → b' r = some z) (h : sm_bn st a b = some z) : sm_bn st a' b' = some z := by
  unfold sm_bn at h ⊢
  split at h
  · exact ha _ h
  · exact hb _ h
  · cases h
theorem sm_sw_mono {α : Type} {z : α} {x : Int32} {k k' : Nat → Option α} {d : Nat} (hk : ∀ b, k b = some z → k' b = some z) : ∀ (bs : List Nat) (v : Int), sm_sw x k d v bs = some z → sm_sw x k' d v bs = some z
  | [], v, h => hk _ h
  | b :: r, v, h => by
    unfold sm_sw at h ⊢
    split at h
    · next e => rw [if_pos e]; exact hk _ h
    · next e => rw [if_neg e]; exact sm_sw_mono hk r (v + 1) h
theorem sm_lo_mono {α : Type} {z : α} {x : Int32} {k k' : Nat → Option α} {d : Nat} (hk : ∀ b, k b = some z → k' b = some z) : ∀ (vs : List (Int × Int)) (bs : List Nat), sm_lo x k d vs bs = some z → sm_lo x k' d vs bs = some z
  | [], bs, h => by cases bs <;> exact hk _ h
  | v :: vs, [], h => by cases h
  | v :: vs, b :: r, h => by
    unfold sm_lo at h ⊢
    split at h
    · next e => rw [if_pos e]; exact hk _ h
    · next e => rw [if_neg e]; exact sm_lo_mono hk vs r h
theorem sm_else_mono {i : Instr} {ops : List Nat} {lv : sm_V} {st : List Value} {w : sm_W} {cs : Nat × Nat} {k k' : sm_V → List Value → sm_W → Nat × Nat → Option sm_Z} (hr : ∀ d' g b as st w cs z', rec d' g b as st w cs = some z' → rec' d' g b as st w cs = some z') (hk : ∀ lv st w cs, k lv st w cs = some z → k' lv st w cs = some z) (h : sm_else P S rec d M i ops lv st w cs k = some z) : sm_else P S rec' d M i ops lv st w cs k' = some z := by
  unfold sm_else at h ⊢
  split at h
  · split at h
    · cases h
    · unfold sm_inv at h ⊢
      split at h
      · cases h
      · next hc =>
        dsimp only
        rw [if_neg hc]
        split at h
        · cases h
        · next z' e => rw [hr _ _ _ _ _ _ _ _ e]; exact hk _ _ _ _ h
  · split at h
    · exact hk _ _ _ _ h
    · cases h
set_option maxHeartbeats 4000000 in
theorem sm_blk_mono (hr : ∀ d' g b as st w cs z', rec d' g b as st w cs = some z' → rec' d' g b as st w cs = some z') (hj : ∀ b lv st w cs, jmp b lv st w cs = some z → jmp' b lv st w cs = some z) : ∀ (is : List (Instr × List Nat)) (lv : sm_V) (st : List Value) (w : sm_W) (cs : Nat × Nat), sm_blk P S rec jmp d M fall is lv st w cs = some z → sm_blk P S rec' jmp' d M fall is lv st w cs = some z := by
  intro is
  induction is with
  | nil => intro lv st w cs h; exact hj _ _ _ _ _ h
  | cons q is ih =>
    obtain ⟨i, ops⟩ := q
    intro lv st w cs h
    cases i with
    | goto off => exact hj _ _ _ _ _ h
    | ifCond c off => exact sm_b1_mono (fun r h => hj _ _ _ _ _ h) (fun r h => hj _ _ _ _ _ h) h
    | if_icmp c off => exact sm_b2_mono (fun r h => hj _ _ _ _ _ h) (fun r h => hj _ _ _ _ _ h) h
    | ifnull off => exact sm_bn_mono (fun r h => hj _ _ _ _ _ h) (fun r h => hj _ _ _ _ _ h) h
    | ifnonnull off => exact sm_bn_mono (fun r h => hj _ _ _ _ _ h) (fun r h => hj _ _ _ _ _ h) h
    | tableswitch df lo hi offs =>
      unfold sm_blk at h ⊢
      dsimp only at h ⊢
      split at h
      · exact sm_sw_mono (fun b h => hj _ _ _ _ _ h) _ _ h
      · cases h
    | lookupswitch df ps =>
      unfold sm_blk at h ⊢
      dsimp only at h ⊢
      split at h
      · exact sm_lo_mono (fun b h => hj _ _ _ _ _ h) _ _ h
      · cases h
    | ireturn => exact h
    | lreturn => exact h
    | areturn => exact h
    | return_ => exact h
    | new x =>
      unfold sm_blk at h ⊢
      dsimp only at h ⊢
      split at h
      · cases h
      · next hc => rw [if_neg hc]; exact ih _ _ _ _ h
    | newarray at' =>
      unfold sm_blk at h ⊢
      dsimp only at h ⊢
      split at h
      · split at h
        · cases h
        · next hc => rw [if_neg hc]; exact ih _ _ _ _ h
      · cases h
    | _ => rw [sm_blk_else rfl] at h ⊢; exact sm_else_mono hr ih h
theorem sm_go_mono {f : Nat} (hr : ∀ d' g b as st w cs z', rec d' g b as st w cs = some z' → rec' d' g b as st w cs = some z') : ∀ (n : Nat) (b : Nat) (lv : sm_V) (st : List Value) (w : sm_W) (cs : Nat × Nat), sm_go P S rec d f M n b lv st w cs = some z → sm_go P S rec' d f M n b lv st w cs = some z := by
  intro n
  induction n with
  | zero => intro b lv st w cs h; cases h
  | succ n ih =>
    intro b lv st w cs h
    unfold sm_go at h ⊢
    split at h
    · cases h
    · next hb =>
      rw [if_neg hb]
      split at h
      · cases h
      · split at h
        · cases h
        · exact hr _ _ _ _ _ _ _ _ h
      · exact sm_blk_mono hr ih _ _ _ _ _ h
theorem sm_run_mono1 : ∀ (n d f b : Nat) (vs st : List Value) (w : sm_W) (cs : Nat × Nat) (z : sm_Z), sm_run P S n d f b vs st w cs = some z → sm_run P S (n + 1) d f b vs st w cs = some z
  | 0, _, _, _, _, _, _, _, _, h => by cases h
  | n + 1, d, f, b, vs, st, w, cs, z, h => by
    have h : sm_F P S (sm_run P S n) d f b vs st w cs = some z := h
    show sm_F P S (sm_run P S (n + 1)) d f b vs st w cs = some z
    unfold sm_F at h ⊢
    split at h
    · exact sm_blk_mono (sm_run_mono1 n) (sm_go_mono (sm_run_mono1 n) 64) _ _ _ _ _ h
    · cases h
theorem sm_run_mono {n n' : Nat} (hn : n ≤ n') {d f b : Nat} {vs st : List Value} {w : sm_W} {cs : Nat × Nat} {z : sm_Z} (h : sm_run P S n d f b vs st w cs = some z) : sm_run P S n' d f b vs st w cs = some z := by
  induction hn with
  | refl => exact h
  | step _ ih => exact sm_run_mono1 _ _ _ _ _ _ _ _ _ ih
end SmMono
