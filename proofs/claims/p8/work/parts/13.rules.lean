/-- from here the small machine comes to an end with Φ -/
def sm_wp (P : Nat → sm_M) (S : sm_C) (d f b : Nat) (vs st : List Value) (w : sm_W) (cs : Nat × Nat) (Φ : sm_Z → Prop) : Prop := ∃ n z, sm_run P S n d f b vs st w cs = some z ∧ Φ z
def sm_w1 (c : ClassFile.Cond) (st : List Value) (a b : List Value → Prop) : Prop := match st with
  | .int x :: r => match c with
    | .eq => (x = 0 → a r) ∧ (¬ x = 0 → b r)
    | .ne => (x = 0 → b r) ∧ (¬ x = 0 → a r)
    | .lt => (x < 0 → a r) ∧ (¬ x < 0 → b r)
    | .ge => (0 ≤ x → a r) ∧ (¬ 0 ≤ x → b r)
    | .gt => (0 < x → a r) ∧ (¬ 0 < x → b r)
    | .le => (x ≤ 0 → a r) ∧ (¬ x ≤ 0 → b r)
  | _ => False
def sm_w2 (c : ClassFile.Cond) (st : List Value) (a b : List Value → Prop) : Prop := match st with
  | .int y :: .int x :: r => match c with
    | .eq => (x = y → a r) ∧ (¬ x = y → b r)
    | .ne => (x = y → b r) ∧ (¬ x = y → a r)
    | .lt => (x < y → a r) ∧ (¬ x < y → b r)
    | .ge => (y ≤ x → a r) ∧ (¬ y ≤ x → b r)
    | .gt => (y < x → a r) ∧ (¬ y < x → b r)
    | .le => (x ≤ y → a r) ∧ (¬ x ≤ y → b r)
  | _ => False
def sm_wn (st : List Value) (a b : List Value → Prop) : Prop := match st with
  | .null :: r => a r
  | .ref _ :: r => b r
  | _ => False
def sm_wsw (x : Int32) (k : Nat → Prop) (d : Nat) : Int → List Nat → Prop
  | _, [] => k d
  | v, b :: r => (x.toInt = v → k b) ∧ (¬ x.toInt = v → sm_wsw x k d (v + 1) r)
def sm_wlo (x : Int32) (k : Nat → Prop) (d : Nat) : List (Int × Int) → List Nat → Prop
  | [], _ => k d
  | _ :: _, [] => False
  | v :: vs, b :: r => (x.toInt = v.1 → k b) ∧ (¬ x.toInt = v.1 → sm_wlo x k d vs r)
def sm_invW (call : List Value → (sm_Z → Prop) → Prop) (n nL mc ms : Nat) (rc : Bool) (st : List Value) (cs : Nat × Nat) (lim : Nat × Nat) (k : List Value → sm_W → Nat × Nat → Prop) : Prop :=
  sm_g (rc && decide (n ≤ st.length) && decide ((lg_sl (st.take n).reverse).length ≤ nL) && decide (((st.drop n).map fun v => v.category).sum ≤ 8) && decide (cs.1 + mc ≤ lim.1) && decide (cs.2 + ms ≤ lim.2)) (call (st.take n).reverse (fun z => k (z.1.toList ++ st.drop n) z.2 (cs.1 + mc, cs.2 + ms)))
def sm_elseW (P : Nat → sm_M) (S : sm_C) (call : Nat → Nat → List Value → sm_W → (sm_Z → Prop) → Prop) (d : Nat) (M : sm_M) (i : Instr) (ops : List Nat) (lv : sm_V) (st : List Value) (w : sm_W) (cs : Nat × Nat) (k : sm_V → List Value → sm_W → Nat × Nat → Prop) : Prop := match ops with
  | g :: inst :: ci :: _ :: _ :: _ :: _ :: _ => match d with
    | 0 => False
    | d + 1 => sm_invW (fun as => call d g as w) ((P g).2.2.2.2.1 + inst) (P g).2.2.1 (P g).2.2.2.2.2.1 (P g).2.2.2.2.2.2.1 (sm_rc inst ci w.1 st (P g).2.2.2.2.1) st cs (M.2.2.2.2.2.1, M.2.2.2.2.2.2.1) (fun s' w' cs' => k lv s' w' cs')
  | _ => sm_oneW S M.2.2.1 i ops lv st w.1 w.2 (fun lv st m => k lv st (w.1, m) cs)
def sm_blkW (P : Nat → sm_M) (S : sm_C) (call : Nat → Nat → List Value → sm_W → (sm_Z → Prop) → Prop) (jmp : Nat → sm_V → List Value → sm_W → Nat × Nat → Prop) (d : Nat) (M : sm_M) (fall : Nat) (Φ : sm_Z → Prop) : List (Instr × List Nat) → sm_V → List Value → sm_W → Nat × Nat → Prop
  | [], lv, st, w, cs => jmp fall lv st w cs
  | (i, ops) :: is, lv, st, w, cs => match i with
    | .goto _ => jmp (ops.getD 0 0) lv st w cs
    | .ifCond c _ => sm_w1 c st (fun r => jmp (ops.getD 0 0) lv r w cs) (fun r => jmp (ops.getD 1 0) lv r w cs)
    | .if_icmp c _ => sm_w2 c st (fun r => jmp (ops.getD 0 0) lv r w cs) (fun r => jmp (ops.getD 1 0) lv r w cs)
    | .ifnull _ => sm_wn st (fun r => jmp (ops.getD 0 0) lv r w cs) (fun r => jmp (ops.getD 1 0) lv r w cs)
    | .ifnonnull _ => sm_wn st (fun r => jmp (ops.getD 1 0) lv r w cs) (fun r => jmp (ops.getD 0 0) lv r w cs)
    | .tableswitch _ lo _ _ => match st with
      | .int x :: r => sm_wsw x (fun b => jmp b lv r w cs) (ops.getD 0 0) lo (ops.drop 1)
      | _ => False
    | .lookupswitch _ ps => match st with
      | .int x :: r => sm_wlo x (fun b => jmp b lv r w cs) (ops.getD 0 0) ps.toList (ops.drop 1)
      | _ => False
    | .ireturn => match st with
      | [.int x] => sm_g (decide (cs = (M.2.2.2.2.2.1, M.2.2.2.2.2.2.1))) (match sm_isZ M.2.2.2.1 with
        | true => (x = 0 ∨ x = 1) ∧ Φ (some (.int x), w)
        | false => Φ (some (.int x), w))
      | _ => False
    | .lreturn => match st with
      | [.long x] => sm_g (decide (cs = (M.2.2.2.2.2.1, M.2.2.2.2.2.2.1))) (Φ (some (.long x), w))
      | _ => False
    | .areturn => match st with
      | [.ref x] => sm_g (decide (cs = (M.2.2.2.2.2.1, M.2.2.2.2.2.2.1))) (Φ (some (.ref x), w))
      | _ => False
    | .return_ => match st with
      | [] => sm_g (decide (cs = (M.2.2.2.2.2.1, M.2.2.2.2.2.2.1))) (Φ (none, w))
      | _ => False
    | .new _ => sm_g (decide (w.1.length < 1000) && decide (cs.1 + 1 ≤ M.2.2.2.2.2.1) && decide (cs.2 + sm_N (ops.getD 0 0) ≤ M.2.2.2.2.2.2.1))
        (sm_blkW P S call jmp d M fall Φ is lv (.ref w.1.length :: st) (w.1 ++ [(0, ops.getD 0 0)], sm_row w.2.1 w.1.length (fun _ => 0), w.2.2.1, sm_row w.2.2.2 w.1.length (fun _ => none)) (cs.1 + 1, cs.2 + sm_N (ops.getD 0 0)))
    | .newarray _ => match st with
      | .int n :: r => sm_g (decide (¬ n < 0) && decide (n.toNatClampNeg ≤ 100000) && decide (w.1.length < 1000) && decide (cs.1 + 1 ≤ M.2.2.2.2.2.1) && decide (cs.2 + n.toNatClampNeg ≤ M.2.2.2.2.2.2.1))
        (sm_blkW P S call jmp d M fall Φ is lv (.ref w.1.length :: r) (w.1 ++ [(ops.getD 0 0 + 1, n.toNatClampNeg)], sm_row w.2.1 w.1.length (fun _ => 0), sm_row w.2.2.1 w.1.length (fun _ => 0), w.2.2.2) (cs.1 + 1, cs.2 + n.toNatClampNeg))
      | _ => False
    | i => sm_elseW P S call d M i ops lv st w cs (fun lv st w cs => sm_blkW P S call jmp d M fall Φ is lv st w cs)
def sm_cl (P : Nat → sm_M) (S : sm_C) (d' g : Nat) (as : List Value) (w : sm_W) (Ψ : sm_Z → Prop) : Prop := sm_wp P S d' g 0 as [] w (0, 0) Ψ
def sm_goW (P : Nat → sm_M) (S : sm_C) (d f : Nat) (M : sm_M) (Φ : sm_Z → Prop) : Nat → Nat → sm_V → List Value → sm_W → Nat × Nat → Prop
  | 0, _, _, _, _, _ => False
  | n + 1, b, lv, st, w, cs => sm_g (decide (¬ b = 0)) (match M.2.2.2.2.2.2.2.2[b]? with
    | none => False
    | some (_, some live, _, _) => match sm_pick live lv with
      | none => False
      | some vs => sm_wp P S d f b vs st w cs Φ
    | some (_, none, fall, is) => sm_blkW P S (sm_cl P S) (sm_goW P S d f M Φ n) d M fall Φ is lv st w cs)
def sm_FW (P : Nat → sm_M) (S : sm_C) (d f b : Nat) (vs st : List Value) (w : sm_W) (cs : Nat × Nat) (Φ : sm_Z → Prop) : Prop := match (P f).2.2.2.2.2.2.2.2[b]? with
  | some (_, some live, fall, is) => sm_blkW P S (sm_cl P S) (sm_goW P S d f (P f) Φ 64) d (P f) fall Φ is (if b = 0 then lv_args 0 vs else live.zip vs) st w cs
  | _ => False
section SmRules
variable {P : Nat → sm_M} {S : sm_C} {d f fall : Nat} {M : sm_M} {Φ : sm_Z → Prop} {jmp : Nat → sm_V → List Value → sm_W → Nat × Nat → Prop} {J : Nat → Nat → sm_V → List Value → sm_W → Nat × Nat → Option sm_Z}
/-- from some number of rounds on it has come to an end with Φ -/
def sm_ev (F : Nat → Option sm_Z) (Φ : sm_Z → Prop) : Prop := ∃ N z, Φ z ∧ ∀ n, N ≤ n → F n = some z
theorem sm_ev_wp {d f b : Nat} {vs st : List Value} {w : sm_W} {cs : Nat × Nat} (h : sm_wp P S d f b vs st w cs Φ) : sm_ev (fun n => sm_run P S n d f b vs st w cs) Φ := by
  obtain ⟨n, z, h1, h2⟩ := h
  exact ⟨n, z, h2, fun n' hn => sm_run_mono hn h1⟩
theorem sm_w1_of {c : ClassFile.Cond} {st : List Value} {a b : List Value → Prop} {A B : List Value → Nat → Option sm_Z} (ha : ∀ r, a r → sm_ev (A r) Φ) (hb : ∀ r, b r → sm_ev (B r) Φ) (h : sm_w1 c st a b) : sm_ev (fun n => sm_b1 c st (fun r => A r n) (fun r => B r n)) Φ := by
  unfold sm_w1 at h
  split at h
  · next x r =>
    cases c <;> dsimp only at h <;> obtain ⟨h1, h2⟩ := h
    · by_cases q : x = 0
      · obtain ⟨N, z, k1, k2⟩ := ha r (h1 q); exact ⟨N, z, k1, fun n hn => by show (if x = 0 then _ else _) = _; rw [if_pos q]; exact k2 n hn⟩
      · obtain ⟨N, z, k1, k2⟩ := hb r (h2 q); exact ⟨N, z, k1, fun n hn => by show (if x = 0 then _ else _) = _; rw [if_neg q]; exact k2 n hn⟩
    · by_cases q : x = 0
      · obtain ⟨N, z, k1, k2⟩ := hb r (h1 q); exact ⟨N, z, k1, fun n hn => by show (if x = 0 then _ else _) = _; rw [if_pos q]; exact k2 n hn⟩
      · obtain ⟨N, z, k1, k2⟩ := ha r (h2 q); exact ⟨N, z, k1, fun n hn => by show (if x = 0 then _ else _) = _; rw [if_neg q]; exact k2 n hn⟩
    · by_cases q : x < 0
      · obtain ⟨N, z, k1, k2⟩ := ha r (h1 q); exact ⟨N, z, k1, fun n hn => by show (if x < 0 then _ else _) = _; rw [if_pos q]; exact k2 n hn⟩
      · obtain ⟨N, z, k1, k2⟩ := hb r (h2 q); exact ⟨N, z, k1, fun n hn => by show (if x < 0 then _ else _) = _; rw [if_neg q]; exact k2 n hn⟩
    · by_cases q : 0 ≤ x
      · obtain ⟨N, z, k1, k2⟩ := ha r (h1 q); exact ⟨N, z, k1, fun n hn => by show (if 0 ≤ x then _ else _) = _; rw [if_pos q]; exact k2 n hn⟩
      · obtain ⟨N, z, k1, k2⟩ := hb r (h2 q); exact ⟨N, z, k1, fun n hn => by show (if 0 ≤ x then _ else _) = _; rw [if_neg q]; exact k2 n hn⟩
    · by_cases q : 0 < x
      · obtain ⟨N, z, k1, k2⟩ := ha r (h1 q); exact ⟨N, z, k1, fun n hn => by show (if 0 < x then _ else _) = _; rw [if_pos q]; exact k2 n hn⟩
      · obtain ⟨N, z, k1, k2⟩ := hb r (h2 q); exact ⟨N, z, k1, fun n hn => by show (if 0 < x then _ else _) = _; rw [if_neg q]; exact k2 n hn⟩
    · by_cases q : x ≤ 0
      · obtain ⟨N, z, k1, k2⟩ := ha r (h1 q); exact ⟨N, z, k1, fun n hn => by show (if x ≤ 0 then _ else _) = _; rw [if_pos q]; exact k2 n hn⟩
      · obtain ⟨N, z, k1, k2⟩ := hb r (h2 q); exact ⟨N, z, k1, fun n hn => by show (if x ≤ 0 then _ else _) = _; rw [if_neg q]; exact k2 n hn⟩
  · exact h.elim
theorem sm_w2_of {c : ClassFile.Cond} {st : List Value} {a b : List Value → Prop} {A B : List Value → Nat → Option sm_Z} (ha : ∀ r, a r → sm_ev (A r) Φ) (hb : ∀ r, b r → sm_ev (B r) Φ) (h : sm_w2 c st a b) : sm_ev (fun n => sm_b2 c st (fun r => A r n) (fun r => B r n)) Φ := by
  unfold sm_w2 at h
  split at h
  · next y x r =>
    cases c <;> dsimp only at h <;> obtain ⟨h1, h2⟩ := h
    · by_cases q : x = y
      · obtain ⟨N, z, k1, k2⟩ := ha r (h1 q); exact ⟨N, z, k1, fun n hn => by show (if x = y then _ else _) = _; rw [if_pos q]; exact k2 n hn⟩
      · obtain ⟨N, z, k1, k2⟩ := hb r (h2 q); exact ⟨N, z, k1, fun n hn => by show (if x = y then _ else _) = _; rw [if_neg q]; exact k2 n hn⟩
    · by_cases q : x = y
      · obtain ⟨N, z, k1, k2⟩ := hb r (h1 q); exact ⟨N, z, k1, fun n hn => by show (if x = y then _ else _) = _; rw [if_pos q]; exact k2 n hn⟩
      · obtain ⟨N, z, k1, k2⟩ := ha r (h2 q); exact ⟨N, z, k1, fun n hn => by show (if x = y then _ else _) = _; rw [if_neg q]; exact k2 n hn⟩
    · by_cases q : x < y
      · obtain ⟨N, z, k1, k2⟩ := ha r (h1 q); exact ⟨N, z, k1, fun n hn => by show (if x < y then _ else _) = _; rw [if_pos q]; exact k2 n hn⟩
      · obtain ⟨N, z, k1, k2⟩ := hb r (h2 q); exact ⟨N, z, k1, fun n hn => by show (if x < y then _ else _) = _; rw [if_neg q]; exact k2 n hn⟩
    · by_cases q : y ≤ x
      · obtain ⟨N, z, k1, k2⟩ := ha r (h1 q); exact ⟨N, z, k1, fun n hn => by show (if y ≤ x then _ else _) = _; rw [if_pos q]; exact k2 n hn⟩
      · obtain ⟨N, z, k1, k2⟩ := hb r (h2 q); exact ⟨N, z, k1, fun n hn => by show (if y ≤ x then _ else _) = _; rw [if_neg q]; exact k2 n hn⟩
    · by_cases q : y < x
      · obtain ⟨N, z, k1, k2⟩ := ha r (h1 q); exact ⟨N, z, k1, fun n hn => by show (if y < x then _ else _) = _; rw [if_pos q]; exact k2 n hn⟩
      · obtain ⟨N, z, k1, k2⟩ := hb r (h2 q); exact ⟨N, z, k1, fun n hn => by show (if y < x then _ else _) = _; rw [if_neg q]; exact k2 n hn⟩
    · by_cases q : x ≤ y
      · obtain ⟨N, z, k1, k2⟩ := ha r (h1 q); exact ⟨N, z, k1, fun n hn => by show (if x ≤ y then _ else _) = _; rw [if_pos q]; exact k2 n hn⟩
      · obtain ⟨N, z, k1, k2⟩ := hb r (h2 q); exact ⟨N, z, k1, fun n hn => by show (if x ≤ y then _ else _) = _; rw [if_neg q]; exact k2 n hn⟩
  · exact h.elim
theorem sm_wn_of {st : List Value} {a b : List Value → Prop} {A B : List Value → Nat → Option sm_Z} (ha : ∀ r, a r → sm_ev (A r) Φ) (hb : ∀ r, b r → sm_ev (B r) Φ) (h : sm_wn st a b) : sm_ev (fun n => sm_bn st (fun r => A r n) (fun r => B r n)) Φ := by
  unfold sm_wn at h
  split at h
  · exact ha _ h
  · exact hb _ h
  · exact h.elim
theorem sm_wsw_of {x : Int32} {k : Nat → Prop} {K : Nat → Nat → Option sm_Z} {d : Nat} (hk : ∀ b, k b → sm_ev (K b) Φ) : ∀ (bs : List Nat) (v : Int), sm_wsw x k d v bs → sm_ev (fun n => sm_sw x (fun b => K b n) d v bs) Φ
  | [], v, h => hk _ h
  | b :: r, v, h => by
    obtain ⟨h1, h2⟩ := h
    by_cases q : x.toInt = v
    · obtain ⟨N, z, k1, k2⟩ := hk b (h1 q); exact ⟨N, z, k1, fun n hn => by show (if x.toInt = v then _ else _) = _; rw [if_pos q]; exact k2 n hn⟩
    · obtain ⟨N, z, k1, k2⟩ := sm_wsw_of hk r (v + 1) (h2 q); exact ⟨N, z, k1, fun n hn => by show (if x.toInt = v then _ else _) = _; rw [if_neg q]; exact k2 n hn⟩
theorem sm_wlo_of {x : Int32} {k : Nat → Prop} {K : Nat → Nat → Option sm_Z} {d : Nat} (hk : ∀ b, k b → sm_ev (K b) Φ) : ∀ (vs : List (Int × Int)) (bs : List Nat), sm_wlo x k d vs bs → sm_ev (fun n => sm_lo x (fun b => K b n) d vs bs) Φ
  | [], bs, h => by cases bs <;> exact hk _ h
  | v :: vs, [], h => h.elim
  | v :: vs, b :: r, h => by
    obtain ⟨h1, h2⟩ := h
    by_cases q : x.toInt = v.1
    · obtain ⟨N, z, k1, k2⟩ := hk b (h1 q); exact ⟨N, z, k1, fun n hn => by show (if x.toInt = v.1 then _ else _) = _; rw [if_pos q]; exact k2 n hn⟩
    · obtain ⟨N, z, k1, k2⟩ := sm_wlo_of hk vs r (h2 q); exact ⟨N, z, k1, fun n hn => by show (if x.toInt = v.1 then _ else _) = _; rw [if_neg q]; exact k2 n hn⟩
theorem sm_elseW_of {i : Instr} {ops : List Nat} {lv : sm_V} {st : List Value} {w : sm_W} {cs : Nat × Nat} {k : sm_V → List Value → sm_W → Nat × Nat → Prop} {K : Nat → sm_V → List Value → sm_W → Nat × Nat → Option sm_Z} (hk : ∀ lv st w cs, k lv st w cs → sm_ev (fun n => K n lv st w cs) Φ) (h : sm_elseW P S (sm_cl P S) d M i ops lv st w cs k) : sm_ev (fun n => sm_else P S (sm_run P S n) d M i ops lv st w cs (K n)) Φ := by
  unfold sm_elseW at h
  split at h
  · next g inst ci a1 a2 a3 a4 r =>
    cases d with
    | zero => exact h.elim
    | succ d =>
      obtain ⟨hg, h⟩ := sm_g_of h
      simp only [Bool.and_eq_true, decide_eq_true_eq] at hg
      obtain ⟨N1, z1, ⟨N2, z2, k1, k2⟩, k3⟩ := sm_ev_wp (Φ := fun z => sm_ev (fun n => K n lv (z.1.toList ++ st.drop ((P g).2.2.2.2.1 + inst)) z.2 (cs.1 + (P g).2.2.2.2.2.1, cs.2 + (P g).2.2.2.2.2.2.1)) Φ) (by
        obtain ⟨n, z, e1, e2⟩ := h
        exact ⟨n, z, e1, hk _ _ _ _ e2⟩)
      refine ⟨max N1 N2, z2, k1, fun n hn => ?_⟩
      show sm_else P S (sm_run P S n) (d + 1) M i (g :: inst :: ci :: a1 :: a2 :: a3 :: a4 :: r) lv st w cs (K n) = some z2
      unfold sm_else
      dsimp only
      unfold sm_inv
      rw [if_neg]
      · have k3' := k3 n (by omega)
        dsimp only at k3' ⊢
        rw [k3']
        exact k2 n (by omega)
      · rintro (q | q | q | q | q | q)
        · rw [hg.1.1.1.1.1] at q; cases q
        · exact absurd hg.1.1.1.1.2 (by omega)
        · exact absurd hg.1.1.1.2 (by omega)
        · exact absurd hg.1.1.2 (by omega)
        · have := hg.1.2; simp only at q this; omega
        · have := hg.2; simp only at q this; omega
  · next hno =>
    obtain ⟨q, e1, e2⟩ := sm_oneW_of h
    obtain ⟨N, z, k1, k2⟩ := hk _ _ _ _ e2
    refine ⟨N, z, k1, fun n hn => ?_⟩
    show sm_else P S (sm_run P S n) d M i ops lv st w cs (K n) = some z
    unfold sm_else
    split
    · next g inst ci a1 a2 a3 a4 r => exact absurd rfl (hno g inst ci a1 a2 a3 a4 r)
    · rw [e1]; exact k2 n hn
theorem sm_blkW_else {call : Nat → Nat → List Value → sm_W → (sm_Z → Prop) → Prop} {i : Instr} {ops : List Nat} {is : List (Instr × List Nat)} {lv : sm_V} {st : List Value} {w : sm_W} {cs : Nat × Nat} (h : sm_isE i = true) : sm_blkW P S call jmp d M fall Φ ((i, ops) :: is) lv st w cs = sm_elseW P S call d M i ops lv st w cs (fun lv st w cs => sm_blkW P S call jmp d M fall Φ is lv st w cs) := by
  cases i <;> first | rfl | cases h
set_option maxHeartbeats 4000000 in
theorem sm_blkW_of (hj : ∀ b lv st w cs, jmp b lv st w cs → sm_ev (fun n => J n b lv st w cs) Φ) : ∀ (is : List (Instr × List Nat)) (lv : sm_V) (st : List Value) (w : sm_W) (cs : Nat × Nat), sm_blkW P S (sm_cl P S) jmp d M fall Φ is lv st w cs → sm_ev (fun n => sm_blk P S (sm_run P S n) (J n) d M fall is lv st w cs) Φ := by
  intro is
  induction is with
  | nil => intro lv st w cs h; exact hj _ _ _ _ _ h
  | cons q is ih =>
    obtain ⟨i, ops⟩ := q
    intro lv st w cs h
    cases i with
    | goto off => exact hj _ _ _ _ _ h
    | ifCond c off => exact sm_w1_of (A := fun r n => J n (ops.getD 0 0) lv r w cs) (B := fun r n => J n (ops.getD 1 0) lv r w cs) (fun r h => hj _ _ _ _ _ h) (fun r h => hj _ _ _ _ _ h) h
    | if_icmp c off => exact sm_w2_of (A := fun r n => J n (ops.getD 0 0) lv r w cs) (B := fun r n => J n (ops.getD 1 0) lv r w cs) (fun r h => hj _ _ _ _ _ h) (fun r h => hj _ _ _ _ _ h) h
    | ifnull off => exact sm_wn_of (A := fun r n => J n (ops.getD 0 0) lv r w cs) (B := fun r n => J n (ops.getD 1 0) lv r w cs) (fun r h => hj _ _ _ _ _ h) (fun r h => hj _ _ _ _ _ h) h
    | ifnonnull off => exact sm_wn_of (A := fun r n => J n (ops.getD 1 0) lv r w cs) (B := fun r n => J n (ops.getD 0 0) lv r w cs) (fun r h => hj _ _ _ _ _ h) (fun r h => hj _ _ _ _ _ h) h
    | tableswitch df lo hi offs =>
      unfold sm_blkW at h
      dsimp only at h
      split at h
      · next x r => exact sm_wsw_of (K := fun b n => J n b lv r w cs) (fun b h => hj _ _ _ _ _ h) _ _ h
      · exact h.elim
    | lookupswitch df ps =>
      unfold sm_blkW at h
      dsimp only at h
      split at h
      · next x r => exact sm_wlo_of (K := fun b n => J n b lv r w cs) (fun b h => hj _ _ _ _ _ h) _ _ h
      · exact h.elim
    | ireturn =>
      unfold sm_blkW at h
      dsimp only at h
      split at h
      · next x =>
        obtain ⟨hc, h⟩ := sm_g_of h
        have hc := of_decide_eq_true hc
        cases hz : sm_isZ M.2.2.2.1 with
        | true =>
          rw [hz] at h
          obtain ⟨h1, h2⟩ := h
          refine ⟨0, _, h2, fun n _ => ?_⟩
          show (if cs = _ then (if sm_isZ M.2.2.2.1 = true then (if x = 0 ∨ x = 1 then _ else _) else _) else _) = _
          rw [if_pos hc, if_pos hz, if_pos h1]
        | false =>
          rw [hz] at h
          refine ⟨0, _, h, fun n _ => ?_⟩
          show (if cs = _ then (if sm_isZ M.2.2.2.1 = true then (if x = 0 ∨ x = 1 then _ else _) else _) else _) = _
          rw [if_pos hc, if_neg (by rw [hz]; decide)]
      · exact h.elim
    | lreturn =>
      unfold sm_blkW at h
      dsimp only at h
      split at h
      · obtain ⟨hc, h⟩ := sm_g_of h
        exact ⟨0, _, h, fun n _ => by show (if cs = _ then _ else _) = _; rw [if_pos (of_decide_eq_true hc)]⟩
      · exact h.elim
    | areturn =>
      unfold sm_blkW at h
      dsimp only at h
      split at h
      · obtain ⟨hc, h⟩ := sm_g_of h
        exact ⟨0, _, h, fun n _ => by show (if cs = _ then _ else _) = _; rw [if_pos (of_decide_eq_true hc)]⟩
      · exact h.elim
    | return_ =>
      unfold sm_blkW at h
      dsimp only at h
      split at h
      · obtain ⟨hc, h⟩ := sm_g_of h
        exact ⟨0, _, h, fun n _ => by show (if cs = _ then _ else _) = _; rw [if_pos (of_decide_eq_true hc)]⟩
      · exact h.elim
    | new x =>
      unfold sm_blkW at h
      dsimp only at h
      obtain ⟨hc, h⟩ := sm_g_of h
      simp only [Bool.and_eq_true, decide_eq_true_eq] at hc
      obtain ⟨N, z, k1, k2⟩ := ih _ _ _ _ h
      refine ⟨N, z, k1, fun n hn => ?_⟩
      show (if _ then _ else _) = _
      rw [if_neg (by omega)]
      exact k2 n hn
    | newarray at' =>
      unfold sm_blkW at h
      dsimp only at h
      split at h
      · obtain ⟨hc, h⟩ := sm_g_of h
        simp only [Bool.and_eq_true, decide_eq_true_eq] at hc
        obtain ⟨N, z, k1, k2⟩ := ih _ _ _ _ h
        refine ⟨N, z, k1, fun n hn => ?_⟩
        show (if _ then _ else _) = _
        rw [if_neg (by
          rintro (q | q | q | q | q)
          · exact hc.1.1.1.1 q
          · omega
          · omega
          · omega
          · omega)]
        exact k2 n hn
      · exact h.elim
    | _ =>
      rw [sm_blkW_else rfl] at h
      have k1 := sm_elseW_of (K := fun n lv st w cs => sm_blk P S (sm_run P S n) (J n) d M fall is lv st w cs) ih h
      obtain ⟨N, z, k2, k3⟩ := k1
      exact ⟨N, z, k2, fun n hn => by show sm_blk _ _ _ _ _ _ _ _ _ _ _ _ = _; rw [sm_blk_else rfl]; exact k3 n hn⟩
theorem sm_goW_of : ∀ (K b : Nat) (lv : sm_V) (st : List Value) (w : sm_W) (cs : Nat × Nat), sm_goW P S d f M Φ K b lv st w cs → sm_ev (fun n => sm_go P S (sm_run P S n) d f M K b lv st w cs) Φ := by
  intro K
  induction K with
  | zero => intro b lv st w cs h; exact h.elim
  | succ K ih =>
    intro b lv st w cs h
    unfold sm_goW at h
    obtain ⟨hb, h⟩ := sm_g_of h
    have hb := of_decide_eq_true hb
    cases hB : M.2.2.2.2.2.2.2.2[b]? with
    | none => rw [hB] at h; exact h.elim
    | some B =>
      obtain ⟨pcb, lo, fall, is⟩ := B
      rw [hB] at h
      cases lo with
      | some live =>
        dsimp only at h
        cases hp : sm_pick live lv with
        | none => rw [hp] at h; exact h.elim
        | some vs =>
          rw [hp] at h
          have e0 : ∀ n, sm_go P S (sm_run P S n) d f M (K + 1) b lv st w cs = sm_run P S n d f b vs st w cs := by
            intro n
            unfold sm_go
            rw [if_neg hb, hB]
            dsimp only
            rw [hp]
          simp only [e0]
          exact sm_ev_wp h
      | none =>
        dsimp only at h
        have e0 : ∀ n, sm_go P S (sm_run P S n) d f M (K + 1) b lv st w cs = sm_blk P S (sm_run P S n) (sm_go P S (sm_run P S n) d f M K) d M fall is lv st w cs := by
          intro n
          show sm_go P S (sm_run P S n) d f M (K + 1) b lv st w cs = _
          rw [sm_go, if_neg hb, hB]
        simp only [e0]
        exact sm_blkW_of ih _ _ _ _ _ h
/-- one round by conditions -/
theorem sm_wp_step {b : Nat} {vs st : List Value} {w : sm_W} {cs : Nat × Nat} (h : sm_FW P S d f b vs st w cs Φ) : sm_wp P S d f b vs st w cs Φ := by
  unfold sm_FW at h
  split at h
  · next pcb live fall is e =>
    obtain ⟨N, z, k1, k2⟩ := sm_blkW_of (J := fun n => sm_go P S (sm_run P S n) d f (P f) 64) (fun b lv st w cs h => sm_goW_of 64 b lv st w cs h) _ _ _ _ _ h
    refine ⟨N + 1, z, ?_, k1⟩
    show sm_F P S (sm_run P S N) d f b vs st w cs = some z
    unfold sm_F
    rw [e]
    exact k2 N (Nat.le_refl N)
  · exact h.elim
theorem sm_wp_mono {b : Nat} {vs st : List Value} {w : sm_W} {cs : Nat × Nat} {Ψ : sm_Z → Prop} (h : sm_wp P S d f b vs st w cs Ψ) (hq : ∀ z, Ψ z → Φ z) : sm_wp P S d f b vs st w cs Φ := by
  obtain ⟨n, z, h1, h2⟩ := h
  exact ⟨n, z, h1, hq z h2⟩
end SmRules
