/-! how many cells there are in the end -/
def sm_Ln (M : sm_M) (z : sm_Z) (w : sm_W) (cs : Nat × Nat) : Prop := z.2.1.length + cs.1 = w.1.length + M.2.2.2.2.2.1 ∧ (w.1.length ≤ 1000 → z.2.1.length ≤ 1000)
section SmLen
variable {α : Type} {z : α} {st : List Value} {a b : List Value → Option α}
theorem sm_b1_or {c : ClassFile.Cond} (h : sm_b1 c st a b = some z) : (∃ r, a r = some z) ∨ ∃ r, b r = some z := by
  unfold sm_b1 at h
  split at h
  · cases c <;> (dsimp only at h; split at h <;> first | exact Or.inl ⟨_, h⟩ | exact Or.inr ⟨_, h⟩)
  · cases h
theorem sm_b2_or {c : ClassFile.Cond} (h : sm_b2 c st a b = some z) : (∃ r, a r = some z) ∨ ∃ r, b r = some z := by
  unfold sm_b2 at h
  split at h
  · cases c <;> (dsimp only at h; split at h <;> first | exact Or.inl ⟨_, h⟩ | exact Or.inr ⟨_, h⟩)
  · cases h
theorem sm_bn_or (h : sm_bn st a b = some z) : (∃ r, a r = some z) ∨ ∃ r, b r = some z := by
  unfold sm_bn at h
  split at h
  · exact Or.inl ⟨_, h⟩
  · exact Or.inr ⟨_, h⟩
  · cases h
theorem sm_sw_or {x : Int32} {k : Nat → Option α} {d : Nat} : ∀ {bs : List Nat} {v : Int}, sm_sw x k d v bs = some z → (∃ (j b : Nat), bs[j]? = some b ∧ x.toInt = v + (j : Int) ∧ k b = some z) ∨ ((∀ j : Nat, j < bs.length → ¬ x.toInt = v + (j : Int)) ∧ k d = some z)
  | [], v, h => Or.inr ⟨fun j hj => absurd hj (Nat.not_lt_zero j), h⟩
  | b :: r, v, h => by
    unfold sm_sw at h
    split at h
    · next e => exact Or.inl ⟨0, b, rfl, by simpa using e, h⟩
    · next e =>
      rcases sm_sw_or h with ⟨j, b', h1, h2, h3⟩ | ⟨h1, h2⟩
      · exact Or.inl ⟨j + 1, b', h1, by rw [h2]; push_cast; omega, h3⟩
      · refine Or.inr ⟨fun j hj => ?_, h2⟩
        cases j with
        | zero => simpa using e
        | succ j => have := h1 j (by simpa using hj); push_cast; omega
theorem sm_lo_or {x : Int32} {k : Nat → Option α} {d : Nat} {df : Int} : ∀ {vs : List (Int × Int)} {bs : List Nat}, sm_lo x k d vs bs = some z → (∃ (j b : Nat) (q : Int × Int), bs[j]? = some b ∧ vs[j]? = some q ∧ Op.lookupswitch.offset vs df x.toInt = q.2 ∧ k b = some z) ∨ (Op.lookupswitch.offset vs df x.toInt = df ∧ k d = some z)
  | [], bs, h => Or.inr ⟨rfl, by cases bs <;> exact h⟩
  | v :: vs, [], h => by cases h
  | v :: vs, b :: r, h => by
    unfold sm_lo at h
    split at h
    · next e => exact Or.inl ⟨0, b, v, rfl, rfl, by simp [Op.lookupswitch.offset, e], h⟩
    · next e =>
      have e2 : Op.lookupswitch.offset (v :: vs) df x.toInt = Op.lookupswitch.offset vs df x.toInt := by
        show (if v.1 = x.toInt then v.2 else Op.lookupswitch.offset vs df x.toInt) = _
        rw [if_neg (fun q => e q.symm)]
      rw [e2]
      rcases sm_lo_or (df := df) h with ⟨j, b', q, h1, h2, h3, h4⟩ | h2
      · exact Or.inl ⟨j + 1, b', q, h1, h2, h3, h4⟩
      · exact Or.inr h2
end SmLen
theorem sm_tgs_of {M : sm_M} {pc : Nat} : ∀ {os : List Int} {bs : List Nat}, sm_tgs M pc os bs = true → bs.length = os.length ∧ ∀ (j : Nat) (b : Nat), bs[j]? = some b → ∃ o, os[j]? = some o ∧ sm_tg M pc o b = true
  | [], [], _ => ⟨rfl, fun j b h => by simp at h⟩
  | [], _ :: _, h => by cases h
  | _ :: _, [], h => by cases h
  | o :: os, b :: bs, h => by
    have h : (sm_tg M pc o b && sm_tgs M pc os bs) = true := h
    simp only [Bool.and_eq_true] at h
    obtain ⟨h1, h2⟩ := sm_tgs_of h.2
    refine ⟨by simp [h1], fun j b' hj => ?_⟩
    cases j with
    | zero => cases hj; exact ⟨o, rfl, h.1⟩
    | succ j => exact h2 j b' hj
def sm_isE : Instr → Bool
  | .goto _ => false
  | .ifCond _ _ => false
  | .if_icmp _ _ => false
  | .ifnull _ => false
  | .ifnonnull _ => false
  | .tableswitch _ _ _ _ => false
  | .lookupswitch _ _ => false
  | .ireturn => false
  | .lreturn => false
  | .areturn => false
  | .return_ => false
  | .new _ => false
  | .newarray _ => false
  | _ => true
section SmLen2
variable {P : Nat → sm_M} {S : sm_C} {rec : Nat → Nat → Nat → List Value → List Value → sm_W → Nat × Nat → Option sm_Z} {jmp : Nat → sm_V → List Value → sm_W → Nat × Nat → Option sm_Z} {d fall : Nat} {M : sm_M} {z : sm_Z} {k : sm_V → List Value → sm_W → Nat × Nat → Option sm_Z}
theorem sm_inv_of {rc : List Value → Option sm_Z} {n nL mc ms : Nat} {rb : Bool} {st : List Value} {cs lim : Nat × Nat} {kk : List Value → sm_W → Nat × Nat → Option sm_Z} (h : sm_inv rc n nL mc ms rb st cs lim kk = some z) :
    ∃ z', rb = true ∧ n ≤ st.length ∧ (lg_sl (st.take n).reverse).length ≤ nL ∧ ((st.drop n).map fun v => v.category).sum ≤ 8 ∧ cs.1 + mc ≤ lim.1 ∧ cs.2 + ms ≤ lim.2 ∧ rc (st.take n).reverse = some z' ∧ kk (z'.1.toList ++ st.drop n) z'.2 (cs.1 + mc, cs.2 + ms) = some z := by
  unfold sm_inv at h
  split at h
  · cases h
  · next hc =>
    simp only [not_or, Nat.not_lt, Bool.not_eq_false] at hc
    split at h
    · cases h
    · next z' e => exact ⟨z', hc.1, hc.2.1, hc.2.2.1, hc.2.2.2.1, hc.2.2.2.2.1, hc.2.2.2.2.2, e, h⟩
theorem sm_else_len (hr : ∀ d' g as w' z', rec d' g 0 as [] w' (0, 0) = some z' → sm_Ln (P g) z' w' (0, 0)) {i : Instr} {ops : List Nat} {lv : sm_V} {st : List Value} {w : sm_W} {cs : Nat × Nat} (hk : ∀ lv st w cs, k lv st w cs = some z → sm_Ln M z w cs) (h : sm_else P S rec d M i ops lv st w cs k = some z) : sm_Ln M z w cs := by
  unfold sm_else at h
  split at h
  · split at h
    · cases h
    · obtain ⟨z', -, -, -, -, -, -, h1, h2⟩ := sm_inv_of h
      have l1 := hr _ _ _ _ _ h1
      have l2 := hk _ _ _ _ h2
      obtain ⟨a1, a2⟩ := l1
      obtain ⟨b1, b2⟩ := l2
      simp only [sm_Ln] at *
      exact ⟨by omega, fun q => b2 (a2 q)⟩
  · split at h
    · have h3 := hk _ _ _ _ h
      exact h3
    · cases h
theorem sm_blk_else {i : Instr} {ops : List Nat} {is : List (Instr × List Nat)} {lv : sm_V} {st : List Value} {w : sm_W} {cs : Nat × Nat} (h : sm_isE i = true) : sm_blk P S rec jmp d M fall ((i, ops) :: is) lv st w cs = sm_else P S rec d M i ops lv st w cs (fun lv st w cs => sm_blk P S rec jmp d M fall is lv st w cs) := by
  cases i <;> first | rfl | cases h
set_option maxHeartbeats 4000000 in
theorem sm_blk_len (hr : ∀ d' g as w' z', rec d' g 0 as [] w' (0, 0) = some z' → sm_Ln (P g) z' w' (0, 0)) (hj : ∀ b lv st w cs, jmp b lv st w cs = some z → sm_Ln M z w cs) : ∀ (is : List (Instr × List Nat)) (lv : sm_V) (st : List Value) (w : sm_W) (cs : Nat × Nat), sm_blk P S rec jmp d M fall is lv st w cs = some z → sm_Ln M z w cs := by
  intro is
  induction is with
  | nil => intro lv st w cs h; exact hj _ _ _ _ _ h
  | cons q is ih =>
    obtain ⟨i, ops⟩ := q
    intro lv st w cs h
    cases i with
    | goto off => exact hj _ _ _ _ _ h
    | ifCond c off => rcases sm_b1_or h with ⟨r, h⟩ | ⟨r, h⟩ <;> exact hj _ _ _ _ _ h
    | if_icmp c off => rcases sm_b2_or h with ⟨r, h⟩ | ⟨r, h⟩ <;> exact hj _ _ _ _ _ h
    | ifnull off => rcases sm_bn_or h with ⟨r, h⟩ | ⟨r, h⟩ <;> exact hj _ _ _ _ _ h
    | ifnonnull off => rcases sm_bn_or h with ⟨r, h⟩ | ⟨r, h⟩ <;> exact hj _ _ _ _ _ h
    | tableswitch df lo hi offs =>
      unfold sm_blk at h
      dsimp only at h
      split at h
      · rcases sm_sw_or h with ⟨j, b, -, -, h⟩ | ⟨-, h⟩ <;> exact hj _ _ _ _ _ h
      · cases h
    | lookupswitch df ps =>
      unfold sm_blk at h
      dsimp only at h
      split at h
      · rcases sm_lo_or (df := 0) h with ⟨j, b, q, -, -, -, h⟩ | ⟨-, h⟩ <;> exact hj _ _ _ _ _ h
      · cases h
    | ireturn =>
      unfold sm_blk at h
      dsimp only at h
      split at h
      · split at h
        · next hc =>
          subst hc
          have hw : z.2 = w := by
            split at h
            · split at h
              · cases h; rfl
              · cases h
            · cases h; rfl
          rw [← hw]; exact ⟨rfl, fun q => q⟩
        · cases h
      · cases h
    | lreturn =>
      unfold sm_blk at h
      dsimp only at h
      split at h
      · split at h
        · next hc => subst hc; cases h; exact ⟨rfl, fun q => q⟩
        · cases h
      · cases h
    | areturn =>
      unfold sm_blk at h
      dsimp only at h
      split at h
      · split at h
        · next hc => subst hc; cases h; exact ⟨rfl, fun q => q⟩
        · cases h
      · cases h
    | return_ =>
      unfold sm_blk at h
      dsimp only at h
      split at h
      · split at h
        · next hc => subst hc; cases h; exact ⟨rfl, fun q => q⟩
        · cases h
      · cases h
    | new x =>
      unfold sm_blk at h
      dsimp only at h
      split at h
      · cases h
      · next hc =>
        obtain ⟨h1, h2⟩ := ih _ _ _ _ h
        simp only [List.length_append, List.length_cons, List.length_nil] at h1 h2
        simp only [not_or, Nat.not_le] at hc
        exact ⟨by omega, fun q => h2 (by omega)⟩
    | newarray at' =>
      unfold sm_blk at h
      dsimp only at h
      split at h
      · split at h
        · cases h
        · next hc =>
          obtain ⟨h1, h2⟩ := ih _ _ _ _ h
          simp only [List.length_append, List.length_cons, List.length_nil] at h1 h2
          simp only [not_or, Nat.not_le] at hc
          exact ⟨by omega, fun q => h2 (by omega)⟩
      · cases h
    | _ => rw [sm_blk_else rfl] at h; exact sm_else_len hr ih h
theorem sm_go_len {f : Nat} (hr : ∀ d' g as w' z', rec d' g 0 as [] w' (0, 0) = some z' → sm_Ln (P g) z' w' (0, 0)) (hc : ∀ b vs st w cs, rec d f b vs st w cs = some z → sm_Ln M z w cs) : ∀ (n : Nat) (b : Nat) (lv : sm_V) (st : List Value) (w : sm_W) (cs : Nat × Nat), sm_go P S rec d f M n b lv st w cs = some z → sm_Ln M z w cs := by
  intro n
  induction n with
  | zero => intro b lv st w cs h; cases h
  | succ n ih =>
    intro b lv st w cs h
    unfold sm_go at h
    split at h
    · cases h
    · split at h
      · cases h
      · split at h
        · cases h
        · exact hc _ _ _ _ _ h
      · exact sm_blk_len hr ih _ _ _ _ _ h
theorem sm_run_len : ∀ (n d f b : Nat) (vs st : List Value) (w : sm_W) (cs : Nat × Nat) (z : sm_Z), sm_run P S n d f b vs st w cs = some z → sm_Ln (P f) z w cs
  | 0, _, _, _, _, _, _, _, _, h => by cases h
  | n + 1, d, f, b, vs, st, w, cs, z, h => by
    have h : sm_F P S (sm_run P S n) d f b vs st w cs = some z := h
    unfold sm_F at h
    split at h
    · exact sm_blk_len (fun d' g as w' z' h => sm_run_len n d' g 0 as [] w' (0, 0) z' h) (fun b lv st w cs h => sm_go_len (fun d' g as w' z' h => sm_run_len n d' g 0 as [] w' (0, 0) z' h) (fun b vs st w cs h => sm_run_len n d f b vs st w cs z h) 64 b lv st w cs h) _ _ _ _ _ h
    · cases h
end SmLen2
