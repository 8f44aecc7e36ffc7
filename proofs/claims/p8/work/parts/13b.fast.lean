/-! the same checks with the pcs written out: the kernel then does not sum them again and again -/
def sm_hd (pcs : List Nat) (k : Nat → List Nat → Bool) : Bool := match pcs with
  | p' :: r => k p' r
  | [] => false
def sm_okLf (P : Nat → sm_M) (M : sm_M) (fall : Nat) : List (Instr × List Nat) → List Nat → Bool
  | [], pc :: _ => sm_tg M pc 0 fall
  | (i, ops) :: is, pc :: pcs => sm_okI P M pc i ops (fun q => sm_hd pcs (fun p' r => decide (q = p') && sm_okLf P M fall is (p' :: r)))
  | _, [] => false
theorem sm_okI_mono {P : Nat → sm_M} {M : sm_M} {pc : Nat} {i : Instr} {ops : List Nat} {k k' : Nat → Bool} (hk : ∀ q, k q = true → k' q = true) (h : sm_okI P M pc i ops k = true) : sm_okI P M pc i ops k' = true := by
  cases i with
  | goto off => exact h
  | ifCond c off => exact h
  | if_icmp c off => exact h
  | ifnull off => exact h
  | ifnonnull off => exact h
  | tableswitch df lo hi offs => exact h
  | lookupswitch df ps => exact h
  | ireturn => exact h
  | lreturn => exact h
  | areturn => exact h
  | return_ => exact h
  | new x => have h := Bool.and_eq_true_iff.mp h; exact Bool.and_eq_true_iff.mpr ⟨h.1, hk _ h.2⟩
  | newarray at' => have h := Bool.and_eq_true_iff.mp h; exact Bool.and_eq_true_iff.mpr ⟨h.1, hk _ h.2⟩
  | _ => have h := Bool.and_eq_true_iff.mp h; exact Bool.and_eq_true_iff.mpr ⟨h.1, hk _ h.2⟩
theorem sm_okLf_of {P : Nat → sm_M} {M : sm_M} {fall : Nat} : ∀ (is : List (Instr × List Nat)) (pc : Nat) (pcs : List Nat), sm_okLf P M fall is (pc :: pcs) = true → sm_okL P M fall is pc = true
  | [], pc, pcs, h => h
  | (i, ops) :: is, pc, pcs, h => by
    have h : sm_okI P M pc i ops (fun q => sm_hd pcs (fun p' r => decide (q = p') && sm_okLf P M fall is (p' :: r))) = true := h
    refine sm_okI_mono (fun q hq => ?_) h
    cases pcs with
    | nil => cases hq
    | cons p' r =>
      have hq := Bool.and_eq_true_iff.mp hq
      have e := of_decide_eq_true hq.1
      subst e
      exact sm_okLf_of is q r hq.2
def sm_okBf (P : Nat → sm_M) (M : sm_M) : List sm_B → List (List Nat) → Bool
  | [], _ => true
  | B :: Bs, pcs :: r => sm_hd pcs (fun pc ps => decide (pc = B.1) && sm_okLf P M B.2.2.1 B.2.2.2 (pc :: ps)) && sm_okBf P M Bs r
  | _ :: _, [] => false
theorem sm_okBf_of {P : Nat → sm_M} {M : sm_M} : ∀ (Bs : List sm_B) (L : List (List Nat)), sm_okBf P M Bs L = true → Bs.all (fun B => sm_okL P M B.2.2.1 B.2.2.2 B.1) = true
  | [], _, _ => rfl
  | B :: Bs, [], h => by cases h
  | B :: Bs, pcs :: r, h => by
    have h : (sm_hd pcs (fun pc ps => decide (pc = B.1) && sm_okLf P M B.2.2.1 B.2.2.2 (pc :: ps)) && sm_okBf P M Bs r) = true := h
    have h := Bool.and_eq_true_iff.mp h
    rw [List.all_cons, Bool.and_eq_true]
    refine ⟨?_, sm_okBf_of Bs r h.2⟩
    cases pcs with
    | nil => cases h.1
    | cons pc ps =>
      have h1 := Bool.and_eq_true_iff.mp h.1
      have e := of_decide_eq_true h1.1
      subst e
      exact sm_okLf_of _ _ _ h1.2
def sm_okMf (P : Nat → sm_M) (M : sm_M) (L : List (List Nat)) : Bool := plainName M.1.cls && decide (M.1.cls ≠ "java/lang/invoke/MethodHandle") && decide (M.1.cls ≠ "java/lang/invoke/VarHandle") &&
  decide ((parseMethodDescriptor M.1.desc).map (fun d => d.parameters.length) = some M.2.2.2.2.1) && decide (M.2.2.1 ≤ 60) && (match (sm_blks M)[0]? with
    | some B => decide (B.1 = 0)
    | none => false) && sm_okBf P M (sm_blks M) L
theorem sm_okMf_of {P : Nat → sm_M} {M : sm_M} (L : List (List Nat)) (h : sm_okMf P M L = true) : sm_okM P M = true := by
  have h := Bool.and_eq_true_iff.mp h
  exact Bool.and_eq_true_iff.mpr ⟨h.1, sm_okBf_of _ _ h.2⟩
theorem sm_inw (k j : Nat) {w : Cond} (h : (sm_chunk k)[j]? = some w) (hg : goodWord w = true) : w ∈ sm_wl := List.mem_filter.mpr ⟨sm_chunk_in (List.mem_of_getElem? h), hg⟩
def sm_okMh (M : sm_M) : Bool := plainName M.1.cls && decide (M.1.cls ≠ "java/lang/invoke/MethodHandle") && decide (M.1.cls ≠ "java/lang/invoke/VarHandle") &&
  decide ((parseMethodDescriptor M.1.desc).map (fun d => d.parameters.length) = some M.2.2.2.2.1) && decide (M.2.2.1 ≤ 60) && (match (sm_blks M)[0]? with
    | some B => decide (B.1 = 0)
    | none => false)
theorem sm_okMg_of {P : Nat → sm_M} {M : sm_M} (h : sm_okMh M = true) (hb : ∀ B ∈ sm_blks M, sm_okL P M B.2.2.1 B.2.2.2 B.1 = true) : sm_okM P M = true := Bool.and_eq_true_iff.mpr ⟨h, List.all_eq_true.mpr hb⟩
