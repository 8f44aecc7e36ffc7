/-! THE MACHINE OVER INTERVALS: the small machine's run over values that are known, or are an int of the script and a number, or are any; a test on an int of the script narrows its interval, a test on any goes both ways. It answers true if every road comes to an end with what is asked. It is written so that the kernel can run it: continuations, and numbers made plain at once. -/
abbrev ab_V : Type := Nat × Int
abbrev ab_T : Type := Lean.RArray ab_V
abbrev ab_Q : Type := Nat × Nat × ab_T
abbrev ab_M : Type := Nat × Lean.RArray ab_Q
abbrev ab_L : Type := List (Nat × ab_V)
abbrev ab_E : Type := List (Int × Int)
noncomputable def ab_if {α : Type} (c : Bool) (x y : α) : α := Bool.rec (motive := fun _ => α) y x c
noncomputable def ab_an (p q : Bool) : Bool := Bool.rec (motive := fun _ => Bool) false q p
noncomputable def ab_oo (p q : Bool) : Bool := Bool.rec (motive := fun _ => Bool) q true p
theorem ab_or2 {p q : Bool} (h : ab_oo p q = true) : p = true ∨ q = true := by
  cases p
  · exact Or.inr h
  · exact Or.inl rfl
theorem ab_oo_r {p q : Bool} (h : q = true) : ab_oo p q = true := by
  cases p
  · exact h
  · rfl
noncomputable def ab_fn (n : Nat) (c : Nat → Bool) : Bool := Nat.rec (motive := fun _ => Bool) (c 0) (fun m _ => c (Nat.succ m)) n
noncomputable def ab_fi (i : Int) (c : Int → Bool) : Bool := Int.rec (motive := fun _ => Bool) (fun n => ab_fn n (fun m => c (.ofNat m))) (fun n => ab_fn n (fun m => c (.negSucc m))) i
noncomputable def ab_fv (a : ab_V) (c : ab_V → Bool) : Bool := ab_fn a.1 (fun t => ab_fi a.2 (fun i => c (t, i)))
theorem ab_fn_eq (n : Nat) (c : Nat → Bool) : ab_fn n c = c n := by cases n <;> rfl
theorem ab_fi_eq (i : Int) (c : Int → Bool) : ab_fi i c = c i := by
  cases i with
  | ofNat n => show ab_fn n (fun m => c (.ofNat m)) = _; rw [ab_fn_eq]
  | negSucc n => show ab_fn n (fun m => c (.negSucc m)) = _; rw [ab_fn_eq]
theorem ab_fv_eq (a : ab_V) (c : ab_V → Bool) : ab_fv a c = c a := by
  show ab_fn a.1 (fun t => ab_fi a.2 (fun i => c (t, i))) = c a
  rw [ab_fn_eq, ab_fi_eq]
noncomputable def ab_le (a b : Int) : Bool := Int.rec (motive := fun _ => Bool) (fun _ => true) (fun _ => false) (Int.sub b a)
noncomputable def ab_eq (a b : Int) : Bool := Int.rec (motive := fun _ => Bool) (fun n => Nat.beq n 0) (fun _ => false) (Int.sub a b)
theorem ab_le_iff {a b : Int} : ab_le a b = true ↔ a ≤ b := by
  unfold ab_le
  have e : Int.sub b a = b - a := rfl
  rw [e]
  cases h : b - a with
  | ofNat n => exact ⟨fun _ => by have : b - a = (n : Int) := h; omega, fun _ => rfl⟩
  | negSucc n => exact ⟨fun q => (by cases q), fun q => by have : b - a = Int.negSucc n := h; rw [Int.negSucc_eq] at this; omega⟩
theorem ab_eq_iff {a b : Int} : ab_eq a b = true ↔ a = b := by
  unfold ab_eq
  have e : Int.sub a b = a - b := rfl
  rw [e]
  cases h : a - b with
  | ofNat n =>
    have h : a - b = (n : Int) := h
    constructor
    · intro q
      have : n = 0 := Nat.eq_of_beq_eq_true q
      omega
    · intro q
      have : n = 0 := by omega
      subst this
      rfl
  | negSucc n => exact ⟨fun q => (by cases q), fun q => by have : a - b = Int.negSucc n := h; rw [Int.negSucc_eq] at this; omega⟩
theorem ab_le_no {a b : Int} (h : ab_le a b = false) : b < a := by
  rcases Int.lt_or_le b a with q | q
  · exact q
  · rw [ab_le_iff.mpr q] at h; cases h
theorem ab_eq_no {a b : Int} (h : ab_eq a b = false) : a ≠ b := fun q => by rw [ab_eq_iff.mpr q] at h; cases h
/-! trees -/
noncomputable def ab_tg {α : Type} (t : Lean.RArray α) : Nat → α := Lean.RArray.rec (motive := fun _ => Nat → α) (fun v _ => v) (fun _ _ _ gl gr k => ab_if (Nat.beq (Nat.mod k 2) 0) (gl (Nat.div k 2)) (gr (Nat.div k 2))) t
noncomputable def ab_tn {α : Type} (u v : α) (d : Nat) : Nat → (Lean.RArray α → Bool) → Bool := Nat.rec (motive := fun _ => Nat → (Lean.RArray α → Bool) → Bool) (fun _ c => c (.leaf v)) (fun _ r k c => ab_if (Nat.beq (Nat.mod k 2) 0) (r (Nat.div k 2) (fun t => c (.branch 0 t (.leaf u)))) (r (Nat.div k 2) (fun t => c (.branch 0 (.leaf u) t)))) d
noncomputable def ab_ts {α : Type} (v : α) (t : Lean.RArray α) : Nat → Nat → (Lean.RArray α → Bool) → Bool := Lean.RArray.rec (motive := fun _ => Nat → Nat → (Lean.RArray α → Bool) → Bool) (fun u d k c => ab_tn u v d k c) (fun _ l r sl sr d k c => Nat.rec (motive := fun _ => Bool) (c (.leaf v)) (fun d' _ => ab_if (Nat.beq (Nat.mod k 2) 0) (sl d' (Nat.div k 2) (fun t => c (.branch 0 t r))) (sr d' (Nat.div k 2) (fun t => c (.branch 0 l t)))) d) t
theorem ab_tg_leaf {α : Type} (v : α) (k : Nat) : ab_tg (.leaf v) k = v := rfl
theorem ab_tg_branch {α : Type} (p : Nat) (l r : Lean.RArray α) (k : Nat) : ab_tg (.branch p l r) k = if k % 2 = 0 then ab_tg l (k / 2) else ab_tg r (k / 2) := by
  show (ab_if (Nat.beq (k % 2) 0) (ab_tg l (k / 2)) (ab_tg r (k / 2))) = _
  by_cases h : k % 2 = 0
  · rw [if_pos h, h]; rfl
  · rw [if_neg h]
    have : Nat.beq (k % 2) 0 = false := by
      cases e : Nat.beq (k % 2) 0 with
      | false => rfl
      | true => exact absurd (Nat.eq_of_beq_eq_true e) h
    rw [this]; rfl
theorem ab_par (k : Nat) : (Nat.beq (Nat.mod k 2) 0 = true ∧ k % 2 = 0) ∨ (Nat.beq (Nat.mod k 2) 0 = false ∧ k % 2 = 1) := by
  rcases Nat.mod_two_eq_zero_or_one k with h | h
  · left; refine ⟨?_, h⟩; show Nat.beq (k % 2) 0 = true; rw [h]; rfl
  · right; refine ⟨?_, h⟩; show Nat.beq (k % 2) 0 = false; rw [h]; rfl
theorem ab_half {k d : Nat} (h : k < 2 ^ (d + 1)) : k / 2 < 2 ^ d := by
  rw [Nat.pow_succ] at h
  omega
theorem ab_tn_ok {α : Type} {u v : α} : ∀ (d k : Nat) (c : Lean.RArray α → Bool), ab_tn u v d k c = true → k < 2 ^ d → ∃ t, c t = true ∧ ∀ k', k' < 2 ^ d → ab_tg t k' = if k' = k then v else u := by
  intro d
  induction d with
  | zero =>
    intro k c h hk
    refine ⟨.leaf v, h, fun k' hk' => ?_⟩
    rw [if_pos (by omega)]
    rfl
  | succ d ih =>
    intro k c h hk
    have h : (ab_if (Nat.beq (Nat.mod k 2) 0) (ab_tn u v d (k / 2) (fun t => c (.branch 0 t (.leaf u)))) (ab_tn u v d (k / 2) (fun t => c (.branch 0 (.leaf u) t)))) = true := h
    have hk2 := ab_half hk
    rcases ab_par k with ⟨q, e⟩ | ⟨q, e⟩
    · rw [q] at h
      obtain ⟨t, h1, h2⟩ := ih _ _ h hk2
      refine ⟨_, h1, fun k' hk' => ?_⟩
      rw [ab_tg_branch]
      by_cases e' : k' % 2 = 0
      · rw [if_pos e', h2 _ (ab_half hk')]
        by_cases g : k' / 2 = k / 2
        · rw [if_pos g, if_pos (by omega)]
        · rw [if_neg g, if_neg (by omega)]
      · rw [if_neg e', if_neg (by omega)]; rfl
    · rw [q] at h
      obtain ⟨t, h1, h2⟩ := ih _ _ h hk2
      refine ⟨_, h1, fun k' hk' => ?_⟩
      rw [ab_tg_branch]
      by_cases e' : k' % 2 = 0
      · rw [if_pos e', if_neg (by omega)]; rfl
      · rw [if_neg e', h2 _ (ab_half hk')]
        by_cases g : k' / 2 = k / 2
        · rw [if_pos g, if_pos (by omega)]
        · rw [if_neg g, if_neg (by omega)]
theorem ab_ts_ok {α : Type} {v : α} : ∀ (t : Lean.RArray α) (d k : Nat) (c : Lean.RArray α → Bool), ab_ts v t d k c = true → k < 2 ^ d → ∃ t', c t' = true ∧ ∀ k', k' < 2 ^ d → ab_tg t' k' = if k' = k then v else ab_tg t k' := by
  intro t
  induction t with
  | leaf u => intro d k c h hk; exact ab_tn_ok d k c h hk
  | branch p l r ihl ihr =>
    intro d k c h hk
    cases d with
    | zero =>
      refine ⟨.leaf v, h, fun k' hk' => ?_⟩
      rw [if_pos (by omega)]
      rfl
    | succ d =>
      have h : (ab_if (Nat.beq (Nat.mod k 2) 0) (ab_ts v l d (k / 2) (fun t => c (.branch 0 t r))) (ab_ts v r d (k / 2) (fun t => c (.branch 0 l t)))) = true := h
      have hk2 := ab_half hk
      rcases ab_par k with ⟨q, e⟩ | ⟨q, e⟩
      · rw [q] at h
        obtain ⟨t, h1, h2⟩ := ihl _ _ _ h hk2
        refine ⟨_, h1, fun k' hk' => ?_⟩
        rw [ab_tg_branch, ab_tg_branch]
        by_cases e' : k' % 2 = 0
        · rw [if_pos e', if_pos e', h2 _ (ab_half hk')]
          by_cases g : k' / 2 = k / 2
          · rw [if_pos g, if_pos (by omega)]
          · rw [if_neg g, if_neg (by omega)]
        · rw [if_neg e', if_neg e', if_neg (by omega)]
      · rw [q] at h
        obtain ⟨t, h1, h2⟩ := ihr _ _ _ h hk2
        refine ⟨_, h1, fun k' hk' => ?_⟩
        rw [ab_tg_branch, ab_tg_branch]
        by_cases e' : k' % 2 = 0
        · rw [if_pos e', if_pos e', if_neg (by omega)]
        · rw [if_neg e', if_neg e', h2 _ (ab_half hk')]
          by_cases g : k' / 2 = k / 2
          · rw [if_pos g, if_pos (by omega)]
          · rw [if_neg g, if_neg (by omega)]
/-! values -/
noncomputable def ab_isI (t : Nat) : Bool := ab_oo (Nat.beq t 0) ((ab_oo (Nat.beq t 3) (Nat.ble 6 t)))
noncomputable def ab_gi (xs : Nat → Int32) (a : ab_V) (n : Int) : Prop := (a.1 = 0 ∧ n = a.2) ∨ a.1 = 3 ∨ (a.1 = 6 ∧ n ≠ 0) ∨ (7 ≤ a.1 ∧ n = (xs (a.1 - 7)).toInt + a.2)
noncomputable def ab_g (xs : Nat → Int32) (a : ab_V) (v : Value) : Prop := match v with
  | .int x => ab_gi xs a x.toInt
  | .long x => (a.1 = 4 ∧ x.toInt = a.2) ∨ a.1 = 5
  | .null => a.1 = 1
  | .ref p => a.1 = 2 ∧ a.2 = (p : Int)
  | _ => False
noncomputable def ab_cat (a : ab_V) : Nat := ab_if (ab_oo (Nat.beq a.1 4) (Nat.beq a.1 5)) (2) (1)
noncomputable def ab_full : Int × Int := (Int.negSucc 2147483647, Int.ofNat 2147483647)
noncomputable def ab_sat (xs : Nat → Int32) (E : ab_E) : Prop := ∀ k, (E.getD k ab_full).1 ≤ (xs k).toInt ∧ (xs k).toInt ≤ (E.getD k ab_full).2
noncomputable def ab_gs (xs : Nat → Int32) : List ab_V → List Value → Prop
  | [], [] => True
  | a :: as, v :: vs => ab_g xs a v ∧ ab_gs xs as vs
  | [], _ :: _ => False
  | _ :: _, [] => False
noncomputable def ab_gl (xs : Nat → Int32) : ab_L → sm_V → Prop
  | [], [] => True
  | (i, a) :: as, (j, v) :: vs => (i = j ∧ ab_g xs a v) ∧ ab_gl xs as vs
  | [], _ :: _ => False
  | _ :: _, [] => False
section AbV
variable {xs : Nat → Int32} {a b : ab_V} {as : List ab_V} {lv : ab_L} {v : Value} {vs : List Value} {lv' : sm_V}
theorem ab_beq {n m : Nat} (h : Nat.beq n m = true) : n = m := Nat.eq_of_beq_eq_true h
theorem ab_bne {n m : Nat} (h : Nat.beq n m = false) : n ≠ m := fun e => by
  subst e
  have : Nat.beq n n = true := Nat.beq_refl n
  rw [this] at h
  cases h
theorem ab_ble {n m : Nat} (h : Nat.ble n m = true) : n ≤ m := Nat.le_of_ble_eq_true h
theorem ab_blt {n m : Nat} (h : Nat.blt n m = true) : n < m := Nat.le_of_ble_eq_true h
theorem ab_isI_of (h : ab_isI a.1 = true) (hg : ab_g xs a v) : ∃ x, v = .int x ∧ ab_gi xs a x.toInt := by
  have h1 : a.1 = 0 ∨ a.1 = 3 ∨ 6 ≤ a.1 := by
    rcases ab_or2 h with h | h
    · exact Or.inl (ab_beq h)
    · rcases ab_or2 h with h | h
      · exact Or.inr (Or.inl (ab_beq h))
      · exact Or.inr (Or.inr (ab_ble h))
  cases v with
  | int x => exact ⟨x, rfl, hg⟩
  | long x => rcases hg with ⟨q, -⟩ | q <;> omega
  | null => have q : a.1 = 1 := hg; omega
  | ref p => have q := hg.1; omega
  | float _ => exact hg.elim
  | double _ => exact hg.elim
  | retAddr _ => exact hg.elim
theorem ab_0_of (h : a.1 = 0) (hg : ab_g xs a v) : ∃ x, v = .int x ∧ x.toInt = a.2 := by
  obtain ⟨x, rfl, q⟩ := ab_isI_of (by rw [h]; rfl) hg
  refine ⟨x, rfl, ?_⟩
  rcases q with ⟨-, q⟩ | q | ⟨q, -⟩ | ⟨q, -⟩
  · exact q
  · omega
  · omega
  · omega
theorem ab_gi0 (n : Int) : ab_gi xs (0, n) n := Or.inl ⟨rfl, rfl⟩
theorem ab_gi3 (n m : Int) : ab_gi xs (3, m) n := Or.inr (Or.inl rfl)
theorem ab_ref_of (h : a.1 = 2) (hg : ab_g xs a v) : ∃ p : Nat, v = .ref p ∧ a.2 = (p : Int) := by
  cases v with
  | int x => rcases hg with ⟨q, -⟩ | q | ⟨q, -⟩ | ⟨q, -⟩ <;> omega
  | long x => rcases hg with ⟨q, -⟩ | q <;> omega
  | null => have q : a.1 = 1 := hg; omega
  | ref p => exact ⟨p, rfl, hg.2⟩
  | float _ => exact hg.elim
  | double _ => exact hg.elim
  | retAddr _ => exact hg.elim
theorem ab_null_of (h : a.1 = 1) (hg : ab_g xs a v) : v = .null := by
  cases v with
  | int x => rcases hg with ⟨q, -⟩ | q | ⟨q, -⟩ | ⟨q, -⟩ <;> omega
  | long x => rcases hg with ⟨q, -⟩ | q <;> omega
  | null => rfl
  | ref p => have q := hg.1; omega
  | float _ => exact hg.elim
  | double _ => exact hg.elim
  | retAddr _ => exact hg.elim
theorem ab_long_of (h : a.1 = 4 ∨ a.1 = 5) (hg : ab_g xs a v) : ∃ x, v = .long x ∧ (a.1 = 4 → x.toInt = a.2) := by
  cases v with
  | int x => rcases hg with ⟨q, -⟩ | q | ⟨q, -⟩ | ⟨q, -⟩ <;> omega
  | long x =>
    refine ⟨x, rfl, fun e => ?_⟩
    rcases hg with ⟨-, q⟩ | q
    · exact q
    · omega
  | null => have q : a.1 = 1 := hg; omega
  | ref p => have q := hg.1; omega
  | float _ => exact hg.elim
  | double _ => exact hg.elim
  | retAddr _ => exact hg.elim
theorem ab_cat_of (hg : ab_g xs a v) : v.category = ab_cat a := by
  obtain ⟨t, i⟩ := a
  cases v with
  | int x =>
    show 1 = ab_if (ab_oo (Nat.beq t 4) (Nat.beq t 5)) (2) (1)
    have h1 : Nat.beq t 4 = false := by
      cases e : Nat.beq t 4 with
      | false => rfl
      | true => have := ab_beq e; rcases hg with ⟨q, -⟩ | q | ⟨q, -⟩ | ⟨q, -⟩ <;> simp only at q <;> omega
    have h2 : Nat.beq t 5 = false := by
      cases e : Nat.beq t 5 with
      | false => rfl
      | true => have := ab_beq e; rcases hg with ⟨q, -⟩ | q | ⟨q, -⟩ | ⟨q, -⟩ <;> simp only at q <;> omega
    rw [h1, h2]; rfl
  | long x =>
    rcases hg with ⟨q, -⟩ | q
    · have q : t = 4 := q; subst q; rfl
    · have q : t = 5 := q; subst q; rfl
  | null => have q : t = 1 := hg; subst q; rfl
  | ref p => have q : t = 2 := hg.1; subst q; rfl
  | float _ => exact hg.elim
  | double _ => exact hg.elim
  | retAddr _ => exact hg.elim
theorem ab_gs_cons (h : ab_gs xs (a :: as) vs) : ∃ v r, vs = v :: r ∧ ab_g xs a v ∧ ab_gs xs as r := by
  cases vs with
  | nil => exact h.elim
  | cons v r => exact ⟨v, r, rfl, h.1, h.2⟩
theorem ab_gs_nil (h : ab_gs xs [] vs) : vs = [] := by
  cases vs with
  | nil => rfl
  | cons v r => exact h.elim
theorem ab_gs_len : ∀ {as : List ab_V} {vs : List Value}, ab_gs xs as vs → as.length = vs.length
  | [], [], _ => rfl
  | a :: as, v :: vs, h => by simp only [List.length_cons]; rw [ab_gs_len h.2]
  | [], _ :: _, h => h.elim
  | _ :: _, [], h => h.elim
theorem ab_gs_cats : ∀ {as : List ab_V} {vs : List Value}, ab_gs xs as vs → (vs.map fun v => v.category) = as.map ab_cat
  | [], [], _ => rfl
  | a :: as, v :: vs, h => by simp only [List.map_cons]; rw [ab_gs_cats h.2, ab_cat_of h.1]
  | [], _ :: _, h => h.elim
  | _ :: _, [], h => h.elim
theorem ab_gs_app : ∀ {as : List ab_V} {vs : List Value} {bs : List ab_V} {us : List Value}, ab_gs xs as vs → ab_gs xs bs us → ab_gs xs (as ++ bs) (vs ++ us)
  | [], [], _, _, _, h2 => h2
  | a :: as, v :: vs, _, _, h, h2 => ⟨h.1, ab_gs_app h.2 h2⟩
  | [], _ :: _, _, _, h, _ => h.elim
  | _ :: _, [], _, _, h, _ => h.elim
theorem ab_gs_rev : ∀ {as : List ab_V} {vs : List Value}, ab_gs xs as vs → ab_gs xs as.reverse vs.reverse
  | [], [], _ => trivial
  | a :: as, v :: vs, h => by
    rw [List.reverse_cons, List.reverse_cons]
    exact ab_gs_app (ab_gs_rev h.2) ⟨h.1, trivial⟩
  | [], _ :: _, h => h.elim
  | _ :: _, [], h => h.elim
theorem ab_gs_take : ∀ (n : Nat) {as : List ab_V} {vs : List Value}, ab_gs xs as vs → ab_gs xs (as.take n) (vs.take n)
  | 0, _, _, _ => trivial
  | n + 1, [], [], _ => trivial
  | n + 1, a :: as, v :: vs, h => ⟨h.1, ab_gs_take n h.2⟩
  | _ + 1, [], _ :: _, h => h.elim
  | _ + 1, _ :: _, [], h => h.elim
theorem ab_gs_drop : ∀ (n : Nat) {as : List ab_V} {vs : List Value}, ab_gs xs as vs → ab_gs xs (as.drop n) (vs.drop n)
  | 0, _, _, h => h
  | n + 1, [], [], _ => trivial
  | n + 1, a :: as, v :: vs, h => ab_gs_drop n h.2
  | _ + 1, [], _ :: _, h => h.elim
  | _ + 1, _ :: _, [], h => h.elim
/-! locals -/
noncomputable def ab_lk (lv : ab_L) (i : Nat) (c : ab_V → Bool) : Bool := List.rec (motive := fun _ => Bool) false (fun q _ ih => ab_if (Nat.beq q.1 i) (c q.2) (ih)) lv
theorem ab_lk_ok {i : Nat} {c : ab_V → Bool} : ∀ {lv : ab_L} {lv' : sm_V}, ab_gl xs lv lv' → ab_lk lv i c = true → ∃ a v, sm_lk lv' i = some v ∧ ab_g xs a v ∧ c a = true
  | [], _, _, h => by cases h
  | (j, a) :: r, (j', v) :: r', hg, h => by
    obtain ⟨⟨rfl, h1⟩, h2⟩ := hg
    have h : (ab_if (Nat.beq j i) (c a) (ab_lk r i c)) = true := h
    cases e : Nat.beq j i with
    | true =>
      rw [e] at h
      have := ab_beq e
      subst this
      exact ⟨a, v, by show (if j = j then some v else sm_lk r' j) = some v; rw [if_pos rfl], h1, h⟩
    | false =>
      rw [e] at h
      obtain ⟨a', v', q1, q2, q3⟩ := ab_lk_ok h2 h
      exact ⟨a', v', by show (if j = i then some v else sm_lk r' i) = some v'; rw [if_neg (ab_bne e)]; exact q1, q2, q3⟩
  | _ :: _, [], h, _ => h.elim
noncomputable def ab_pick (live : List Nat) (lv : ab_L) : (List ab_V → Bool) → Bool := List.rec (motive := fun _ => (List ab_V → Bool) → Bool) (fun c => c []) (fun i _ ih c => ab_lk lv i (fun v => ih (fun vs => c (v :: vs)))) live
theorem ab_pick_ok (hg : ab_gl xs lv lv') : ∀ {live : List Nat} {c : List ab_V → Bool}, ab_pick live lv c = true → ∃ as vs, sm_pick live lv' = some vs ∧ ab_gs xs as vs ∧ c as = true
  | [], c, h => ⟨[], [], rfl, trivial, h⟩
  | i :: r, c, h => by
    have h : ab_lk lv i (fun v => ab_pick r lv (fun vs => c (v :: vs))) = true := h
    obtain ⟨a, v, q1, q2, h⟩ := ab_lk_ok hg h
    obtain ⟨as, vs, q3, q4, q5⟩ := ab_pick_ok hg h
    exact ⟨a :: as, v :: vs, by simp only [sm_pick, q1, q3], ⟨q2, q4⟩, q5⟩
noncomputable def ab_f1 (i : Nat) (q : Nat × ab_V) : Bool := ab_if (Nat.beq q.1 i) false (ab_if (Nat.beq (Nat.succ q.1) i) (ab_if (Nat.beq (ab_cat q.2) 2) false true) true)
noncomputable def ab_f2 (i : Nat) (q : Nat × ab_V) : Bool := ab_if (Nat.beq q.1 i) false (ab_if (Nat.beq q.1 (Nat.succ i)) false (ab_if (Nat.beq (Nat.succ q.1) i) (ab_if (Nat.beq (ab_cat q.2) 2) false true) true))
noncomputable def ab_flt (f : Nat × ab_V → Bool) (lv : ab_L) : ab_L := List.rec (motive := fun _ => ab_L) [] (fun q _ ih => ab_if (f q) (q :: ih) (ih)) lv
theorem ab_flt_eq (f : Nat × ab_V → Bool) : ∀ lv : ab_L, ab_flt f lv = lv.filter f
  | [] => rfl
  | q :: r => by
    show (ab_if (f q) (q :: ab_flt f r) (ab_flt f r)) = _
    rw [ab_flt_eq f r]
    cases e : f q with
    | true => rw [List.filter_cons_of_pos e]; rfl
    | false => rw [List.filter_cons_of_neg (by rw [e]; decide)]; rfl
theorem ab_beq_eq (n m : Nat) : Nat.beq n m = (n == m) := by
  rw [Bool.eq_iff_iff, beq_iff_eq]
  exact ⟨ab_beq, fun e => by rw [e]; exact Nat.beq_refl m⟩
theorem ab_f1_eq (i : Nat) (q : Nat × ab_V) : ab_f1 i q = (!(q.1 == i) && !(q.1 + 1 == i && ab_cat q.2 == 2)) := by
  simp only [ab_f1, ab_beq_eq, Nat.succ_eq_add_one]
  cases (q.1 == i) <;> cases (q.1 + 1 == i) <;> cases (ab_cat q.2 == 2) <;> rfl
noncomputable def ab_s1 (lv : ab_L) (i : Nat) (a : ab_V) : ab_L := (i, a) :: ab_flt (ab_f1 i) lv
theorem ab_f2_eq (i : Nat) (q : Nat × ab_V) : ab_f2 i q = (!(q.1 == i) && (!(q.1 == i + 1) && !(q.1 + 1 == i && ab_cat q.2 == 2))) := by
  simp only [ab_f2, ab_beq_eq, Nat.succ_eq_add_one]
  cases (q.1 == i) <;> cases (q.1 == i + 1) <;> cases (q.1 + 1 == i) <;> cases (ab_cat q.2 == 2) <;> rfl
noncomputable def ab_s2 (lv : ab_L) (i : Nat) (a : ab_V) : ab_L := (i, a) :: ab_flt (ab_f2 i) lv
theorem ab_filter {f : Nat × ab_V → Bool} {g : Nat × Value → Bool} (hfg : ∀ j a v, ab_g xs a v → f (j, a) = g (j, v)) : ∀ {lv : ab_L} {lv' : sm_V}, ab_gl xs lv lv' → ab_gl xs (lv.filter f) (lv'.filter g)
  | [], [], _ => trivial
  | (j, a) :: r, (j', v) :: r', hg => by
    obtain ⟨⟨rfl, h1⟩, h2⟩ := hg
    have e := hfg j a v h1
    cases q : f (j, a) with
    | true =>
      rw [List.filter_cons_of_pos q, List.filter_cons_of_pos (by rw [← e]; exact q)]
      exact ⟨⟨rfl, h1⟩, ab_filter hfg h2⟩
    | false =>
      rw [List.filter_cons_of_neg (by rw [q]; decide), List.filter_cons_of_neg (by rw [← e, q]; decide)]
      exact ab_filter hfg h2
  | [], _ :: _, h => h.elim
  | _ :: _, [], h => h.elim
theorem ab_s1_ok {i : Nat} (hg : ab_gl xs lv lv') (h : ab_g xs a v) : ab_gl xs (ab_s1 lv i a) (sm_s1 lv' i v) := by
  unfold ab_s1
  rw [ab_flt_eq]
  refine ⟨⟨rfl, h⟩, ab_filter (fun j a v q => ?_) hg⟩
  rw [ab_cat_of q]
  exact ab_f1_eq i (j, a)
theorem ab_s2_ok {i : Nat} (hg : ab_gl xs lv lv') (h : ab_g xs a v) : ab_gl xs (ab_s2 lv i a) (sm_s2 lv' i v) := by
  unfold ab_s2
  rw [ab_flt_eq]
  refine ⟨⟨rfl, h⟩, ab_filter (fun j a v q => ?_) hg⟩
  rw [ab_cat_of q]
  exact ab_f2_eq i (j, a)
noncomputable def ab_args (i : Nat) (as : List ab_V) : ab_L := List.rec (motive := fun _ => Nat → ab_L) (fun _ => []) (fun v _ ih i => (i, v) :: ih (ab_if (Nat.beq (ab_cat v) 2) (Nat.succ (Nat.succ i)) (Nat.succ i))) as i
theorem ab_args_ok : ∀ {as : List ab_V} {vs : List Value} (i : Nat), ab_gs xs as vs → ab_gl xs (ab_args i as) (lv_args i vs)
  | [], [], _, _ => trivial
  | a :: as, v :: vs, i, h => by
    refine ⟨⟨rfl, h.1⟩, ?_⟩
    have e : (ab_if (Nat.beq (ab_cat a) 2) (Nat.succ (Nat.succ i)) (Nat.succ i)) = (if v.category = 2 then i + 2 else i + 1) := by
      rw [ab_cat_of h.1]
      cases q : Nat.beq (ab_cat a) 2 with
      | true => rw [if_pos (ab_beq q)]; rfl
      | false => rw [if_neg (ab_bne q)]; rfl
    show ab_gl xs (ab_args (ab_if (Nat.beq (ab_cat a) 2) (Nat.succ (Nat.succ i)) (Nat.succ i)) as) (lv_args (if v.category = 2 then i + 2 else i + 1) vs)
    rw [e]
    exact ab_args_ok _ h.2
  | [], _ :: _, _, h => h.elim
  | _ :: _, [], _, h => h.elim
noncomputable def ab_zip (is : List Nat) : List ab_V → ab_L := List.rec (motive := fun _ => List ab_V → ab_L) (fun _ => []) (fun i _ ih vs => List.rec (motive := fun _ => ab_L) [] (fun v r _ => (i, v) :: ih r) vs) is
theorem ab_zip_ok : ∀ {is : List Nat} {as : List ab_V} {vs : List Value}, ab_gs xs as vs → ab_gl xs (ab_zip is as) (is.zip vs)
  | [], _, _, _ => by rw [List.zip_nil_left]; exact trivial
  | i :: is, [], [], _ => trivial
  | i :: is, a :: as, v :: vs, h => ⟨⟨rfl, h.1⟩, ab_zip_ok h.2⟩
  | _ :: _, [], _ :: _, h => h.elim
  | _ :: _, _ :: _, [], h => h.elim
noncomputable def ab_slots (as : List ab_V) : Nat := List.rec (motive := fun _ => Nat) 0 (fun a _ ih => Nat.add (ab_cat a) ih) as
theorem ab_slots_ok : ∀ {as : List ab_V} {vs : List Value}, ab_gs xs as vs → (lg_sl vs).length = ab_slots as
  | [], [], _ => rfl
  | a :: as, v :: vs, h => by
    have e1 : (lg_sl (v :: vs)).length = (if v.category = 2 then [Slot.val v, .second] else [.val v]).length + (lg_sl vs).length := by
      simp only [lg_sl, List.flatMap_cons, List.length_append]
    rw [e1, ab_slots_ok h.2]
    show _ = ab_cat a + ab_slots as
    rw [← ab_cat_of h.1]
    cases v <;> rfl
  | [], _ :: _, h => h.elim
  | _ :: _, [], h => h.elim
end AbV
