/-! THE ENGINE: regions between cuts run over symbols with intervals; calls by contract. Values, lists, locals. -/
abbrev en_V : Type := Nat × Int
abbrev en_L : Type := List (Nat × en_V)
abbrev en_E : Type := List (Int × Int)
noncomputable def en_le (a b : Int) : Bool := Int.rec (motive := fun _ => Bool) (fun _ => true) (fun _ => false) (Int.sub b a)
noncomputable def en_eq (a b : Int) : Bool := Int.rec (motive := fun _ => Bool) (fun n => Nat.beq n 0) (fun _ => false) (Int.sub a b)
theorem en_le_iff {a b : Int} : en_le a b = true ↔ a ≤ b := by
  unfold en_le
  have e : Int.sub b a = b - a := rfl
  rw [e]
  cases h : b - a with
  | ofNat n => exact ⟨fun _ => by have : b - a = (n : Int) := h; omega, fun _ => rfl⟩
  | negSucc n => exact ⟨fun q => (by cases q), fun q => by have : b - a = Int.negSucc n := h; rw [Int.negSucc_eq] at this; omega⟩
theorem en_eq_iff {a b : Int} : en_eq a b = true ↔ a = b := by
  unfold en_eq
  have e : Int.sub a b = a - b := rfl
  rw [e]
  cases h : a - b with
  | ofNat n =>
    have h : a - b = (n : Int) := h
    constructor
    · intro q
      have : n = 0 := Nat.eq_of_beq_eq_true q
      omega
    · intro q
      have : n = 0 := by omega
      subst this
      rfl
  | negSucc n => exact ⟨fun q => (by cases q), fun q => by have : a - b = Int.negSucc n := h; rw [Int.negSucc_eq] at this; omega⟩
theorem en_le_no {a b : Int} (h : en_le a b = false) : b < a := by
  rcases Int.lt_or_le b a with q | q
  · exact q
  · rw [en_le_iff.mpr q] at h; cases h
theorem en_eq_no {a b : Int} (h : en_eq a b = false) : a ≠ b := fun q => by rw [en_eq_iff.mpr q] at h; cases h
noncomputable def en_tg {α : Type} (t : Lean.RArray α) : Nat → α := Lean.RArray.rec (motive := fun _ => Nat → α) (fun v _ => v) (fun _ _ _ gl gr k => bif Nat.beq (Nat.mod k 2) 0 then gl (Nat.div k 2) else gr (Nat.div k 2)) t
/-! values -/
def en_isI (t : Nat) : Bool := Nat.beq t 0 || Nat.ble 7 t
def en_gi (xs : List Int) (a : en_V) (n : Int) : Prop := (a.1 = 0 ∧ n = a.2) ∨ (7 ≤ a.1 ∧ ∃ m, xs[a.1 - 7]? = some m ∧ n = m + a.2)
def en_g (xs : List Int) (a : en_V) (v : Value) : Prop := match v with
  | .int x => en_gi xs a x.toInt
  | .long _ => a.1 = 5
  | .null => a.1 = 1
  | .ref p => a.1 = 2 ∧ a.2 = (p : Int)
  | _ => False
def en_cat (a : en_V) : Nat := bif Nat.beq a.1 5 then 2 else 1
def en_full : Int × Int := (-2147483648, 2147483647)
def en_gs (xs : List Int) : List en_V → List Value → Prop
  | [], [] => True
  | a :: as, v :: vs => en_g xs a v ∧ en_gs xs as vs
  | [], _ :: _ => False
  | _ :: _, [] => False
def en_gl (xs : List Int) : en_L → sm_V → Prop
  | [], [] => True
  | (i, a) :: as, (j, v) :: vs => (i = j ∧ en_g xs a v) ∧ en_gl xs as vs
  | [], _ :: _ => False
  | _ :: _, [] => False
section EnV
variable {xs : List Int} {a b : en_V} {as : List en_V} {lv : en_L} {v : Value} {vs : List Value} {lv' : sm_V}
theorem en_beq {n m : Nat} (h : Nat.beq n m = true) : n = m := Nat.eq_of_beq_eq_true h
theorem en_bne {n m : Nat} (h : Nat.beq n m = false) : n ≠ m := fun e => by
  subst e
  have : Nat.beq n n = true := Nat.beq_refl n
  rw [this] at h
  cases h
theorem en_ble {n m : Nat} (h : Nat.ble n m = true) : n ≤ m := Nat.le_of_ble_eq_true h
theorem en_blt {n m : Nat} (h : Nat.blt n m = true) : n < m := Nat.le_of_ble_eq_true h
theorem en_gi_tag {n : Int} (h : en_gi xs a n) : a.1 = 0 ∨ 7 ≤ a.1 := by
  rcases h with ⟨q, -⟩ | ⟨q, -⟩
  · exact Or.inl q
  · exact Or.inr q
theorem en_isI_of (h : en_isI a.1 = true) (hg : en_g xs a v) : ∃ x, v = .int x ∧ en_gi xs a x.toInt := by
  have h1 : a.1 = 0 ∨ 7 ≤ a.1 := by
    rcases Bool.or_eq_true_iff.mp h with h | h
    · exact Or.inl (en_beq h)
    · exact Or.inr (en_ble h)
  cases v with
  | int x => exact ⟨x, rfl, hg⟩
  | long x => have q : a.1 = 5 := hg; omega
  | null => have q : a.1 = 1 := hg; omega
  | ref p => have q := hg.1; omega
  | float _ => exact hg.elim
  | double _ => exact hg.elim
  | retAddr _ => exact hg.elim
theorem en_gi0 (n : Int) : en_gi xs (0, n) n := Or.inl ⟨rfl, rfl⟩
theorem en_0_of (h : a.1 = 0) (hg : en_g xs a v) : ∃ x, v = .int x ∧ x.toInt = a.2 := by
  obtain ⟨x, rfl, q⟩ := en_isI_of (by rw [h]; rfl) hg
  refine ⟨x, rfl, ?_⟩
  rcases q with ⟨-, q⟩ | ⟨q, -⟩
  · exact q
  · omega
theorem en_ref_of (h : a.1 = 2) (hg : en_g xs a v) : ∃ p : Nat, v = .ref p ∧ a.2 = (p : Int) := by
  cases v with
  | int x => have := en_gi_tag hg; omega
  | long x => have q : a.1 = 5 := hg; omega
  | null => have q : a.1 = 1 := hg; omega
  | ref p => exact ⟨p, rfl, hg.2⟩
  | float _ => exact hg.elim
  | double _ => exact hg.elim
  | retAddr _ => exact hg.elim
theorem en_null_of (h : a.1 = 1) (hg : en_g xs a v) : v = .null := by
  cases v with
  | int x => have := en_gi_tag hg; omega
  | long x => have q : a.1 = 5 := hg; omega
  | null => rfl
  | ref p => have q := hg.1; omega
  | float _ => exact hg.elim
  | double _ => exact hg.elim
  | retAddr _ => exact hg.elim
theorem en_long_of (h : a.1 = 5) (hg : en_g xs a v) : ∃ x, v = .long x := by
  cases v with
  | int x => have := en_gi_tag hg; omega
  | long x => exact ⟨x, rfl⟩
  | null => have q : a.1 = 1 := hg; omega
  | ref p => have q := hg.1; omega
  | float _ => exact hg.elim
  | double _ => exact hg.elim
  | retAddr _ => exact hg.elim
theorem en_cat_of (hg : en_g xs a v) : v.category = en_cat a := by
  obtain ⟨t, i⟩ := a
  cases v with
  | int x =>
    show 1 = bif Nat.beq t 5 then 2 else 1
    have h2 : Nat.beq t 5 = false := by
      cases e : Nat.beq t 5 with
      | false => rfl
      | true => have h1 := en_beq e; have h3 := en_gi_tag hg; simp only at h3; omega
    rw [h2]; rfl
  | long x => have q : t = 5 := hg; subst q; rfl
  | null => have q : t = 1 := hg; subst q; rfl
  | ref p => have q : t = 2 := hg.1; subst q; rfl
  | float _ => exact hg.elim
  | double _ => exact hg.elim
  | retAddr _ => exact hg.elim
/-! more symbols at the end change nothing -/
theorem en_gi_app {n : Int} (ys : List Int) (h : en_gi xs a n) : en_gi (xs ++ ys) a n := by
  rcases h with h | ⟨q, m, h1, h2⟩
  · exact Or.inl h
  · refine Or.inr ⟨q, m, ?_, h2⟩
    rw [List.getElem?_append_left (List.getElem?_eq_some_iff.mp h1).1]
    exact h1
theorem en_g_app (ys : List Int) (h : en_g xs a v) : en_g (xs ++ ys) a v := by
  cases v with
  | int x => exact en_gi_app ys h
  | long x => exact h
  | null => exact h
  | ref p => exact h
  | float _ => exact h.elim
  | double _ => exact h.elim
  | retAddr _ => exact h.elim
theorem en_gs_app' (ys : List Int) : ∀ {as : List en_V} {vs : List Value}, en_gs xs as vs → en_gs (xs ++ ys) as vs
  | [], [], _ => trivial
  | a :: as, v :: vs, h => ⟨en_g_app ys h.1, en_gs_app' ys h.2⟩
  | [], _ :: _, h => h.elim
  | _ :: _, [], h => h.elim
theorem en_gl_app (ys : List Int) : ∀ {lv : en_L} {lv' : sm_V}, en_gl xs lv lv' → en_gl (xs ++ ys) lv lv'
  | [], [], _ => trivial
  | (i, a) :: as, (j, v) :: vs, h => ⟨⟨h.1.1, en_g_app ys h.1.2⟩, en_gl_app ys h.2⟩
  | [], _ :: _, h => h.elim
  | _ :: _, [], h => h.elim
theorem en_gs_cons (h : en_gs xs (a :: as) vs) : ∃ v r, vs = v :: r ∧ en_g xs a v ∧ en_gs xs as r := by
  cases vs with
  | nil => exact h.elim
  | cons v r => exact ⟨v, r, rfl, h.1, h.2⟩
theorem en_gs_nil (h : en_gs xs [] vs) : vs = [] := by
  cases vs with
  | nil => rfl
  | cons v r => exact h.elim
theorem en_gs_len : ∀ {as : List en_V} {vs : List Value}, en_gs xs as vs → as.length = vs.length
  | [], [], _ => rfl
  | a :: as, v :: vs, h => by simp only [List.length_cons]; rw [en_gs_len h.2]
  | [], _ :: _, h => h.elim
  | _ :: _, [], h => h.elim
theorem en_gs_cats : ∀ {as : List en_V} {vs : List Value}, en_gs xs as vs → (vs.map fun v => v.category) = as.map en_cat
  | [], [], _ => rfl
  | a :: as, v :: vs, h => by simp only [List.map_cons]; rw [en_gs_cats h.2, en_cat_of h.1]
  | [], _ :: _, h => h.elim
  | _ :: _, [], h => h.elim
theorem en_gs_app : ∀ {as : List en_V} {vs : List Value} {bs : List en_V} {us : List Value}, en_gs xs as vs → en_gs xs bs us → en_gs xs (as ++ bs) (vs ++ us)
  | [], [], _, _, _, h2 => h2
  | a :: as, v :: vs, _, _, h, h2 => ⟨h.1, en_gs_app h.2 h2⟩
  | [], _ :: _, _, _, h, _ => h.elim
  | _ :: _, [], _, _, h, _ => h.elim
theorem en_gs_rev : ∀ {as : List en_V} {vs : List Value}, en_gs xs as vs → en_gs xs as.reverse vs.reverse
  | [], [], _ => trivial
  | a :: as, v :: vs, h => by
    rw [List.reverse_cons, List.reverse_cons]
    exact en_gs_app (en_gs_rev h.2) ⟨h.1, trivial⟩
  | [], _ :: _, h => h.elim
  | _ :: _, [], h => h.elim
theorem en_gs_take : ∀ (n : Nat) {as : List en_V} {vs : List Value}, en_gs xs as vs → en_gs xs (as.take n) (vs.take n)
  | 0, _, _, _ => trivial
  | n + 1, [], [], _ => trivial
  | n + 1, a :: as, v :: vs, h => ⟨h.1, en_gs_take n h.2⟩
  | _ + 1, [], _ :: _, h => h.elim
  | _ + 1, _ :: _, [], h => h.elim
theorem en_gs_drop : ∀ (n : Nat) {as : List en_V} {vs : List Value}, en_gs xs as vs → en_gs xs (as.drop n) (vs.drop n)
  | 0, _, _, h => h
  | n + 1, [], [], _ => trivial
  | n + 1, a :: as, v :: vs, h => en_gs_drop n h.2
  | _ + 1, [], _ :: _, h => h.elim
  | _ + 1, _ :: _, [], h => h.elim
/-! locals -/
noncomputable def en_lk (lv : en_L) (i : Nat) (c : en_V → Bool) : Bool := List.rec (motive := fun _ => Bool) false (fun q _ ih => bif Nat.beq q.1 i then c q.2 else ih) lv
theorem en_lk_ok {i : Nat} {c : en_V → Bool} : ∀ {lv : en_L} {lv' : sm_V}, en_gl xs lv lv' → en_lk lv i c = true → ∃ a v, sm_lk lv' i = some v ∧ en_g xs a v ∧ c a = true
  | [], _, _, h => by cases h
  | (j, a) :: r, (j', v) :: r', hg, h => by
    obtain ⟨⟨rfl, h1⟩, h2⟩ := hg
    have h : (bif Nat.beq j i then c a else en_lk r i c) = true := h
    cases e : Nat.beq j i with
    | true =>
      rw [e] at h
      have := en_beq e
      subst this
      exact ⟨a, v, by show (if j = j then some v else sm_lk r' j) = some v; rw [if_pos rfl], h1, h⟩
    | false =>
      rw [e] at h
      obtain ⟨a', v', q1, q2, q3⟩ := en_lk_ok h2 h
      exact ⟨a', v', by show (if j = i then some v else sm_lk r' i) = some v'; rw [if_neg (en_bne e)]; exact q1, q2, q3⟩
  | _ :: _, [], h, _ => h.elim
noncomputable def en_pick (live : List Nat) (lv : en_L) : (List en_V → Bool) → Bool := List.rec (motive := fun _ => (List en_V → Bool) → Bool) (fun c => c []) (fun i _ ih c => en_lk lv i (fun v => ih (fun vs => c (v :: vs)))) live
theorem en_pick_ok (hg : en_gl xs lv lv') : ∀ {live : List Nat} {c : List en_V → Bool}, en_pick live lv c = true → ∃ as vs, sm_pick live lv' = some vs ∧ en_gs xs as vs ∧ c as = true
  | [], c, h => ⟨[], [], rfl, trivial, h⟩
  | i :: r, c, h => by
    have h : en_lk lv i (fun v => en_pick r lv (fun vs => c (v :: vs))) = true := h
    obtain ⟨a, v, q1, q2, h⟩ := en_lk_ok hg h
    obtain ⟨as, vs, q3, q4, q5⟩ := en_pick_ok hg h
    exact ⟨a :: as, v :: vs, by simp only [sm_pick, q1, q3], ⟨q2, q4⟩, q5⟩
def en_f1 (i : Nat) (q : Nat × en_V) : Bool := !(Nat.beq q.1 i) && !(Nat.beq (Nat.succ q.1) i && Nat.beq (en_cat q.2) 2)
def en_f2 (i : Nat) (q : Nat × en_V) : Bool := !(Nat.beq q.1 i) && (!(Nat.beq q.1 (Nat.succ i)) && !(Nat.beq (Nat.succ q.1) i && Nat.beq (en_cat q.2) 2))
noncomputable def en_flt (f : Nat × en_V → Bool) (lv : en_L) : en_L := List.rec (motive := fun _ => en_L) [] (fun q _ ih => bif f q then q :: ih else ih) lv
theorem en_flt_eq (f : Nat × en_V → Bool) : ∀ lv : en_L, en_flt f lv = lv.filter f
  | [] => rfl
  | q :: r => by
    show (bif f q then q :: en_flt f r else en_flt f r) = _
    rw [en_flt_eq f r]
    cases e : f q with
    | true => rw [List.filter_cons_of_pos e]; rfl
    | false => rw [List.filter_cons_of_neg (by rw [e]; decide)]; rfl
noncomputable def en_s1 (lv : en_L) (i : Nat) (a : en_V) : en_L := (i, a) :: en_flt (en_f1 i) lv
noncomputable def en_s2 (lv : en_L) (i : Nat) (a : en_V) : en_L := (i, a) :: en_flt (en_f2 i) lv
theorem en_beq_eq (n m : Nat) : Nat.beq n m = (n == m) := by
  rw [Bool.eq_iff_iff, beq_iff_eq]
  exact ⟨en_beq, fun e => by rw [e]; exact Nat.beq_refl m⟩
theorem en_filter {f : Nat × en_V → Bool} {g : Nat × Value → Bool} (hfg : ∀ j a v, en_g xs a v → f (j, a) = g (j, v)) : ∀ {lv : en_L} {lv' : sm_V}, en_gl xs lv lv' → en_gl xs (lv.filter f) (lv'.filter g)
  | [], [], _ => trivial
  | (j, a) :: r, (j', v) :: r', hg => by
    obtain ⟨⟨rfl, h1⟩, h2⟩ := hg
    have e := hfg j a v h1
    cases q : f (j, a) with
    | true =>
      rw [List.filter_cons_of_pos q, List.filter_cons_of_pos (by rw [← e]; exact q)]
      exact ⟨⟨rfl, h1⟩, en_filter hfg h2⟩
    | false =>
      rw [List.filter_cons_of_neg (by rw [q]; decide), List.filter_cons_of_neg (by rw [← e, q]; decide)]
      exact en_filter hfg h2
  | [], _ :: _, h => h.elim
  | _ :: _, [], h => h.elim
theorem en_s1_ok {i : Nat} (hg : en_gl xs lv lv') (h : en_g xs a v) : en_gl xs (en_s1 lv i a) (sm_s1 lv' i v) := by
  unfold en_s1
  rw [en_flt_eq]
  refine ⟨⟨rfl, h⟩, en_filter (fun j a v q => ?_) hg⟩
  rw [en_cat_of q]
  simp only [en_f1, en_beq_eq, Nat.succ_eq_add_one]
theorem en_s2_ok {i : Nat} (hg : en_gl xs lv lv') (h : en_g xs a v) : en_gl xs (en_s2 lv i a) (sm_s2 lv' i v) := by
  unfold en_s2
  rw [en_flt_eq]
  refine ⟨⟨rfl, h⟩, en_filter (fun j a v q => ?_) hg⟩
  rw [en_cat_of q]
  simp only [en_f2, en_beq_eq, Nat.succ_eq_add_one]
noncomputable def en_args (i : Nat) (as : List en_V) : en_L := List.rec (motive := fun _ => Nat → en_L) (fun _ => []) (fun v _ ih i => (i, v) :: ih (bif Nat.beq (en_cat v) 2 then Nat.succ (Nat.succ i) else Nat.succ i)) as i
theorem en_args_ok : ∀ {as : List en_V} {vs : List Value} (i : Nat), en_gs xs as vs → en_gl xs (en_args i as) (lv_args i vs)
  | [], [], _, _ => trivial
  | a :: as, v :: vs, i, h => by
    refine ⟨⟨rfl, h.1⟩, ?_⟩
    have e : (bif Nat.beq (en_cat a) 2 then Nat.succ (Nat.succ i) else Nat.succ i) = (if v.category = 2 then i + 2 else i + 1) := by
      rw [en_cat_of h.1]
      cases q : Nat.beq (en_cat a) 2 with
      | true => rw [if_pos (en_beq q)]; rfl
      | false => rw [if_neg (en_bne q)]; rfl
    show en_gl xs (en_args (bif Nat.beq (en_cat a) 2 then Nat.succ (Nat.succ i) else Nat.succ i) as) (lv_args (if v.category = 2 then i + 2 else i + 1) vs)
    rw [e]
    exact en_args_ok _ h.2
  | [], _ :: _, _, h => h.elim
  | _ :: _, [], _, h => h.elim
noncomputable def en_zip (is : List Nat) : List en_V → en_L := List.rec (motive := fun _ => List en_V → en_L) (fun _ => []) (fun i _ ih vs => List.rec (motive := fun _ => en_L) [] (fun v r _ => (i, v) :: ih r) vs) is
theorem en_zip_ok : ∀ {is : List Nat} {as : List en_V} {vs : List Value}, en_gs xs as vs → en_gl xs (en_zip is as) (is.zip vs)
  | [], _, _, _ => by rw [List.zip_nil_left]; exact trivial
  | i :: is, [], [], _ => trivial
  | i :: is, a :: as, v :: vs, h => ⟨⟨rfl, h.1⟩, en_zip_ok h.2⟩
  | _ :: _, [], _ :: _, h => h.elim
  | _ :: _, _ :: _, [], h => h.elim
noncomputable def en_slots (as : List en_V) : Nat := List.rec (motive := fun _ => Nat) 0 (fun a _ ih => Nat.add (en_cat a) ih) as
theorem en_slots_ok : ∀ {as : List en_V} {vs : List Value}, en_gs xs as vs → (lg_sl vs).length = en_slots as
  | [], [], _ => rfl
  | a :: as, v :: vs, h => by
    have e1 : (lg_sl (v :: vs)).length = (if v.category = 2 then [Slot.val v, .second] else [.val v]).length + (lg_sl vs).length := by
      simp only [lg_sl, List.flatMap_cons, List.length_append]
    rw [e1, en_slots_ok h.2]
    show _ = en_cat a + en_slots as
    rw [← en_cat_of h.1]
    cases v <;> rfl
  | [], _ :: _, h => h.elim
  | _ :: _, [], h => h.elim
end EnV
