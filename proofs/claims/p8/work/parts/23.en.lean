/-! the other instructions -/
section EnI2
variable {tb : en_Tb} {X : sm_W → Prop} {W : en_W} {w0 : en_A} {ρ : List Int} {E : en_E} {S : en_S} {lv : en_L} {st : List en_V} {lv' : sm_V} {st' : List Value} {lay : List (Nat × Nat)} {m : sm_Y} {k : en_K1}
/-- the rest by a number above 0, of a number not below 0 -/
noncomputable def en_grem (p : Int × Int) (c : Int) : Int × Int := bif en_le 0 p.1 then (0, c - 1) else en_full
noncomputable def ei_rem (lv : en_L) (st : List en_V) (S : en_S) (E : en_E) (k : en_K1) : Bool := match st with
  | b :: a :: r => bif (Nat.beq b.1 0 && en_le 1 b.2) && en_isI a.1 then en_new E (en_grem (en_iv E a) b.2) (fun E v => k lv (v :: r) S E) else false
  | _ => false
theorem en_remI {x y : Int32} (hx : 0 ≤ x.toInt) (hy : 1 ≤ y.toInt) : (x - x / y * y).toInt = x.toInt % y.toInt := by
  have r := en_crange (x := x)
  have r2 := en_crange (x := y)
  have q1 : 0 ≤ x.toInt / y.toInt := Int.ediv_nonneg hx (by omega)
  have q2 : x.toInt / y.toInt ≤ x.toInt := Int.ediv_le_self _ hx
  have hd : (x / y).toInt = x.toInt / y.toInt := by
    rw [Int32.toInt_div, Int.tdiv_eq_ediv_of_nonneg hx]
    exact en_bmod (by omega) (by omega) (Or.inl rfl)
  have e := Int.emod_add_mul_ediv x.toInt y.toInt
  have b1 := Int.emod_nonneg x.toInt (show y.toInt ≠ 0 by omega)
  have b2 := Int.emod_lt_of_pos x.toInt (show 0 < y.toInt by omega)
  have q3 : 0 ≤ x.toInt / y.toInt * y.toInt := Int.mul_nonneg q1 (by omega)
  rw [Int.mul_comm] at e
  have hm : (x / y * y).toInt = x.toInt / y.toInt * y.toInt := by
    rw [Int32.toInt_mul, hd]
    exact en_bmod (by omega) (by omega) (Or.inl rfl)
  rw [Int32.toInt_sub, hm]
  exact en_bmod (by omega) (by omega) (Or.inl (by omega))
theorem ei_rem_ok (hR : en_R tb X W w0 ρ E S lv st lv' st' (lay, m)) (h : ei_rem lv st S E k = true) : en_ok tb X W w0 lay (sm_p lv' m (sm_iq (fun x y => x - x / y * y) st')) k := by
  revert hR h
  refine en_two (P := fun st => en_R tb X W w0 ρ E S lv st lv' st' (lay, m) → ei_rem lv st S E k = true → _) (fun _ h => by cases h) (fun _ _ h => by cases h) (fun b a r hR h => ?_) st
  obtain ⟨u, r1, e, gb, hs⟩ := en_gs_cons hR.2.2.2.2.1
  subst e
  replace hs := en_gs_cons hs; obtain ⟨v, r2, rfl, ga, hs⟩ := hs
  replace h := en_bif0 h; obtain ⟨h1, h⟩ := h
  obtain ⟨h1, h3⟩ := en_and2 h1
  obtain ⟨h1, h2⟩ := en_and2 h1
  have h2 := en_le_iff.mp h2
  obtain ⟨y, rfl, ey⟩ := en_0_of (en_beq h1) gb
  obtain ⟨x, rfl, gx⟩ := en_isI_of h3 ga
  have i := en_ivx hR.1 gx
  refine ei_fresh (x := x - x / y * y) (s := r) (s' := r2) ?_ hR hs ?_ h
  · simp only [sm_iq]
    rw [if_neg]
    intro c
    subst c
    have e0 : (0 : Int32).toInt = 0 := by decide
    omega
  · unfold en_grem
    cases e : en_le 0 (en_iv E a).1 with
    | true =>
      have e := en_le_iff.mp e
      rw [en_remI (by omega) (by omega), ← ey]
      have b1 := Int.emod_nonneg x.toInt (show y.toInt ≠ 0 by omega)
      have b2 := Int.emod_lt_of_pos x.toInt (show 0 < y.toInt by omega)
      exact ⟨b1, by show _ ≤ y.toInt - 1; omega⟩
    | false => exact en_crange
/-- an int out of an int: a symbol of an interval -/
noncomputable def ei_i1 (g : Int × Int → Int × Int) (lv : en_L) (st : List en_V) (S : en_S) (E : en_E) (k : en_K1) : Bool := match st with
  | a :: r => bif en_isI a.1 then en_new E (g (en_iv E a)) (fun E v => k lv (v :: r) S E) else false
  | _ => false
def en_i1ok (f : Int32 → Int32) (g : Int × Int → Int × Int) : Prop := ∀ (p : Int × Int) (x : Int32), p.1 ≤ x.toInt → x.toInt ≤ p.2 → (g p).1 ≤ (f x).toInt ∧ (f x).toInt ≤ (g p).2
theorem ei_i1_ok {f : Int32 → Int32} {g : Int × Int → Int × Int} (hf : en_i1ok f g) (hR : en_R tb X W w0 ρ E S lv st lv' st' (lay, m)) (h : ei_i1 g lv st S E k = true) : en_ok tb X W w0 lay (sm_p lv' m (sm_i1 (fun x => .int (f x)) st')) k := by
  cases st with
  | nil => cases h
  | cons a r =>
    obtain ⟨v, r', e, ga, hs⟩ := en_gs_cons hR.2.2.2.2.1
    subst e
    replace h := en_bif0 h; obtain ⟨h1, h⟩ := h
    obtain ⟨x, rfl, gx⟩ := en_isI_of h1 ga
    have i := en_ivx hR.1 gx
    exact ei_fresh (x := f x) (s := r) (s' := r') rfl hR hs (hf _ x i.1 i.2) h
noncomputable def en_gneg (p : Int × Int) : Int × Int := en_cap (-p.2, -p.1)
theorem en_gneg_ok : en_i1ok (fun x => -x) en_gneg := by
  intro p x h1 h2
  refine en_cap_of en_crange (fun ⟨c1, c2⟩ => ?_)
  simp only at c1 c2 ⊢
  rw [Int32.toInt_neg, en_bmod (r := -x.toInt) (by omega) (by omega) (Or.inl rfl)]
  omega
def en_gbyte (_ : Int × Int) : Int × Int := (-128, 127)
theorem en_byte (x : Int32) : -128 ≤ x.toInt8.toInt32.toInt ∧ x.toInt8.toInt32.toInt ≤ 127 := by
  have h1 := Int8.le_toInt x.toInt8
  have h2 := Int8.toInt_lt x.toInt8
  rw [Int8.toInt_toInt32]
  have e : (2 : Int) ^ 7 = 128 := by decide
  rw [e] at h1 h2
  omega
theorem en_gbyte_ok : en_i1ok (fun x => x.toInt8.toInt32) en_gbyte := fun _ x _ _ => en_byte x
def en_g1full (_ : Int × Int) : Int × Int := en_full
theorem en_g1full_ok (f : Int32 → Int32) : en_i1ok f en_g1full := fun _ _ _ _ => en_crange
noncomputable def ei_i2l (lv : en_L) (st : List en_V) (S : en_S) (E : en_E) (k : en_K1) : Bool := match st with
  | a :: r => bif en_isI a.1 then k lv ((5, 0) :: r) S E else false
  | _ => false
theorem ei_i2l_ok (hR : en_R tb X W w0 ρ E S lv st lv' st' (lay, m)) (h : ei_i2l lv st S E k = true) : en_ok tb X W w0 lay (sm_p lv' m (sm_i1 (fun x => .long x.toInt64) st')) k := by
  cases st with
  | nil => cases h
  | cons a r =>
    obtain ⟨v, r', e, ga, hs⟩ := en_gs_cons hR.2.2.2.2.1
    subst e
    replace h := en_bif0 h; obtain ⟨h1, h⟩ := h
    obtain ⟨x, rfl, gx⟩ := en_isI_of h1 ga
    exact en_okp (s' := .long x.toInt64 :: r') (s := (5, 0) :: r) rfl hR ⟨rfl, hs⟩ h
noncomputable def ei_l2i (lv : en_L) (st : List en_V) (S : en_S) (E : en_E) (k : en_K1) : Bool := match st with
  | a :: r => bif Nat.beq a.1 5 then en_new E en_full (fun E v => k lv (v :: r) S E) else false
  | _ => false
theorem ei_l2i_ok (hR : en_R tb X W w0 ρ E S lv st lv' st' (lay, m)) (h : ei_l2i lv st S E k = true) : en_ok tb X W w0 lay (sm_p lv' m (sm_l1 (fun x => .int x.toInt32) st')) k := by
  cases st with
  | nil => cases h
  | cons a r =>
    obtain ⟨v, r', e, ga, hs⟩ := en_gs_cons hR.2.2.2.2.1
    subst e
    replace h := en_bif0 h; obtain ⟨h1, h⟩ := h
    obtain ⟨x, rfl⟩ := en_long_of (en_beq h1) ga
    exact ei_fresh (x := x.toInt32) (s := r) (s' := r') rfl hR hs en_crange h
noncomputable def ei_ll (lv : en_L) (st : List en_V) (S : en_S) (E : en_E) (k : en_K1) : Bool := match st with
  | b :: a :: r => bif Nat.beq a.1 5 && Nat.beq b.1 5 then k lv ((5, 0) :: r) S E else false
  | _ => false
theorem ei_ll_ok {f : Int64 → Int64 → Int64} (hR : en_R tb X W w0 ρ E S lv st lv' st' (lay, m)) (h : ei_ll lv st S E k = true) : en_ok tb X W w0 lay (sm_p lv' m (sm_ll f st')) k := by
  revert hR h
  refine en_two (P := fun st => en_R tb X W w0 ρ E S lv st lv' st' (lay, m) → ei_ll lv st S E k = true → _) (fun _ h => by cases h) (fun _ _ h => by cases h) (fun b a r hR h => ?_) st
  obtain ⟨u, r1, e, gb, hs⟩ := en_gs_cons hR.2.2.2.2.1
  subst e
  replace hs := en_gs_cons hs; obtain ⟨v, r2, rfl, ga, hs⟩ := hs
  replace h := en_bif0 h; obtain ⟨h1, h⟩ := h
  obtain ⟨h1, h2⟩ := en_and2 h1
  obtain ⟨x, rfl⟩ := en_long_of (en_beq h1) ga
  obtain ⟨y, rfl⟩ := en_long_of (en_beq h2) gb
  exact en_okp (s' := .long (f x y) :: r2) (s := (5, 0) :: r) rfl hR ⟨rfl, hs⟩ h
noncomputable def ei_lc (lv : en_L) (st : List en_V) (S : en_S) (E : en_E) (k : en_K1) : Bool := match st with
  | b :: a :: r => bif Nat.beq a.1 5 && Nat.beq b.1 5 then en_new E (-1, 1) (fun E v => k lv (v :: r) S E) else false
  | _ => false
theorem ei_lc_ok (hR : en_R tb X W w0 ρ E S lv st lv' st' (lay, m)) (h : ei_lc lv st S E k = true) : en_ok tb X W w0 lay (sm_p lv' m (sm_lc st')) k := by
  revert hR h
  refine en_two (P := fun st => en_R tb X W w0 ρ E S lv st lv' st' (lay, m) → ei_lc lv st S E k = true → _) (fun _ h => by cases h) (fun _ _ h => by cases h) (fun b a r hR h => ?_) st
  obtain ⟨u, r1, e, gb, hs⟩ := en_gs_cons hR.2.2.2.2.1
  subst e
  replace hs := en_gs_cons hs; obtain ⟨v, r2, rfl, ga, hs⟩ := hs
  replace h := en_bif0 h; obtain ⟨h1, h⟩ := h
  obtain ⟨h1, h2⟩ := en_and2 h1
  obtain ⟨x, rfl⟩ := en_long_of (en_beq h1) ga
  obtain ⟨y, rfl⟩ := en_long_of (en_beq h2) gb
  refine ei_fresh (x := lg_cmp x y) (s := r) (s' := r2) rfl hR hs ?_ h
  unfold lg_cmp
  split
  · decide
  · split
    · decide
    · decide
noncomputable def ei_li (lv : en_L) (st : List en_V) (S : en_S) (E : en_E) (k : en_K1) : Bool := match st with
  | b :: a :: r => bif Nat.beq a.1 5 && en_isI b.1 then k lv ((5, 0) :: r) S E else false
  | _ => false
theorem ei_li_ok {f : Int64 → Int32 → Int64} (hR : en_R tb X W w0 ρ E S lv st lv' st' (lay, m)) (h : ei_li lv st S E k = true) : en_ok tb X W w0 lay (sm_p lv' m (sm_li f st')) k := by
  revert hR h
  refine en_two (P := fun st => en_R tb X W w0 ρ E S lv st lv' st' (lay, m) → ei_li lv st S E k = true → _) (fun _ h => by cases h) (fun _ _ h => by cases h) (fun b a r hR h => ?_) st
  obtain ⟨u, r1, e, gb, hs⟩ := en_gs_cons hR.2.2.2.2.1
  subst e
  replace hs := en_gs_cons hs; obtain ⟨v, r2, rfl, ga, hs⟩ := hs
  replace h := en_bif0 h; obtain ⟨h1, h⟩ := h
  obtain ⟨h1, h2⟩ := en_and2 h1
  obtain ⟨x, rfl⟩ := en_long_of (en_beq h1) ga
  obtain ⟨y, rfl, -⟩ := en_isI_of h2 gb
  exact en_okp (s' := .long (f x y) :: r2) (s := (5, 0) :: r) rfl hR ⟨rfl, hs⟩ h
def en_c1 (a : en_V) : Bool := Nat.beq (en_cat a) 1
noncomputable def ei_dup (lv : en_L) (st : List en_V) (S : en_S) (E : en_E) (k : en_K1) : Bool := match st with
  | a :: r => bif en_c1 a then k lv (a :: a :: r) S E else false
  | _ => false
theorem ei_dup_ok (hR : en_R tb X W w0 ρ E S lv st lv' st' (lay, m)) (h : ei_dup lv st S E k = true) : en_ok tb X W w0 lay (sm_p lv' m (sm_dup st')) k := by
  cases st with
  | nil => cases h
  | cons a r =>
    obtain ⟨v, r', e, g, hs⟩ := en_gs_cons hR.2.2.2.2.1
    subst e
    replace h := en_bif0 h; obtain ⟨h1, h⟩ := h
    exact en_okp (s' := v :: v :: r') (s := a :: a :: r) (by simp only [sm_dup]; rw [if_pos (by rw [en_cat_of g]; exact en_beq h1)]) hR ⟨g, g, hs⟩ h
noncomputable def ei_pop (lv : en_L) (st : List en_V) (S : en_S) (E : en_E) (k : en_K1) : Bool := match st with
  | a :: r => bif en_c1 a then k lv r S E else false
  | _ => false
theorem ei_pop_ok (hR : en_R tb X W w0 ρ E S lv st lv' st' (lay, m)) (h : ei_pop lv st S E k = true) : en_ok tb X W w0 lay (sm_p lv' m (sm_pop st')) k := by
  cases st with
  | nil => cases h
  | cons a r =>
    obtain ⟨v, r', e, g, hs⟩ := en_gs_cons hR.2.2.2.2.1
    subst e
    replace h := en_bif0 h; obtain ⟨h1, h⟩ := h
    exact en_okp (s' := r') (s := r) (by simp only [sm_pop]; rw [if_pos (by rw [en_cat_of g]; exact en_beq h1)]) hR hs h
noncomputable def ei_dupx1 (lv : en_L) (st : List en_V) (S : en_S) (E : en_E) (k : en_K1) : Bool := match st with
  | a :: b :: r => bif en_c1 a && en_c1 b then k lv (a :: b :: a :: r) S E else false
  | _ => false
theorem ei_dupx1_ok (hR : en_R tb X W w0 ρ E S lv st lv' st' (lay, m)) (h : ei_dupx1 lv st S E k = true) : en_ok tb X W w0 lay (sm_p lv' m (sm_dupx1 st')) k := by
  revert hR h
  refine en_two (P := fun st => en_R tb X W w0 ρ E S lv st lv' st' (lay, m) → ei_dupx1 lv st S E k = true → _) (fun _ h => by cases h) (fun _ _ h => by cases h) (fun a b r hR h => ?_) st
  obtain ⟨u, r1, e, ga, hs⟩ := en_gs_cons hR.2.2.2.2.1
  subst e
  replace hs := en_gs_cons hs; obtain ⟨v, r2, rfl, gb, hs⟩ := hs
  replace h := en_bif0 h; obtain ⟨h1, h⟩ := h
  obtain ⟨h1, h2⟩ := en_and2 h1
  exact en_okp (s' := u :: v :: u :: r2) (s := a :: b :: a :: r) (by simp only [sm_dupx1]; rw [if_pos ⟨by rw [en_cat_of ga]; exact en_beq h1, by rw [en_cat_of gb]; exact en_beq h2⟩]) hR ⟨ga, gb, ga, hs⟩ h
noncomputable def ei_dup2 (lv : en_L) (st : List en_V) (S : en_S) (E : en_E) (k : en_K1) : Bool := match st with
  | a :: b :: r => bif en_c1 a && en_c1 b then k lv (a :: b :: a :: b :: r) S E else false
  | _ => false
theorem ei_dup2_ok (hR : en_R tb X W w0 ρ E S lv st lv' st' (lay, m)) (h : ei_dup2 lv st S E k = true) : en_ok tb X W w0 lay (sm_p lv' m (sm_dup2 st')) k := by
  revert hR h
  refine en_two (P := fun st => en_R tb X W w0 ρ E S lv st lv' st' (lay, m) → ei_dup2 lv st S E k = true → _) (fun _ h => by cases h) (fun _ _ h => by cases h) (fun a b r hR h => ?_) st
  obtain ⟨u, r1, e, ga, hs⟩ := en_gs_cons hR.2.2.2.2.1
  subst e
  replace hs := en_gs_cons hs; obtain ⟨v, r2, rfl, gb, hs⟩ := hs
  replace h := en_bif0 h; obtain ⟨h1, h⟩ := h
  obtain ⟨h1, h2⟩ := en_and2 h1
  exact en_okp (s' := u :: v :: u :: v :: r2) (s := a :: b :: a :: b :: r) (by simp only [sm_dup2]; rw [if_pos ⟨by rw [en_cat_of ga]; exact en_beq h1, by rw [en_cat_of gb]; exact en_beq h2⟩]) hR ⟨ga, gb, ga, gb, hs⟩ h
/-! cells -/
/-- a reference that is a number -/
noncomputable def en_rf (a : en_V) (c : Nat → Bool) : Bool := bif Nat.beq a.1 2 && en_le 0 a.2 then c a.2.toNat else false
theorem en_rf_ok {a : en_V} {v : Value} {c : Nat → Bool} (h : en_rf a c = true) (hg : en_g ρ a v) : ∃ p : Nat, v = .ref p ∧ c p = true := by
  obtain ⟨h1, h2⟩ := en_bif0 h
  obtain ⟨h1, h3⟩ := en_and2 h1
  obtain ⟨p, rfl, e⟩ := en_ref_of (en_beq h1) hg
  refine ⟨p, rfl, ?_⟩
  rw [e] at h2
  exact h2
/-- an index within n -/
noncomputable def en_ix (E : en_E) (a : en_V) (n : Nat) : Bool := en_isI a.1 && (en_le 0 (en_iv E a).1 && en_le ((en_iv E a).2 + 1) n)
theorem en_ix_ok {a : en_V} {v : Value} {n : Nat} (h : en_ix E a n = true) (hE : en_sat ρ E) (hg : en_g ρ a v) : ∃ x : Int32, v = .int x ∧ ¬ (x < 0 ∨ n ≤ x.toNatClampNeg) ∧ x.toNatClampNeg < n ∧ en_gi ρ a (x.toNatClampNeg : Nat) := by
  obtain ⟨h1, h2⟩ := en_and2 h
  obtain ⟨h2, h3⟩ := en_and2 h2
  have h2 := en_le_iff.mp h2
  have h3 := en_le_iff.mp h3
  obtain ⟨x, rfl, gx⟩ := en_isI_of h1 hg
  have i := en_ivx hE gx
  have e0 : (0 : Int32).toInt = 0 := by decide
  have ex : ((x.toNatClampNeg : Nat) : Int) = x.toInt := by
    show ((x.toInt.toNat : Nat) : Int) = x.toInt
    omega
  refine ⟨x, rfl, ?_, by omega, by rw [ex]; exact gx⟩
  rintro (c | c)
  · rw [Int32.lt_iff_toInt_lt, e0] at c; omega
  · omega
/-- an int of a cell is read: the symbol that it has, or a new one -/
noncomputable def en_rd (p : Nat) (i : en_V) (q : Int × Int) (lv : en_L) (st : List en_V) (S : en_S) (E : en_E) (k : en_K1) : Bool := match en_find S 0 p i with
  | some v => k lv (v :: st) S E
  | none => en_new E q (fun E v => k lv (v :: st) ((0, p, i, v) :: S) E)
theorem en_rd_ok {p n : Nat} {i : en_V} {q : Int × Int} {s : List en_V} {s' : List Value} {o : Option (List Value)} (hR : en_R tb X W w0 ρ E S lv st lv' st' (lay, m)) (hs : en_gs ρ s s') (hi : en_gi ρ i n) (hq : q.1 ≤ (m.1 p n).toInt ∧ (m.1 p n).toInt ≤ q.2) (e : o = some (.int (m.1 p n) :: s')) (h : en_rd p i q lv s S E k = true) : en_ok tb X W w0 lay (sm_p lv' m o) k := by
  unfold en_rd at h
  split at h
  · next v e1 =>
    have h1 := hR.2.2.1 _ (en_find_ok e1)
    obtain ⟨n', g1, g2⟩ := h1.1 rfl
    have en : (n' : Int) = n := en_gi_inj g1 hi
    have en : n' = n := by omega
    subst en
    exact en_okp (s := v :: s) e hR ⟨g2, hs⟩ h
  · obtain ⟨E', r, g1, g2, g3⟩ := en_new_ok hR.1 h (m.1 p n).toInt hq
    have hR' := en_R_app [(m.1 p n).toInt] g1 hR
    refine ⟨(lv', .int (m.1 p n) :: s', m), by rw [e]; rfl, _, E', (0, p, i, r) :: S, lv, r :: s, ⟨hR'.1, hR'.2.1, ?_, hR'.2.2.2.1, ⟨g2, en_gs_app' _ hs⟩, hR'.2.2.2.2.2⟩, g3⟩
    intro e' he
    rcases List.mem_cons.mp he with rfl | he
    · exact ⟨fun _ => ⟨n, en_gi_app _ hi, g2⟩, fun c => (by cases c)⟩
    · exact hR'.2.2.1 e' he
/-! the rows that stand from the beginning -/
def en_all (l : List Int32) (q : Int × Int) : Bool := l.all (fun x => decide (q.1 ≤ x.toInt) && decide (x.toInt ≤ q.2))
theorem en_all_ok {l : List Int32} {q : Int × Int} (h : en_all l q = true) {j : Nat} (hj : j < l.length) : q.1 ≤ (l.getD j 0).toInt ∧ (l.getD j 0).toInt ≤ q.2 := by
  have h1 := List.all_eq_true.mp h (l.getD j 0) (by rw [List.getD_eq_getElem?_getD, List.getElem?_eq_getElem hj]; exact List.getElem_mem hj)
  obtain ⟨h2, h3⟩ := en_and2 h1
  exact ⟨of_decide_eq_true h2, of_decide_eq_true h3⟩
def en_stat (p : Nat) : Option (Nat × Int × Int) := bif Nat.beq p 1001 then some (sm_steps.length, 0, 30) else bif Nat.beq p 1002 then some (sm_room.length, 0, 12) else bif Nat.beq p 1003 then some (sm_withyes.length, -2147483648, 2147483647) else none
theorem en_stat_ok {Sc : sm_C} {p n : Nat} {a b : Int} (h : en_stat p = some (n, a, b)) : 1000 ≤ p ∧ ∃ f, sm_sI Sc p = some (n, f) ∧ ∀ j, j < n → a ≤ (f j).toInt ∧ (f j).toInt ≤ b := by
  unfold en_stat at h
  cases e1 : Nat.beq p 1001 with
  | true =>
    rw [e1] at h
    cases h
    have := en_beq e1
    subst this
    exact ⟨by decide, _, rfl, fun j hj => en_all_ok (q := (0, 30)) (by decide) hj⟩
  | false =>
    rw [e1] at h
    cases e2 : Nat.beq p 1002 with
    | true =>
      rw [e2] at h
      cases h
      have := en_beq e2
      subst this
      exact ⟨by decide, _, rfl, fun j hj => en_all_ok (q := (0, 12)) (by decide) hj⟩
    | false =>
      rw [e2] at h
      cases e3 : Nat.beq p 1003 with
      | true =>
        rw [e3] at h
        cases h
        have := en_beq e3
        subst this
        exact ⟨by decide, _, rfl, fun j hj => en_all_ok (q := (-2147483648, 2147483647)) (by decide) hj⟩
      | false => rw [e3] at h; cases h
theorem en_none {p : Nat} (hm : en_mem tb X (lay, m)) (h : 1000 ≤ p) : lay[p]? = none := by
  have h2 : lay.length ≤ 1000 := hm.2.2.2.1
  exact List.getElem?_eq_none (by omega)
noncomputable def ei_gI1 (tb : en_Tb) (lv : en_L) (r : List en_V) (S : en_S) (E : en_E) (k : en_K1) (i : en_V) (p : Nat) : Bool := match en_cell tb p with
  | some d => bif Nat.beq d.1 1 && en_ix E i d.2.1 then (match en_fiv d.2.2[0]? with
    | some q => en_rd p i q lv r S E k
    | none => false) else false
  | none => match en_stat p with
    | some q => bif en_ix E i q.1 then en_new E q.2 (fun E v => k lv (v :: r) S E) else false
    | none => false
noncomputable def ei_gI (tb : en_Tb) (lv : en_L) (st : List en_V) (S : en_S) (E : en_E) (k : en_K1) : Bool := match st with
  | i :: b :: r => en_rf b (ei_gI1 tb lv r S E k i)
  | _ => false
theorem en_intA {p : Nat} {d : en_D} {q : Int × Int} {j : Nat} (hd : en_cell tb p = some d) (h0 : ¬ d.1 = 0) (hj : j < d.2.1) (hq : en_fiv d.2.2[0]? = some q) : en_int tb p j = some q := by
  unfold en_int
  rw [hd]
  dsimp only
  have e1 : Nat.beq d.1 0 = false := by
    cases e : Nat.beq d.1 0 with
    | false => rfl
    | true => exact absurd (en_beq e) h0
  have e2 : Nat.blt j d.2.1 = true := Nat.ble_eq_true_of_le hj
  rw [e1, e2]
  exact hq
theorem ei_gI_ok {Sc : sm_C} (hR : en_R tb X W w0 ρ E S lv st lv' st' (lay, m)) (h : ei_gI tb lv st S E k = true) : en_ok tb X W w0 lay (sm_p lv' m (sm_gI Sc lay m st')) k := by
  revert hR h
  refine en_two (P := fun st => en_R tb X W w0 ρ E S lv st lv' st' (lay, m) → ei_gI tb lv st S E k = true → _) (fun _ h => by cases h) (fun _ _ h => by cases h) (fun i b r hR h => ?_) st
  obtain ⟨u, r1, e, gi, hs⟩ := en_gs_cons hR.2.2.2.2.1
  subst e
  replace hs := en_gs_cons hs; obtain ⟨v, r2, rfl, gb, hs⟩ := hs
  replace h := en_rf_ok (ρ := ρ) h gb; obtain ⟨p, rfl, h⟩ := h
  unfold ei_gI1 at h
  split at h
  · next d hd =>
    replace h := en_bif0 h; obtain ⟨h1, h⟩ := h
    obtain ⟨h1, h2⟩ := en_and2 h1
    have h1 := en_beq h1
    obtain ⟨x, rfl, hx, hx2, gx⟩ := en_ix_ok h2 hR.1 gi
    split at h
    · next q hq =>
      have hm := hR.2.1
      have c1 : lay[p]? = some (d.1, d.2.1) := hm.1 p d hd
      rw [h1] at c1
      refine en_rd_ok hR hs gx (hm.2.1 p _ q (en_intA hd (by omega) hx2 hq)) ?_ h
      simp only [sm_gI, c1]
      rw [if_neg hx]
    · cases h
  · split at h
    · next q hq =>
      replace h := en_bif0 h; obtain ⟨h1, h⟩ := h
      obtain ⟨x, rfl, hx, hx2, gx⟩ := en_ix_ok h1 hR.1 gi
      obtain ⟨hp, f, e1, e2⟩ := en_stat_ok (Sc := Sc) (n := q.1) (a := q.2.1) (b := q.2.2) hq
      refine ei_fresh (x := f x.toNatClampNeg) (s := r) (s' := r2) ?_ hR hs (e2 _ hx2) h
      simp only [sm_gI, en_none hR.2.1 hp, e1]
      rw [if_neg hx]
    · cases h
noncomputable def ei_gB1 (tb : en_Tb) (lv : en_L) (r : List en_V) (S : en_S) (E : en_E) (k : en_K1) (i : en_V) (p : Nat) : Bool := match en_cell tb p with
  | some d => bif (Nat.beq d.1 2 || Nat.beq d.1 3) && en_ix E i d.2.1 then (match en_fiv d.2.2[0]? with
    | some q => en_rd p i q lv r S E k
    | none => false) else false
  | none => false
noncomputable def ei_gB (tb : en_Tb) (lv : en_L) (st : List en_V) (S : en_S) (E : en_E) (k : en_K1) : Bool := match st with
  | i :: b :: r => en_rf b (ei_gB1 tb lv r S E k i)
  | _ => false
theorem ei_gB_ok (hR : en_R tb X W w0 ρ E S lv st lv' st' (lay, m)) (h : ei_gB tb lv st S E k = true) : en_ok tb X W w0 lay (sm_p lv' m (sm_gB lay m st')) k := by
  revert hR h
  refine en_two (P := fun st => en_R tb X W w0 ρ E S lv st lv' st' (lay, m) → ei_gB tb lv st S E k = true → _) (fun _ h => by cases h) (fun _ _ h => by cases h) (fun i b r hR h => ?_) st
  obtain ⟨u, r1, e, gi, hs⟩ := en_gs_cons hR.2.2.2.2.1
  subst e
  replace hs := en_gs_cons hs; obtain ⟨v, r2, rfl, gb, hs⟩ := hs
  replace h := en_rf_ok (ρ := ρ) h gb; obtain ⟨p, rfl, h⟩ := h
  unfold ei_gB1 at h
  split at h
  · next d hd =>
    replace h := en_bif0 h; obtain ⟨h1, h⟩ := h
    obtain ⟨h1, h2⟩ := en_and2 h1
    obtain ⟨x, rfl, hx, hx2, gx⟩ := en_ix_ok h2 hR.1 gi
    split at h
    · next q hq =>
      have hm := hR.2.1
      have c1 : lay[p]? = some (d.1, d.2.1) := hm.1 p d hd
      rcases Bool.or_eq_true_iff.mp h1 with h1 | h1
      · have h1 := en_beq h1
        rw [h1] at c1
        refine en_rd_ok hR hs gx (hm.2.1 p _ q (en_intA hd (by omega) hx2 hq)) ?_ h
        simp only [sm_gB, c1]
        rw [if_neg hx]
      · have h1 := en_beq h1
        rw [h1] at c1
        refine en_rd_ok hR hs gx (hm.2.1 p _ q (en_intA hd (by omega) hx2 hq)) ?_ h
        simp only [sm_gB, c1]
        rw [if_neg hx]
    · cases h
  · cases h
noncomputable def ei_gL1 (tb : en_Tb) (lv : en_L) (r : List en_V) (S : en_S) (E : en_E) (k : en_K1) (i : en_V) (p : Nat) : Bool := match en_cell tb p with
  | some d => bif Nat.beq d.1 4 && en_ix E i d.2.1 then k lv ((5, 0) :: r) S E else false
  | none => bif Nat.beq p 1000 && en_ix E i sm_words.length then k lv ((5, 0) :: r) S E else false
noncomputable def ei_gL (tb : en_Tb) (lv : en_L) (st : List en_V) (S : en_S) (E : en_E) (k : en_K1) : Bool := match st with
  | i :: b :: r => en_rf b (ei_gL1 tb lv r S E k i)
  | _ => false
set_option maxRecDepth 20000 in
theorem ei_gL_ok (hR : en_R tb X W w0 ρ E S lv st lv' st' (lay, m)) (h : ei_gL tb lv st S E k = true) : en_ok tb X W w0 lay (sm_p lv' m (sm_gL lay m st')) k := by
  revert hR h
  refine en_two (P := fun st => en_R tb X W w0 ρ E S lv st lv' st' (lay, m) → ei_gL tb lv st S E k = true → _) (fun _ h => by cases h) (fun _ _ h => by cases h) (fun i b r hR h => ?_) st
  obtain ⟨u, r1, e, gi, hs⟩ := en_gs_cons hR.2.2.2.2.1
  subst e
  replace hs := en_gs_cons hs; obtain ⟨v, r2, rfl, gb, hs⟩ := hs
  replace h := en_rf_ok (ρ := ρ) h gb; obtain ⟨p, rfl, h⟩ := h
  unfold ei_gL1 at h
  split at h
  · next d hd =>
    replace h := en_bif0 h; obtain ⟨h1, h⟩ := h
    obtain ⟨h1, h2⟩ := en_and2 h1
    have h1 := en_beq h1
    obtain ⟨x, rfl, hx, hx2, gx⟩ := en_ix_ok h2 hR.1 gi
    have c1 : lay[p]? = some (d.1, d.2.1) := hR.2.1.1 p d hd
    rw [h1] at c1
    refine en_okp (s' := .long (m.2.1 p x.toNatClampNeg) :: r2) (s := (5, 0) :: r) ?_ hR ⟨rfl, hs⟩ h
    simp only [sm_gL, c1]
    rw [if_neg hx]
  · replace h := en_bif0 h; obtain ⟨h1, h⟩ := h
    obtain ⟨h1, h2⟩ := en_and2 h1
    have h1 := en_beq h1
    obtain ⟨x, rfl, hx, hx2, gx⟩ := en_ix_ok h2 hR.1 gi
    subst h1
    refine en_okp (s' := .long (sm_words.getD x.toNatClampNeg 0) :: r2) (s := (5, 0) :: r) ?_ hR ⟨rfl, hs⟩ h
    simp only [sm_gL, en_none hR.2.1 (Nat.le_refl 1000), sm_sL]
    rw [if_neg hx]
noncomputable def ei_len1 (tb : en_Tb) (lv : en_L) (r : List en_V) (S : en_S) (E : en_E) (k : en_K1) (p : Nat) : Bool := match en_cell tb p with
  | some d => bif Nat.ble 1 d.1 && Nat.ble d.1 4 then k lv ((0, (Int32.ofNat d.2.1).toInt) :: r) S E else false
  | none => bif Nat.beq p 1000 then k lv ((0, (Int32.ofNat sm_words.length).toInt) :: r) S E else match en_stat p with
    | some q => k lv ((0, (Int32.ofNat q.1).toInt) :: r) S E
    | none => false
noncomputable def ei_len (tb : en_Tb) (lv : en_L) (st : List en_V) (S : en_S) (E : en_E) (k : en_K1) : Bool := match st with
  | b :: r => en_rf b (ei_len1 tb lv r S E k)
  | _ => false
theorem ei_len_ok {Sc : sm_C} (hR : en_R tb X W w0 ρ E S lv st lv' st' (lay, m)) (h : ei_len tb lv st S E k = true) : en_ok tb X W w0 lay (sm_p lv' m (sm_len Sc lay st')) k := by
  cases st with
  | nil => cases h
  | cons b r =>
    obtain ⟨v, r2, e, gb, hs⟩ := en_gs_cons hR.2.2.2.2.1
    subst e
    replace h := en_rf_ok (ρ := ρ) h gb; obtain ⟨p, rfl, h⟩ := h
    unfold ei_len1 at h
    split at h
    · next d hd =>
      replace h := en_bif0 h; obtain ⟨h1, h⟩ := h
      obtain ⟨h1, h2⟩ := en_and2 h1
      have h1 := en_ble h1
      have h2 := en_ble h2
      have c1 : lay[p]? = some (d.1, d.2.1) := hR.2.1.1 p d hd
      refine en_okp (s' := .int (Int32.ofNat d.2.1) :: r2) (s := (0, (Int32.ofNat d.2.1).toInt) :: r) ?_ hR ⟨en_gi0 _, hs⟩ h
      obtain ⟨kd, n, fs⟩ := d
      cases kd with
      | zero => simp only at h1; omega
      | succ kd =>
        simp only at h2 c1
        simp only [sm_len, c1]
        rw [if_pos (by omega)]
    · rcases en_bif h with ⟨hp, h⟩ | ⟨-, h⟩
      · have hp := en_beq hp
        subst hp
        refine en_okp (s' := .int (Int32.ofNat sm_words.length) :: r2) (s := (0, (Int32.ofNat sm_words.length).toInt) :: r) ?_ hR ⟨en_gi0 _, hs⟩ h
        simp only [sm_len, en_none hR.2.1 (Nat.le_refl 1000), sm_sL, sm_sI]
      · split at h
        · next q hq =>
          obtain ⟨hp, f, e1, -⟩ := en_stat_ok (Sc := Sc) (n := q.1) (a := q.2.1) (b := q.2.2) hq
          refine en_okp (s' := .int (Int32.ofNat q.1) :: r2) (s := (0, (Int32.ofNat q.1).toInt) :: r) ?_ hR ⟨en_gi0 _, hs⟩ h
          simp only [sm_len, en_none hR.2.1 hp, e1]
        · cases h
end EnI2
