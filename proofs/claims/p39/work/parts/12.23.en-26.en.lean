section
/-! the other instructions -/
section EnI2
variable {tb : en_Tb} {X : sm_W → Prop} {W : en_W} {w0 : en_A} {ρ : List Int} {E : en_E} {S : en_S} {lv : en_L} {st : List en_V} {lv' : sm_V} {st' : List Value} {lay : List (Nat × Nat)} {m : sm_Y} {k : en_K1}
/-- the rest by a number above 0, of a number not below 0 -/
noncomputable def en_grem (p : Int × Int) (c : Int) : Int × Int := bif en_le 0 p.1 then (0, c - 1) else en_full
noncomputable def ei_rem (lv : en_L) (st : List en_V) (S : en_S) (E : en_E) (k : en_K1) : Bool := match st with
  | b :: a :: r => bif (Nat.beq b.1 0 && en_le 1 b.2) && en_isI a.1 then en_new E (en_grem (en_iv E a) b.2) (fun E v => k lv (v :: r) S E) else false
  | _ => false
theorem en_remI {x y : Int32} (hx : 0 ≤ x.toInt) (hy : 1 ≤ y.toInt) : (x - x / y * y).toInt = x.toInt % y.toInt := by
  have r := en_crange (x := x)
  have r2 := en_crange (x := y)
  have q1 : 0 ≤ x.toInt / y.toInt := Int.ediv_nonneg hx (by omega)
  have q2 : x.toInt / y.toInt ≤ x.toInt := Int.ediv_le_self _ hx
  have hd : (x / y).toInt = x.toInt / y.toInt := by
    rw [Int32.toInt_div, Int.tdiv_eq_ediv_of_nonneg hx]
    exact en_bmod (by omega) (by omega) (Or.inl rfl)
  have e := Int.emod_add_mul_ediv x.toInt y.toInt
  have b1 := Int.emod_nonneg x.toInt (show y.toInt ≠ 0 by omega)
  have b2 := Int.emod_lt_of_pos x.toInt (show 0 < y.toInt by omega)
  have q3 : 0 ≤ x.toInt / y.toInt * y.toInt := Int.mul_nonneg q1 (by omega)
  rw [Int.mul_comm] at e
  have hm : (x / y * y).toInt = x.toInt / y.toInt * y.toInt := by
    rw [Int32.toInt_mul, hd]
    exact en_bmod (by omega) (by omega) (Or.inl rfl)
  rw [Int32.toInt_sub, hm]
  exact en_bmod (by omega) (by omega) (Or.inl (by omega))
theorem ei_rem_ok (hR : en_R tb X W w0 ρ E S lv st lv' st' (lay, m)) (h : ei_rem lv st S E k = true) : en_ok tb X W w0 lay (sm_p lv' m (sm_iq (fun x y => x - x / y * y) st')) k := by
  revert hR h
  refine en_two (P := fun st => en_R tb X W w0 ρ E S lv st lv' st' (lay, m) → ei_rem lv st S E k = true → _) (fun _ h => by cases h) (fun _ _ h => by cases h) (fun b a r hR h => ?_) st
  obtain ⟨u, r1, e, gb, hs⟩ := en_gs_cons hR.2.2.2.2.1
  subst e
  replace hs := en_gs_cons hs; obtain ⟨v, r2, rfl, ga, hs⟩ := hs
  replace h := en_bif0 h; obtain ⟨h1, h⟩ := h
  obtain ⟨h1, h3⟩ := en_and2 h1
  obtain ⟨h1, h2⟩ := en_and2 h1
  have h2 := en_le_iff.mp h2
  obtain ⟨y, rfl, ey⟩ := en_0_of (en_beq h1) gb
  obtain ⟨x, rfl, gx⟩ := en_isI_of h3 ga
  have i := en_ivx hR.1 gx
  refine ei_fresh (x := x - x / y * y) (s := r) (s' := r2) ?_ hR hs ?_ h
  · simp only [sm_iq]
    rw [if_neg]
    intro c
    subst c
    have e0 : (0 : Int32).toInt = 0 := by decide
    omega
  · unfold en_grem
    cases e : en_le 0 (en_iv E a).1 with
    | true =>
      have e := en_le_iff.mp e
      rw [en_remI (by omega) (by omega), ← ey]
      have b1 := Int.emod_nonneg x.toInt (show y.toInt ≠ 0 by omega)
      have b2 := Int.emod_lt_of_pos x.toInt (show 0 < y.toInt by omega)
      exact ⟨b1, by show _ ≤ y.toInt - 1; omega⟩
    | false => exact en_crange
/-- an int out of an int: a symbol of an interval -/
noncomputable def ei_i1 (g : Int × Int → Int × Int) (lv : en_L) (st : List en_V) (S : en_S) (E : en_E) (k : en_K1) : Bool := match st with
  | a :: r => bif en_isI a.1 then en_new E (g (en_iv E a)) (fun E v => k lv (v :: r) S E) else false
  | _ => false
def en_i1ok (f : Int32 → Int32) (g : Int × Int → Int × Int) : Prop := ∀ (p : Int × Int) (x : Int32), p.1 ≤ x.toInt → x.toInt ≤ p.2 → (g p).1 ≤ (f x).toInt ∧ (f x).toInt ≤ (g p).2
theorem ei_i1_ok {f : Int32 → Int32} {g : Int × Int → Int × Int} (hf : en_i1ok f g) (hR : en_R tb X W w0 ρ E S lv st lv' st' (lay, m)) (h : ei_i1 g lv st S E k = true) : en_ok tb X W w0 lay (sm_p lv' m (sm_i1 (fun x => .int (f x)) st')) k := by
  cases st with
  | nil => cases h
  | cons a r =>
    obtain ⟨v, r', e, ga, hs⟩ := en_gs_cons hR.2.2.2.2.1
    subst e
    replace h := en_bif0 h; obtain ⟨h1, h⟩ := h
    obtain ⟨x, rfl, gx⟩ := en_isI_of h1 ga
    have i := en_ivx hR.1 gx
    exact ei_fresh (x := f x) (s := r) (s' := r') rfl hR hs (hf _ x i.1 i.2) h
noncomputable def en_gneg (p : Int × Int) : Int × Int := en_cap (-p.2, -p.1)
theorem en_gneg_ok : en_i1ok (fun x => -x) en_gneg := by
  intro p x h1 h2
  refine en_cap_of en_crange (fun ⟨c1, c2⟩ => ?_)
  simp only at c1 c2 ⊢
  rw [Int32.toInt_neg, en_bmod (r := -x.toInt) (by omega) (by omega) (Or.inl rfl)]
  omega
def en_gbyte (_ : Int × Int) : Int × Int := (-128, 127)
theorem en_byte (x : Int32) : -128 ≤ x.toInt8.toInt32.toInt ∧ x.toInt8.toInt32.toInt ≤ 127 := by
  have h1 := Int8.le_toInt x.toInt8
  have h2 := Int8.toInt_lt x.toInt8
  rw [Int8.toInt_toInt32]
  have e : (2 : Int) ^ 7 = 128 := by decide
  rw [e] at h1 h2
  omega
theorem en_gbyte_ok : en_i1ok (fun x => x.toInt8.toInt32) en_gbyte := fun _ x _ _ => en_byte x
noncomputable def ei_i2l (lv : en_L) (st : List en_V) (S : en_S) (E : en_E) (k : en_K1) : Bool := match st with
  | a :: r => bif en_isI a.1 then k lv ((5, 0) :: r) S E else false
  | _ => false
theorem ei_i2l_ok (hR : en_R tb X W w0 ρ E S lv st lv' st' (lay, m)) (h : ei_i2l lv st S E k = true) : en_ok tb X W w0 lay (sm_p lv' m (sm_i1 (fun x => .long x.toInt64) st')) k := by
  cases st with
  | nil => cases h
  | cons a r =>
    obtain ⟨v, r', e, ga, hs⟩ := en_gs_cons hR.2.2.2.2.1
    subst e
    replace h := en_bif0 h; obtain ⟨h1, h⟩ := h
    obtain ⟨x, rfl, gx⟩ := en_isI_of h1 ga
    exact en_okp (s' := .long x.toInt64 :: r') (s := (5, 0) :: r) rfl hR ⟨rfl, hs⟩ h
noncomputable def ei_l2i (lv : en_L) (st : List en_V) (S : en_S) (E : en_E) (k : en_K1) : Bool := match st with
  | a :: r => bif Nat.beq a.1 5 then en_new E en_full (fun E v => k lv (v :: r) S E) else false
  | _ => false
theorem ei_l2i_ok (hR : en_R tb X W w0 ρ E S lv st lv' st' (lay, m)) (h : ei_l2i lv st S E k = true) : en_ok tb X W w0 lay (sm_p lv' m (sm_l1 (fun x => .int x.toInt32) st')) k := by
  cases st with
  | nil => cases h
  | cons a r =>
    obtain ⟨v, r', e, ga, hs⟩ := en_gs_cons hR.2.2.2.2.1
    subst e
    replace h := en_bif0 h; obtain ⟨h1, h⟩ := h
    obtain ⟨x, rfl⟩ := en_long_of (en_beq h1) ga
    exact ei_fresh (x := x.toInt32) (s := r) (s' := r') rfl hR hs en_crange h
noncomputable def ei_ll (lv : en_L) (st : List en_V) (S : en_S) (E : en_E) (k : en_K1) : Bool := match st with
  | b :: a :: r => bif Nat.beq a.1 5 && Nat.beq b.1 5 then k lv ((5, 0) :: r) S E else false
  | _ => false
theorem ei_ll_ok {f : Int64 → Int64 → Int64} (hR : en_R tb X W w0 ρ E S lv st lv' st' (lay, m)) (h : ei_ll lv st S E k = true) : en_ok tb X W w0 lay (sm_p lv' m (sm_ll f st')) k := by
  revert hR h
  refine en_two (P := fun st => en_R tb X W w0 ρ E S lv st lv' st' (lay, m) → ei_ll lv st S E k = true → _) (fun _ h => by cases h) (fun _ _ h => by cases h) (fun b a r hR h => ?_) st
  obtain ⟨u, r1, e, gb, hs⟩ := en_gs_cons hR.2.2.2.2.1
  subst e
  replace hs := en_gs_cons hs; obtain ⟨v, r2, rfl, ga, hs⟩ := hs
  replace h := en_bif0 h; obtain ⟨h1, h⟩ := h
  obtain ⟨h1, h2⟩ := en_and2 h1
  obtain ⟨x, rfl⟩ := en_long_of (en_beq h1) ga
  obtain ⟨y, rfl⟩ := en_long_of (en_beq h2) gb
  exact en_okp (s' := .long (f x y) :: r2) (s := (5, 0) :: r) rfl hR ⟨rfl, hs⟩ h
noncomputable def ei_lc (lv : en_L) (st : List en_V) (S : en_S) (E : en_E) (k : en_K1) : Bool := match st with
  | b :: a :: r => bif Nat.beq a.1 5 && Nat.beq b.1 5 then en_new E (-1, 1) (fun E v => k lv (v :: r) S E) else false
  | _ => false
theorem ei_lc_ok (hR : en_R tb X W w0 ρ E S lv st lv' st' (lay, m)) (h : ei_lc lv st S E k = true) : en_ok tb X W w0 lay (sm_p lv' m (sm_lc st')) k := by
  revert hR h
  refine en_two (P := fun st => en_R tb X W w0 ρ E S lv st lv' st' (lay, m) → ei_lc lv st S E k = true → _) (fun _ h => by cases h) (fun _ _ h => by cases h) (fun b a r hR h => ?_) st
  obtain ⟨u, r1, e, gb, hs⟩ := en_gs_cons hR.2.2.2.2.1
  subst e
  replace hs := en_gs_cons hs; obtain ⟨v, r2, rfl, ga, hs⟩ := hs
  replace h := en_bif0 h; obtain ⟨h1, h⟩ := h
  obtain ⟨h1, h2⟩ := en_and2 h1
  obtain ⟨x, rfl⟩ := en_long_of (en_beq h1) ga
  obtain ⟨y, rfl⟩ := en_long_of (en_beq h2) gb
  refine ei_fresh (x := lg_cmp x y) (s := r) (s' := r2) rfl hR hs ?_ h
  unfold lg_cmp
  split
  · decide
  · split
    · decide
    · decide
noncomputable def ei_li (lv : en_L) (st : List en_V) (S : en_S) (E : en_E) (k : en_K1) : Bool := match st with
  | b :: a :: r => bif Nat.beq a.1 5 && en_isI b.1 then k lv ((5, 0) :: r) S E else false
  | _ => false
theorem ei_li_ok {f : Int64 → Int32 → Int64} (hR : en_R tb X W w0 ρ E S lv st lv' st' (lay, m)) (h : ei_li lv st S E k = true) : en_ok tb X W w0 lay (sm_p lv' m (sm_li f st')) k := by
  revert hR h
  refine en_two (P := fun st => en_R tb X W w0 ρ E S lv st lv' st' (lay, m) → ei_li lv st S E k = true → _) (fun _ h => by cases h) (fun _ _ h => by cases h) (fun b a r hR h => ?_) st
  obtain ⟨u, r1, e, gb, hs⟩ := en_gs_cons hR.2.2.2.2.1
  subst e
  replace hs := en_gs_cons hs; obtain ⟨v, r2, rfl, ga, hs⟩ := hs
  replace h := en_bif0 h; obtain ⟨h1, h⟩ := h
  obtain ⟨h1, h2⟩ := en_and2 h1
  obtain ⟨x, rfl⟩ := en_long_of (en_beq h1) ga
  obtain ⟨y, rfl, -⟩ := en_isI_of h2 gb
  exact en_okp (s' := .long (f x y) :: r2) (s := (5, 0) :: r) rfl hR ⟨rfl, hs⟩ h
def en_c1 (a : en_V) : Bool := Nat.beq (en_cat a) 1
noncomputable def ei_dup (lv : en_L) (st : List en_V) (S : en_S) (E : en_E) (k : en_K1) : Bool := match st with
  | a :: r => bif en_c1 a then k lv (a :: a :: r) S E else false
  | _ => false
theorem ei_dup_ok (hR : en_R tb X W w0 ρ E S lv st lv' st' (lay, m)) (h : ei_dup lv st S E k = true) : en_ok tb X W w0 lay (sm_p lv' m (sm_dup st')) k := by
  cases st with
  | nil => cases h
  | cons a r =>
    obtain ⟨v, r', e, g, hs⟩ := en_gs_cons hR.2.2.2.2.1
    subst e
    replace h := en_bif0 h; obtain ⟨h1, h⟩ := h
    exact en_okp (s' := v :: v :: r') (s := a :: a :: r) (by simp only [sm_dup]; rw [if_pos (by rw [en_cat_of g]; exact en_beq h1)]) hR ⟨g, g, hs⟩ h
noncomputable def ei_pop (lv : en_L) (st : List en_V) (S : en_S) (E : en_E) (k : en_K1) : Bool := match st with
  | a :: r => bif en_c1 a then k lv r S E else false
  | _ => false
theorem ei_pop_ok (hR : en_R tb X W w0 ρ E S lv st lv' st' (lay, m)) (h : ei_pop lv st S E k = true) : en_ok tb X W w0 lay (sm_p lv' m (sm_pop st')) k := by
  cases st with
  | nil => cases h
  | cons a r =>
    obtain ⟨v, r', e, g, hs⟩ := en_gs_cons hR.2.2.2.2.1
    subst e
    replace h := en_bif0 h; obtain ⟨h1, h⟩ := h
    exact en_okp (s' := r') (s := r) (by simp only [sm_pop]; rw [if_pos (by rw [en_cat_of g]; exact en_beq h1)]) hR hs h
noncomputable def ei_dupx1 (lv : en_L) (st : List en_V) (S : en_S) (E : en_E) (k : en_K1) : Bool := match st with
  | a :: b :: r => bif en_c1 a && en_c1 b then k lv (a :: b :: a :: r) S E else false
  | _ => false
theorem ei_dupx1_ok (hR : en_R tb X W w0 ρ E S lv st lv' st' (lay, m)) (h : ei_dupx1 lv st S E k = true) : en_ok tb X W w0 lay (sm_p lv' m (sm_dupx1 st')) k := by
  revert hR h
  refine en_two (P := fun st => en_R tb X W w0 ρ E S lv st lv' st' (lay, m) → ei_dupx1 lv st S E k = true → _) (fun _ h => by cases h) (fun _ _ h => by cases h) (fun a b r hR h => ?_) st
  obtain ⟨u, r1, e, ga, hs⟩ := en_gs_cons hR.2.2.2.2.1
  subst e
  replace hs := en_gs_cons hs; obtain ⟨v, r2, rfl, gb, hs⟩ := hs
  replace h := en_bif0 h; obtain ⟨h1, h⟩ := h
  obtain ⟨h1, h2⟩ := en_and2 h1
  exact en_okp (s' := u :: v :: u :: r2) (s := a :: b :: a :: r) (by simp only [sm_dupx1]; rw [if_pos ⟨by rw [en_cat_of ga]; exact en_beq h1, by rw [en_cat_of gb]; exact en_beq h2⟩]) hR ⟨ga, gb, ga, hs⟩ h
noncomputable def ei_dup2 (lv : en_L) (st : List en_V) (S : en_S) (E : en_E) (k : en_K1) : Bool := match st with
  | a :: b :: r => bif en_c1 a && en_c1 b then k lv (a :: b :: a :: b :: r) S E else false
  | _ => false
theorem ei_dup2_ok (hR : en_R tb X W w0 ρ E S lv st lv' st' (lay, m)) (h : ei_dup2 lv st S E k = true) : en_ok tb X W w0 lay (sm_p lv' m (sm_dup2 st')) k := by
  revert hR h
  refine en_two (P := fun st => en_R tb X W w0 ρ E S lv st lv' st' (lay, m) → ei_dup2 lv st S E k = true → _) (fun _ h => by cases h) (fun _ _ h => by cases h) (fun a b r hR h => ?_) st
  obtain ⟨u, r1, e, ga, hs⟩ := en_gs_cons hR.2.2.2.2.1
  subst e
  replace hs := en_gs_cons hs; obtain ⟨v, r2, rfl, gb, hs⟩ := hs
  replace h := en_bif0 h; obtain ⟨h1, h⟩ := h
  obtain ⟨h1, h2⟩ := en_and2 h1
  exact en_okp (s' := u :: v :: u :: v :: r2) (s := a :: b :: a :: b :: r) (by simp only [sm_dup2]; rw [if_pos ⟨by rw [en_cat_of ga]; exact en_beq h1, by rw [en_cat_of gb]; exact en_beq h2⟩]) hR ⟨ga, gb, ga, gb, hs⟩ h
/-! cells -/
/-- a reference that is a number -/
noncomputable def en_rf (a : en_V) (c : Nat → Bool) : Bool := bif Nat.beq a.1 2 && en_le 0 a.2 then c a.2.toNat else false
theorem en_rf_ok {a : en_V} {v : Value} {c : Nat → Bool} (h : en_rf a c = true) (hg : en_g ρ a v) : ∃ p : Nat, v = .ref p ∧ c p = true := by
  obtain ⟨h1, h2⟩ := en_bif0 h
  obtain ⟨h1, h3⟩ := en_and2 h1
  obtain ⟨p, rfl, e⟩ := en_ref_of (en_beq h1) hg
  refine ⟨p, rfl, ?_⟩
  rw [e] at h2
  exact h2
/-- an index within n -/
noncomputable def en_ix (E : en_E) (a : en_V) (n : Nat) : Bool := en_isI a.1 && (en_le 0 (en_iv E a).1 && en_le ((en_iv E a).2 + 1) n)
theorem en_ix_ok {a : en_V} {v : Value} {n : Nat} (h : en_ix E a n = true) (hE : en_sat ρ E) (hg : en_g ρ a v) : ∃ x : Int32, v = .int x ∧ ¬ (x < 0 ∨ n ≤ x.toNatClampNeg) ∧ x.toNatClampNeg < n ∧ en_gi ρ a (x.toNatClampNeg : Nat) := by
  obtain ⟨h1, h2⟩ := en_and2 h
  obtain ⟨h2, h3⟩ := en_and2 h2
  have h2 := en_le_iff.mp h2
  have h3 := en_le_iff.mp h3
  obtain ⟨x, rfl, gx⟩ := en_isI_of h1 hg
  have i := en_ivx hE gx
  have e0 : (0 : Int32).toInt = 0 := by decide
  have ex : ((x.toNatClampNeg : Nat) : Int) = x.toInt := by
    show ((x.toInt.toNat : Nat) : Int) = x.toInt
    omega
  refine ⟨x, rfl, ?_, by omega, by rw [ex]; exact gx⟩
  rintro (c | c)
  · rw [Int32.lt_iff_toInt_lt, e0] at c; omega
  · omega
/-- an int of a cell is read: the symbol that it has, or a new one -/
noncomputable def en_rd (p : Nat) (i : en_V) (q : Int × Int) (lv : en_L) (st : List en_V) (S : en_S) (E : en_E) (k : en_K1) : Bool := match en_find S 0 p i with
  | some v => k lv (v :: st) S E
  | none => en_new E q (fun E v => k lv (v :: st) ((0, p, i, v) :: S) E)
theorem en_rd_ok {p n : Nat} {i : en_V} {q : Int × Int} {s : List en_V} {s' : List Value} {o : Option (List Value)} (hR : en_R tb X W w0 ρ E S lv st lv' st' (lay, m)) (hs : en_gs ρ s s') (hi : en_gi ρ i n) (hq : q.1 ≤ (m.1 p n).toInt ∧ (m.1 p n).toInt ≤ q.2) (e : o = some (.int (m.1 p n) :: s')) (h : en_rd p i q lv s S E k = true) : en_ok tb X W w0 lay (sm_p lv' m o) k := by
  unfold en_rd at h
  split at h
  · next v e1 =>
    have h1 := hR.2.2.1 _ (en_find_ok e1)
    obtain ⟨n', g1, g2⟩ := h1.1 rfl
    have en : (n' : Int) = n := en_gi_inj g1 hi
    have en : n' = n := by omega
    subst en
    exact en_okp (s := v :: s) e hR ⟨g2, hs⟩ h
  · obtain ⟨E', r, g1, g2, g3⟩ := en_new_ok hR.1 h (m.1 p n).toInt hq
    have hR' := en_R_app [(m.1 p n).toInt] g1 hR
    refine ⟨(lv', .int (m.1 p n) :: s', m), by rw [e]; rfl, _, E', (0, p, i, r) :: S, lv, r :: s, ⟨hR'.1, hR'.2.1, ?_, hR'.2.2.2.1, ⟨g2, en_gs_app' _ hs⟩, hR'.2.2.2.2.2⟩, g3⟩
    intro e' he
    rcases List.mem_cons.mp he with rfl | he
    · exact ⟨fun _ => ⟨n, en_gi_app _ hi, g2⟩, fun c => (by cases c)⟩
    · exact hR'.2.2.1 e' he
/-! the rows that stand from the beginning -/
def en_all (l : List Int32) (q : Int × Int) : Bool := l.all (fun x => decide (q.1 ≤ x.toInt) && decide (x.toInt ≤ q.2))
theorem en_all_ok {l : List Int32} {q : Int × Int} (h : en_all l q = true) {j : Nat} (hj : j < l.length) : q.1 ≤ (l.getD j 0).toInt ∧ (l.getD j 0).toInt ≤ q.2 := by
  have h1 := List.all_eq_true.mp h (l.getD j 0) (by rw [List.getD_eq_getElem?_getD, List.getElem?_eq_getElem hj]; exact List.getElem_mem hj)
  obtain ⟨h2, h3⟩ := en_and2 h1
  exact ⟨of_decide_eq_true h2, of_decide_eq_true h3⟩
def en_stat (p : Nat) : Option (Nat × Int × Int) := bif Nat.beq p 1001 then some (sm_steps.length, 0, 30) else bif Nat.beq p 1002 then some (sm_room.length, 0, 12) else bif Nat.beq p 1003 then some (sm_withyes.length, -2147483648, 2147483647) else none
theorem en_stat_ok {Sc : sm_C} {p n : Nat} {a b : Int} (h : en_stat p = some (n, a, b)) : 1000 ≤ p ∧ ∃ f, sm_sI Sc p = some (n, f) ∧ ∀ j, j < n → a ≤ (f j).toInt ∧ (f j).toInt ≤ b := by
  unfold en_stat at h
  cases e1 : Nat.beq p 1001 with
  | true =>
    rw [e1] at h
    cases h
    have := en_beq e1
    subst this
    exact ⟨by decide, _, rfl, fun j hj => en_all_ok (q := (0, 30)) (by decide) hj⟩
  | false =>
    rw [e1] at h
    cases e2 : Nat.beq p 1002 with
    | true =>
      rw [e2] at h
      cases h
      have := en_beq e2
      subst this
      exact ⟨by decide, _, rfl, fun j hj => en_all_ok (q := (0, 12)) (by decide) hj⟩
    | false =>
      rw [e2] at h
      cases e3 : Nat.beq p 1003 with
      | true =>
        rw [e3] at h
        cases h
        have := en_beq e3
        subst this
        exact ⟨by decide, _, rfl, fun j hj => en_all_ok (q := (-2147483648, 2147483647)) (by decide) hj⟩
      | false => rw [e3] at h; cases h
theorem en_none {p : Nat} (hm : en_mem tb X (lay, m)) (h : 1000 ≤ p) : lay[p]? = none := by
  have h2 : lay.length ≤ 1000 := hm.2.2.2.1
  exact List.getElem?_eq_none (by omega)
noncomputable def ei_gI1 (tb : en_Tb) (lv : en_L) (r : List en_V) (S : en_S) (E : en_E) (k : en_K1) (i : en_V) (p : Nat) : Bool := match en_cell tb p with
  | some d => bif Nat.beq d.1 1 && en_ix E i d.2.1 then (match en_fiv d.2.2[0]? with
    | some q => en_rd p i q lv r S E k
    | none => false) else false
  | none => match en_stat p with
    | some q => bif en_ix E i q.1 then en_new E q.2 (fun E v => k lv (v :: r) S E) else false
    | none => false
noncomputable def ei_gI (tb : en_Tb) (lv : en_L) (st : List en_V) (S : en_S) (E : en_E) (k : en_K1) : Bool := match st with
  | i :: b :: r => en_rf b (ei_gI1 tb lv r S E k i)
  | _ => false
theorem en_intA {p : Nat} {d : en_D} {q : Int × Int} {j : Nat} (hd : en_cell tb p = some d) (h0 : ¬ d.1 = 0) (hj : j < d.2.1) (hq : en_fiv d.2.2[0]? = some q) : en_int tb p j = some q := by
  unfold en_int
  rw [hd]
  dsimp only
  have e1 : Nat.beq d.1 0 = false := by
    cases e : Nat.beq d.1 0 with
    | false => rfl
    | true => exact absurd (en_beq e) h0
  have e2 : Nat.blt j d.2.1 = true := Nat.ble_eq_true_of_le hj
  rw [e1, e2]
  exact hq
theorem ei_gI_ok {Sc : sm_C} (hR : en_R tb X W w0 ρ E S lv st lv' st' (lay, m)) (h : ei_gI tb lv st S E k = true) : en_ok tb X W w0 lay (sm_p lv' m (sm_gI Sc lay m st')) k := by
  revert hR h
  refine en_two (P := fun st => en_R tb X W w0 ρ E S lv st lv' st' (lay, m) → ei_gI tb lv st S E k = true → _) (fun _ h => by cases h) (fun _ _ h => by cases h) (fun i b r hR h => ?_) st
  obtain ⟨u, r1, e, gi, hs⟩ := en_gs_cons hR.2.2.2.2.1
  subst e
  replace hs := en_gs_cons hs; obtain ⟨v, r2, rfl, gb, hs⟩ := hs
  replace h := en_rf_ok (ρ := ρ) h gb; obtain ⟨p, rfl, h⟩ := h
  unfold ei_gI1 at h
  split at h
  · next d hd =>
    replace h := en_bif0 h; obtain ⟨h1, h⟩ := h
    obtain ⟨h1, h2⟩ := en_and2 h1
    have h1 := en_beq h1
    obtain ⟨x, rfl, hx, hx2, gx⟩ := en_ix_ok h2 hR.1 gi
    split at h
    · next q hq =>
      have hm := hR.2.1
      have c1 : lay[p]? = some (d.1, d.2.1) := hm.1 p d hd
      rw [h1] at c1
      refine en_rd_ok hR hs gx (hm.2.1 p _ q (en_intA hd (by omega) hx2 hq)) ?_ h
      simp only [sm_gI, c1]
      rw [if_neg hx]
    · cases h
  · split at h
    · next q hq =>
      replace h := en_bif0 h; obtain ⟨h1, h⟩ := h
      obtain ⟨x, rfl, hx, hx2, gx⟩ := en_ix_ok h1 hR.1 gi
      obtain ⟨hp, f, e1, e2⟩ := en_stat_ok (Sc := Sc) (n := q.1) (a := q.2.1) (b := q.2.2) hq
      refine ei_fresh (x := f x.toNatClampNeg) (s := r) (s' := r2) ?_ hR hs (e2 _ hx2) h
      simp only [sm_gI, en_none hR.2.1 hp, e1]
      rw [if_neg hx]
    · cases h
noncomputable def ei_gB1 (tb : en_Tb) (lv : en_L) (r : List en_V) (S : en_S) (E : en_E) (k : en_K1) (i : en_V) (p : Nat) : Bool := match en_cell tb p with
  | some d => bif (Nat.beq d.1 2 || Nat.beq d.1 3) && en_ix E i d.2.1 then (match en_fiv d.2.2[0]? with
    | some q => en_rd p i q lv r S E k
    | none => false) else false
  | none => false
noncomputable def ei_gB (tb : en_Tb) (lv : en_L) (st : List en_V) (S : en_S) (E : en_E) (k : en_K1) : Bool := match st with
  | i :: b :: r => en_rf b (ei_gB1 tb lv r S E k i)
  | _ => false
theorem ei_gB_ok (hR : en_R tb X W w0 ρ E S lv st lv' st' (lay, m)) (h : ei_gB tb lv st S E k = true) : en_ok tb X W w0 lay (sm_p lv' m (sm_gB lay m st')) k := by
  revert hR h
  refine en_two (P := fun st => en_R tb X W w0 ρ E S lv st lv' st' (lay, m) → ei_gB tb lv st S E k = true → _) (fun _ h => by cases h) (fun _ _ h => by cases h) (fun i b r hR h => ?_) st
  obtain ⟨u, r1, e, gi, hs⟩ := en_gs_cons hR.2.2.2.2.1
  subst e
  replace hs := en_gs_cons hs; obtain ⟨v, r2, rfl, gb, hs⟩ := hs
  replace h := en_rf_ok (ρ := ρ) h gb; obtain ⟨p, rfl, h⟩ := h
  unfold ei_gB1 at h
  split at h
  · next d hd =>
    replace h := en_bif0 h; obtain ⟨h1, h⟩ := h
    obtain ⟨h1, h2⟩ := en_and2 h1
    obtain ⟨x, rfl, hx, hx2, gx⟩ := en_ix_ok h2 hR.1 gi
    split at h
    · next q hq =>
      have hm := hR.2.1
      have c1 : lay[p]? = some (d.1, d.2.1) := hm.1 p d hd
      rcases Bool.or_eq_true_iff.mp h1 with h1 | h1
      · have h1 := en_beq h1
        rw [h1] at c1
        refine en_rd_ok hR hs gx (hm.2.1 p _ q (en_intA hd (by omega) hx2 hq)) ?_ h
        simp only [sm_gB, c1]
        rw [if_neg hx]
      · have h1 := en_beq h1
        rw [h1] at c1
        refine en_rd_ok hR hs gx (hm.2.1 p _ q (en_intA hd (by omega) hx2 hq)) ?_ h
        simp only [sm_gB, c1]
        rw [if_neg hx]
    · cases h
  · cases h
noncomputable def ei_gL1 (tb : en_Tb) (lv : en_L) (r : List en_V) (S : en_S) (E : en_E) (k : en_K1) (i : en_V) (p : Nat) : Bool := match en_cell tb p with
  | some d => bif Nat.beq d.1 4 && en_ix E i d.2.1 then k lv ((5, 0) :: r) S E else false
  | none => bif Nat.beq p 1000 && en_ix E i sm_words.length then k lv ((5, 0) :: r) S E else false
noncomputable def ei_gL (tb : en_Tb) (lv : en_L) (st : List en_V) (S : en_S) (E : en_E) (k : en_K1) : Bool := match st with
  | i :: b :: r => en_rf b (ei_gL1 tb lv r S E k i)
  | _ => false
set_option maxRecDepth 20000 in
theorem ei_gL_ok (hR : en_R tb X W w0 ρ E S lv st lv' st' (lay, m)) (h : ei_gL tb lv st S E k = true) : en_ok tb X W w0 lay (sm_p lv' m (sm_gL lay m st')) k := by
  revert hR h
  refine en_two (P := fun st => en_R tb X W w0 ρ E S lv st lv' st' (lay, m) → ei_gL tb lv st S E k = true → _) (fun _ h => by cases h) (fun _ _ h => by cases h) (fun i b r hR h => ?_) st
  obtain ⟨u, r1, e, gi, hs⟩ := en_gs_cons hR.2.2.2.2.1
  subst e
  replace hs := en_gs_cons hs; obtain ⟨v, r2, rfl, gb, hs⟩ := hs
  replace h := en_rf_ok (ρ := ρ) h gb; obtain ⟨p, rfl, h⟩ := h
  unfold ei_gL1 at h
  split at h
  · next d hd =>
    replace h := en_bif0 h; obtain ⟨h1, h⟩ := h
    obtain ⟨h1, h2⟩ := en_and2 h1
    have h1 := en_beq h1
    obtain ⟨x, rfl, hx, hx2, gx⟩ := en_ix_ok h2 hR.1 gi
    have c1 : lay[p]? = some (d.1, d.2.1) := hR.2.1.1 p d hd
    rw [h1] at c1
    refine en_okp (s' := .long (m.2.1 p x.toNatClampNeg) :: r2) (s := (5, 0) :: r) ?_ hR ⟨rfl, hs⟩ h
    simp only [sm_gL, c1]
    rw [if_neg hx]
  · replace h := en_bif0 h; obtain ⟨h1, h⟩ := h
    obtain ⟨h1, h2⟩ := en_and2 h1
    have h1 := en_beq h1
    obtain ⟨x, rfl, hx, hx2, gx⟩ := en_ix_ok h2 hR.1 gi
    subst h1
    refine en_okp (s' := .long (sm_words.getD x.toNatClampNeg 0) :: r2) (s := (5, 0) :: r) ?_ hR ⟨rfl, hs⟩ h
    simp only [sm_gL, en_none hR.2.1 (Nat.le_refl 1000), sm_sL]
    rw [if_neg hx]
noncomputable def ei_len1 (tb : en_Tb) (lv : en_L) (r : List en_V) (S : en_S) (E : en_E) (k : en_K1) (p : Nat) : Bool := match en_cell tb p with
  | some d => bif Nat.ble 1 d.1 && Nat.ble d.1 4 then k lv ((0, (Int32.ofNat d.2.1).toInt) :: r) S E else false
  | none => bif Nat.beq p 1000 then k lv ((0, (Int32.ofNat sm_words.length).toInt) :: r) S E else match en_stat p with
    | some q => k lv ((0, (Int32.ofNat q.1).toInt) :: r) S E
    | none => false
noncomputable def ei_len (tb : en_Tb) (lv : en_L) (st : List en_V) (S : en_S) (E : en_E) (k : en_K1) : Bool := match st with
  | b :: r => en_rf b (ei_len1 tb lv r S E k)
  | _ => false
theorem ei_len_ok {Sc : sm_C} (hR : en_R tb X W w0 ρ E S lv st lv' st' (lay, m)) (h : ei_len tb lv st S E k = true) : en_ok tb X W w0 lay (sm_p lv' m (sm_len Sc lay st')) k := by
  cases st with
  | nil => cases h
  | cons b r =>
    obtain ⟨v, r2, e, gb, hs⟩ := en_gs_cons hR.2.2.2.2.1
    subst e
    replace h := en_rf_ok (ρ := ρ) h gb; obtain ⟨p, rfl, h⟩ := h
    unfold ei_len1 at h
    split at h
    · next d hd =>
      replace h := en_bif0 h; obtain ⟨h1, h⟩ := h
      obtain ⟨h1, h2⟩ := en_and2 h1
      have h1 := en_ble h1
      have h2 := en_ble h2
      have c1 : lay[p]? = some (d.1, d.2.1) := hR.2.1.1 p d hd
      refine en_okp (s' := .int (Int32.ofNat d.2.1) :: r2) (s := (0, (Int32.ofNat d.2.1).toInt) :: r) ?_ hR ⟨en_gi0 _, hs⟩ h
      obtain ⟨kd, n, fs⟩ := d
      cases kd with
      | zero => simp only at h1; omega
      | succ kd =>
        simp only at h2 c1
        simp only [sm_len, c1]
        rw [if_pos (by omega)]
    · rcases en_bif h with ⟨hp, h⟩ | ⟨-, h⟩
      · have hp := en_beq hp
        subst hp
        refine en_okp (s' := .int (Int32.ofNat sm_words.length) :: r2) (s := (0, (Int32.ofNat sm_words.length).toInt) :: r) ?_ hR ⟨en_gi0 _, hs⟩ h
        simp only [sm_len, en_none hR.2.1 (Nat.le_refl 1000), sm_sL, sm_sI]
      · split at h
        · next q hq =>
          obtain ⟨hp, f, e1, -⟩ := en_stat_ok (Sc := Sc) (n := q.1) (a := q.2.1) (b := q.2.2) hq
          refine en_okp (s' := .int (Int32.ofNat q.1) :: r2) (s := (0, (Int32.ofNat q.1).toInt) :: r) ?_ hR ⟨en_gi0 _, hs⟩ h
          simp only [sm_len, en_none hR.2.1 hp, e1]
        · cases h
end EnI2
end
section
/-! stores, fields, one instruction -/
section EnI3
variable {tb : en_Tb} {X : sm_W → Prop} {W : en_W} {w0 : en_A} {ρ : List Int} {E : en_E} {S : en_S} {lv : en_L} {st : List en_V} {lv' : sm_V} {st' : List Value} {lay : List (Nat × Nat)} {m : sm_Y} {k : en_K1}
theorem en_wall_ok {p : Nat} (h : en_wall W p = true) (j : Nat) : en_wok W p j = true := by
  obtain ⟨q, h1, h2⟩ := List.any_eq_true.mp h
  refine List.any_eq_true.mpr ⟨q, h1, ?_⟩
  obtain ⟨h3, h4⟩ := en_and2 h2
  refine Bool.and_eq_true_iff.mpr ⟨h3, ?_⟩
  split at h4
  · rfl
  · cases h4
noncomputable def ei_pI1 (tb : en_Tb) (W : en_W) (lv : en_L) (r : List en_V) (S : en_S) (E : en_E) (k : en_K1) (a : en_V) (i : en_V) (p : Nat) : Bool := match en_cell tb p with
  | some d => bif (Nat.beq d.1 1 && en_ix E i d.2.1) && (en_isI a.1 && (en_wall W p && !(en_fixc tb p))) then (match en_fiv d.2.2[0]? with
    | some q => bif en_sub (en_iv E a) q then k lv r ((0, p, i, a) :: S.filter (en_keepI p i)) E else false
    | none => false) else false
  | none => false
noncomputable def ei_pI (tb : en_Tb) (W : en_W) (lv : en_L) (st : List en_V) (S : en_S) (E : en_E) (k : en_K1) : Bool := match st with
  | a :: i :: b :: r => en_rf b (ei_pI1 tb W lv r S E k a i)
  | _ => false
theorem ei_pI_ok (hX : en_Xok tb X) (hR : en_R tb X W w0 ρ E S lv st lv' st' (lay, m)) (h : ei_pI tb W lv st S E k = true) : en_ok tb X W w0 lay (sm_pI lv' lay m st') k := by
  revert hR h
  refine en_three (P := fun st => en_R tb X W w0 ρ E S lv st lv' st' (lay, m) → ei_pI tb W lv st S E k = true → _) (fun _ h => by cases h) (fun _ _ h => by cases h) (fun _ _ _ h => by cases h) (fun a i b r hR h => ?_) st
  obtain ⟨y, r0, e, ga, hs⟩ := en_gs_cons hR.2.2.2.2.1
  subst e
  replace hs := en_gs_cons hs; obtain ⟨u, r1, rfl, gi, hs⟩ := hs
  replace hs := en_gs_cons hs; obtain ⟨v, r2, rfl, gb, hs⟩ := hs
  replace h := en_rf_ok (ρ := ρ) h gb; obtain ⟨p, rfl, h⟩ := h
  unfold ei_pI1 at h
  split at h
  · next d hd =>
    replace h := en_bif0 h; obtain ⟨h1, h⟩ := h
    obtain ⟨h1, h4⟩ := en_and2 h1
    obtain ⟨h1, h2⟩ := en_and2 h1
    obtain ⟨h4, h5⟩ := en_and2 h4
    obtain ⟨h5, h9⟩ := en_and2 h5
    have h9 : en_fixc tb p = false := by
      cases e : en_fixc tb p with
      | false => rfl
      | true => rw [e] at h9; cases h9
    have h1 := en_beq h1
    obtain ⟨x, rfl, hx, hx2, gx⟩ := en_ix_ok h2 hR.1 gi
    obtain ⟨z, rfl, gz⟩ := en_isI_of h4 ga
    split at h
    · next q hq =>
      replace h := en_bif0 h; obtain ⟨h6, h⟩ := h
      have c1 : lay[p]? = some (d.1, d.2.1) := hR.2.1.1 p d hd
      rw [h1] at c1
      obtain ⟨k1, k2, k3⟩ := en_wrI hX (W := W) (w0 := w0.1) (S := S) hR.1 hR.2.1 hR.2.2.1 hR.2.2.2.2.2.1 gx gz (en_intA hd (by omega) hx2 hq) h6 (en_wall_ok h5 _) (en_fixc_ok h9 _)
      exact ⟨(lv', r2, (sm_up m.1 p x.toNatClampNeg z, m.2)), by simp only [sm_pI, c1]; rw [if_neg hx], ρ, E, _, lv, r, ⟨hR.1, k1, k2, hR.2.2.2.1, hs, k3, hR.2.2.2.2.2.2⟩, h⟩
    · cases h
  · cases h
noncomputable def ei_pB1 (tb : en_Tb) (W : en_W) (lv : en_L) (r : List en_V) (S : en_S) (E : en_E) (k : en_K1) (a : en_V) (i : en_V) (p : Nat) : Bool := match en_cell tb p with
  | some d => bif ((Nat.beq d.1 2 || Nat.beq d.1 3) && en_ix E i d.2.1) && (en_isI a.1 && (en_wall W p && !(en_fixc tb p))) then (match en_fiv d.2.2[0]? with
    | some q => bif en_sub (bif Nat.beq d.1 2 then (-128, 127) else (0, 1)) q then en_new E (bif Nat.beq d.1 2 then (-128, 127) else (0, 1)) (fun E v => bif en_sub (en_iv E v) q then k lv r ((0, p, i, v) :: S.filter (en_keepI p i)) E else false) else false
    | none => false) else false
  | none => false
noncomputable def ei_pB (tb : en_Tb) (W : en_W) (lv : en_L) (st : List en_V) (S : en_S) (E : en_E) (k : en_K1) : Bool := match st with
  | a :: i :: b :: r => en_rf b (ei_pB1 tb W lv r S E k a i)
  | _ => false
theorem en_narB (x : Int32) : -128 ≤ (vp_nar .byte x).toInt ∧ (vp_nar .byte x).toInt ≤ 127 := en_byte x
theorem en_narZ (x : Int32) : 0 ≤ (vp_nar .boolean x).toInt ∧ (vp_nar .boolean x).toInt ≤ 1 := by
  show 0 ≤ (x &&& 1).toInt ∧ (x &&& 1).toInt ≤ 1
  have : (x &&& 1).toBitVec.toNat ≤ 1 := by
    rw [Int32.toBitVec_and, BitVec.toNat_and]
    exact Nat.and_le_right
  exact en_bits2 this (by decide)
theorem ei_pB_ok (hX : en_Xok tb X) (hR : en_R tb X W w0 ρ E S lv st lv' st' (lay, m)) (h : ei_pB tb W lv st S E k = true) : en_ok tb X W w0 lay (sm_pB lv' lay m st') k := by
  revert hR h
  refine en_three (P := fun st => en_R tb X W w0 ρ E S lv st lv' st' (lay, m) → ei_pB tb W lv st S E k = true → _) (fun _ h => by cases h) (fun _ _ h => by cases h) (fun _ _ _ h => by cases h) (fun a i b r hR h => ?_) st
  obtain ⟨y, r0, e, ga, hs⟩ := en_gs_cons hR.2.2.2.2.1
  subst e
  replace hs := en_gs_cons hs; obtain ⟨u, r1, rfl, gi, hs⟩ := hs
  replace hs := en_gs_cons hs; obtain ⟨v, r2, rfl, gb, hs⟩ := hs
  replace h := en_rf_ok (ρ := ρ) h gb; obtain ⟨p, rfl, h⟩ := h
  unfold ei_pB1 at h
  split at h
  · next d hd =>
    replace h := en_bif0 h; obtain ⟨h1, h⟩ := h
    obtain ⟨h1, h4⟩ := en_and2 h1
    obtain ⟨h1, h2⟩ := en_and2 h1
    obtain ⟨h4, h5⟩ := en_and2 h4
    obtain ⟨h5, h9⟩ := en_and2 h5
    have h9 : en_fixc tb p = false := by
      cases e : en_fixc tb p with
      | false => rfl
      | true => rw [e] at h9; cases h9
    obtain ⟨x, rfl, hx, hx2, gx⟩ := en_ix_ok h2 hR.1 gi
    obtain ⟨z, rfl, gz⟩ := en_isI_of h4 ga
    split at h
    · next q hq =>
      replace h := en_bif0 h; obtain ⟨h6, h⟩ := h
      have c1 : lay[p]? = some (d.1, d.2.1) := hR.2.1.1 p d hd
      cases e2 : Nat.beq d.1 2 with
      | true =>
        rw [e2] at h
        have e2 := en_beq e2
        rw [e2] at c1
        obtain ⟨E', t, g1, g2, g3⟩ := en_new_ok hR.1 h (vp_nar .byte z).toInt (en_narB z)
        replace g3 := en_bif0 g3; obtain ⟨g3, g4⟩ := g3
        have hR' := en_R_app [(vp_nar .byte z).toInt] g1 hR
        obtain ⟨k1, k2, k3⟩ := en_wrI hX (W := W) (w0 := w0.1) (S := S) (x := vp_nar .byte z) g1 hR'.2.1 hR'.2.2.1 hR'.2.2.2.2.2.1 (en_gi_app _ gx) g2 (en_intA hd (by omega) hx2 hq) g3 (en_wall_ok h5 _) (en_fixc_ok h9 _)
        exact ⟨(lv', r2, (sm_up m.1 p x.toNatClampNeg (vp_nar .byte z), m.2)), by simp only [sm_pB, c1]; rw [if_neg hx], _, E', _, lv, r, ⟨g1, k1, k2, hR'.2.2.2.1, en_gs_app' _ hs, k3, hR'.2.2.2.2.2.2⟩, g4⟩
      | false =>
        rw [e2] at h
        have e3 : d.1 = 3 := by
          rcases Bool.or_eq_true_iff.mp h1 with h1 | h1
          · rw [e2] at h1; cases h1
          · exact en_beq h1
        rw [e3] at c1
        obtain ⟨E', t, g1, g2, g3⟩ := en_new_ok hR.1 h (vp_nar .boolean z).toInt (en_narZ z)
        replace g3 := en_bif0 g3; obtain ⟨g3, g4⟩ := g3
        have hR' := en_R_app [(vp_nar .boolean z).toInt] g1 hR
        obtain ⟨k1, k2, k3⟩ := en_wrI hX (W := W) (w0 := w0.1) (S := S) (x := vp_nar .boolean z) g1 hR'.2.1 hR'.2.2.1 hR'.2.2.2.2.2.1 (en_gi_app _ gx) g2 (en_intA hd (by omega) hx2 hq) g3 (en_wall_ok h5 _) (en_fixc_ok h9 _)
        exact ⟨(lv', r2, (sm_up m.1 p x.toNatClampNeg (vp_nar .boolean z), m.2)), by simp only [sm_pB, c1]; rw [if_neg hx], _, E', _, lv, r, ⟨g1, k1, k2, hR'.2.2.2.1, en_gs_app' _ hs, k3, hR'.2.2.2.2.2.2⟩, g4⟩
    · cases h
  · cases h
noncomputable def ei_pL1 (tb : en_Tb) (lv : en_L) (r : List en_V) (S : en_S) (E : en_E) (k : en_K1) (a : en_V) (i : en_V) (p : Nat) : Bool := match en_cell tb p with
  | some d => bif (Nat.beq d.1 4 && en_ix E i d.2.1) && (Nat.beq a.1 5 && !(en_fixc tb p)) then k lv r S E else false
  | none => false
noncomputable def ei_pL (tb : en_Tb) (lv : en_L) (st : List en_V) (S : en_S) (E : en_E) (k : en_K1) : Bool := match st with
  | a :: i :: b :: r => en_rf b (ei_pL1 tb lv r S E k a i)
  | _ => false
theorem ei_pL_ok (hX : en_Xok tb X) (hR : en_R tb X W w0 ρ E S lv st lv' st' (lay, m)) (h : ei_pL tb lv st S E k = true) : en_ok tb X W w0 lay (sm_pL lv' lay m st') k := by
  revert hR h
  refine en_three (P := fun st => en_R tb X W w0 ρ E S lv st lv' st' (lay, m) → ei_pL tb lv st S E k = true → _) (fun _ h => by cases h) (fun _ _ h => by cases h) (fun _ _ _ h => by cases h) (fun a i b r hR h => ?_) st
  obtain ⟨y, r0, e, ga, hs⟩ := en_gs_cons hR.2.2.2.2.1
  subst e
  replace hs := en_gs_cons hs; obtain ⟨u, r1, rfl, gi, hs⟩ := hs
  replace hs := en_gs_cons hs; obtain ⟨v, r2, rfl, gb, hs⟩ := hs
  replace h := en_rf_ok (ρ := ρ) h gb; obtain ⟨p, rfl, h⟩ := h
  unfold ei_pL1 at h
  split at h
  · next d hd =>
    replace h := en_bif0 h; obtain ⟨h1, h⟩ := h
    obtain ⟨h1, h4⟩ := en_and2 h1
    obtain ⟨h1, h2⟩ := en_and2 h1
    have h1 := en_beq h1
    obtain ⟨h4, h9⟩ := en_and2 h4
    have h9 : en_fixc tb p = false := by
      cases e : en_fixc tb p with
      | false => rfl
      | true => rw [e] at h9; cases h9
    obtain ⟨x, rfl, hx, hx2, gx⟩ := en_ix_ok h2 hR.1 gi
    obtain ⟨z, rfl⟩ := en_long_of (en_beq h4) ga
    have c1 : lay[p]? = some (d.1, d.2.1) := hR.2.1.1 p d hd
    rw [h1] at c1
    have hm := hR.2.1
    exact ⟨(lv', r2, (m.1, sm_up m.2.1 p x.toNatClampNeg z, m.2.2)), by simp only [sm_pL, c1]; rw [if_neg hx], ρ, E, S, lv, r, ⟨hR.1, ⟨hm.1, hm.2.1, hm.2.2.1, hm.2.2.2.1, hX.2.2 _ _ _ _ _ (en_fixc_ok h9 _) hm.2.2.2.2⟩, fun e he => hR.2.2.1 e he, hR.2.2.2.1, hs, hR.2.2.2.2.2⟩, h⟩
  · cases h
/-! fields -/
noncomputable def en_rdR (tb : en_Tb) (p f : Nat) (lv : en_L) (st : List en_V) (S : en_S) (E : en_E) (k : en_K1) : Bool := match en_find S 1 p (0, (f : Int)) with
  | some v => k lv (v :: st) S E
  | none => match en_refs tb p f with
    | [a] => k lv ((2, (a : Int)) :: st) S E
    | [a, b] => k lv ((2, (a : Int)) :: st) ((1, p, (0, (f : Int)), (2, (a : Int))) :: S) E && k lv ((2, (b : Int)) :: st) ((1, p, (0, (f : Int)), (2, (b : Int))) :: S) E
    | _ => false
noncomputable def ei_get1 (tb : en_Tb) (c f : Nat) (lv : en_L) (r : List en_V) (S : en_S) (E : en_E) (k : en_K1) (p : Nat) : Bool := match en_cell tb p with
  | some d => bif Nat.beq d.1 0 && Nat.beq d.2.1 c then (bif Nat.beq (sm_cd c f) 1 then en_rdR tb p f lv r S E k else match en_fiv d.2.2[f]? with
    | some q => en_rd p (0, (f : Int)) q lv r S E k
    | none => false) else false
  | none => false
noncomputable def ei_get (tb : en_Tb) (c f : Nat) (lv : en_L) (st : List en_V) (S : en_S) (E : en_E) (k : en_K1) : Bool := match st with
  | b :: r => en_rf b (ei_get1 tb c f lv r S E k)
  | _ => false
theorem en_rdR_ok {p f : Nat} {s : List en_V} {s' : List Value} {o : Option (List Value)} (hR : en_R tb X W w0 ρ E S lv st lv' st' (lay, m)) (hs : en_gs ρ s s') (e : o = some (sm_rv (m.2.2 p f) :: s')) (h : en_rdR tb p f lv s S E k = true) : en_ok tb X W w0 lay (sm_p lv' m o) k := by
  unfold en_rdR at h
  split at h
  · next v e1 =>
    have h1 := hR.2.2.1 _ (en_find_ok e1)
    obtain ⟨n, q, g1, g2, g3⟩ := h1.2 rfl
    have g1 : ((0 : Nat), (f : Int)) = (0, (n : Int)) := g1
    have g2 : v = (2, (q : Int)) := g2
    have ef : f = n := by have := (Prod.ext_iff.mp g1).2; simp only at this; omega
    subst ef
    have g3 : m.2.2 p f = some q := g3
    refine en_okp (s := v :: s) e hR ⟨?_, hs⟩ h
    rw [g3, g2]
    exact ⟨rfl, rfl⟩
  · split at h
    · next a e2 =>
      obtain ⟨r, hr1, hr2⟩ := hR.2.1.2.2.1 p f (by rw [e2]; exact List.cons_ne_nil _ _)
      rw [e2] at hr1
      have : r = a := by simpa using hr1
      subst this
      have hr2 : m.2.2 p f = some r := hr2
      refine en_okp (s := (2, (r : Int)) :: s) e hR ⟨?_, hs⟩ h
      rw [hr2]
      exact ⟨rfl, rfl⟩
    · next a b e2 =>
      obtain ⟨r, hr1, hr2⟩ := hR.2.1.2.2.1 p f (by rw [e2]; exact List.cons_ne_nil _ _)
      rw [e2] at hr1
      have hr2 : m.2.2 p f = some r := hr2
      obtain ⟨h1, h2⟩ := en_and2 h
      have key : ∀ x, r = x → k lv ((2, (x : Int)) :: s) ((1, p, (0, (f : Int)), (2, (x : Int))) :: S) E = true → en_ok tb X W w0 lay (sm_p lv' m o) k := by
        intro x ex hk
        subst ex
        refine ⟨(lv', sm_rv (m.2.2 p f) :: s', m), by rw [e]; rfl, ρ, E, (1, p, (0, (f : Int)), (2, (r : Int))) :: S, lv, (2, (r : Int)) :: s, ⟨hR.1, hR.2.1, ?_, hR.2.2.2.1, ⟨?_, hs⟩, hR.2.2.2.2.2⟩, hk⟩
        · intro e' he
          rcases List.mem_cons.mp he with rfl | he
          · exact ⟨fun c => (by cases c), fun _ => ⟨f, r, rfl, rfl, hr2⟩⟩
          · exact hR.2.2.1 e' he
        · rw [hr2]
          exact ⟨rfl, rfl⟩
      simp only [List.mem_cons, List.not_mem_nil, or_false] at hr1
      rcases hr1 with c | c
      · exact key a c h1
      · exact key b c h2
    · cases h
theorem en_intF {p f : Nat} {d : en_D} {q : Int × Int} (hd : en_cell tb p = some d) (h0 : d.1 = 0) (hq : en_fiv d.2.2[f]? = some q) : en_int tb p f = some q := by
  unfold en_int
  rw [hd]
  dsimp only
  have e1 : Nat.beq d.1 0 = true := by rw [h0]; rfl
  rw [e1]
  exact hq
theorem ei_get_ok {c f : Nat} (hR : en_R tb X W w0 ρ E S lv st lv' st' (lay, m)) (h : ei_get tb c f lv st S E k = true) : en_ok tb X W w0 lay (sm_p lv' m (sm_get lay m c f st')) k := by
  cases st with
  | nil => cases h
  | cons b r =>
    obtain ⟨v, r2, e, gb, hs⟩ := en_gs_cons hR.2.2.2.2.1
    subst e
    replace h := en_rf_ok (ρ := ρ) h gb; obtain ⟨p, rfl, h⟩ := h
    unfold ei_get1 at h
    split at h
    · next d hd =>
      replace h := en_bif0 h; obtain ⟨h1, h⟩ := h
      obtain ⟨h1, h2⟩ := en_and2 h1
      have h1 := en_beq h1
      have h2 := en_beq h2
      have c1 : lay[p]? = some (d.1, d.2.1) := hR.2.1.1 p d hd
      rw [h1, h2] at c1
      rcases en_bif h with ⟨hc, h⟩ | ⟨hc, h⟩
      · have hc := en_beq hc
        refine en_rdR_ok hR hs ?_ h
        simp only [sm_get, c1]
        rw [if_pos trivial, if_pos hc]
      · have hc := en_bne hc
        split at h
        · next q hq =>
          refine en_rd_ok (n := f) hR hs (en_gi0 _) (hR.2.1.2.1 p f q (en_intF hd h1 hq)) ?_ h
          simp only [sm_get, c1]
          rw [if_pos trivial, if_neg hc]
        · cases h
    · cases h
noncomputable def ei_put1 (tb : en_Tb) (W : en_W) (c f : Nat) (lv : en_L) (r : List en_V) (S : en_S) (E : en_E) (k : en_K1) (a : en_V) (p : Nat) : Bool := match en_cell tb p with
  | some d => bif (Nat.beq d.1 0 && Nat.beq d.2.1 c) && (en_wok W p f && !(en_fix tb p f)) then (bif Nat.beq (sm_cd c f) 1 then en_rf a (fun q => bif (en_refs tb p f).any (fun i => Nat.beq i q) then k lv r ((1, p, (0, (f : Int)), (2, (q : Int))) :: S.filter (en_keepR p f)) E else false) else match en_fiv d.2.2[f]? with
    | some q => bif (en_isI a.1 && en_sub (en_iv E a) q) && (Nat.beq (sm_cd c f) 0 || (Nat.beq (sm_cd c f) 2 && en_sub (en_iv E a) (0, 1))) then k lv r ((0, p, (0, (f : Int)), a) :: S.filter (en_keepI p (0, (f : Int)))) E else false
    | none => false) else false
  | none => false
noncomputable def ei_put (tb : en_Tb) (W : en_W) (c f : Nat) (lv : en_L) (st : List en_V) (S : en_S) (E : en_E) (k : en_K1) : Bool := match st with
  | a :: b :: r => en_rf b (ei_put1 tb W c f lv r S E k a)
  | _ => false
theorem ei_put_ok (hX : en_Xok tb X) {c f : Nat} (hR : en_R tb X W w0 ρ E S lv st lv' st' (lay, m)) (h : ei_put tb W c f lv st S E k = true) : en_ok tb X W w0 lay (sm_put lv' lay m c f st') k := by
  revert hR h
  refine en_two (P := fun st => en_R tb X W w0 ρ E S lv st lv' st' (lay, m) → ei_put tb W c f lv st S E k = true → _) (fun _ h => by cases h) (fun _ _ h => by cases h) (fun a b r hR h => ?_) st
  obtain ⟨u, r1, e, ga, hs⟩ := en_gs_cons hR.2.2.2.2.1
  subst e
  replace hs := en_gs_cons hs; obtain ⟨v, r2, rfl, gb, hs⟩ := hs
  replace h := en_rf_ok (ρ := ρ) h gb; obtain ⟨p, rfl, h⟩ := h
  unfold ei_put1 at h
  split at h
  · next d hd =>
    replace h := en_bif0 h; obtain ⟨h1, h⟩ := h
    obtain ⟨h1, h3⟩ := en_and2 h1
    obtain ⟨h3, h9⟩ := en_and2 h3
    have h9 : en_fix tb p f = false := by
      cases e : en_fix tb p f with
      | false => rfl
      | true => rw [e] at h9; cases h9
    obtain ⟨h1, h2⟩ := en_and2 h1
    have h1 := en_beq h1
    have h2 := en_beq h2
    have c1 : lay[p]? = some (d.1, d.2.1) := hR.2.1.1 p d hd
    rw [h1, h2] at c1
    rcases en_bif h with ⟨hc, h⟩ | ⟨-, h⟩
    · have hc := en_beq hc
      obtain ⟨q, rfl, h⟩ := en_rf_ok (ρ := ρ) h ga
      replace h := en_bif0 h; obtain ⟨h4, h⟩ := h
      obtain ⟨i, h5, h6⟩ := List.any_eq_true.mp h4
      have h6 := en_beq h6
      subst h6
      obtain ⟨k1, k2, k3⟩ := en_wrR hX (W := W) (w0 := w0.1) (S := S) (ρ := ρ) hR.2.1 hR.2.2.1 hR.2.2.2.2.2.1 h5 h3 h9
      exact ⟨(lv', r2, (m.1, m.2.1, sm_up m.2.2 p f (some i))), by simp only [sm_put, c1, hc]; rfl, ρ, E, _, lv, r, ⟨hR.1, k1, k2, hR.2.2.2.1, hs, k3, hR.2.2.2.2.2.2⟩, h⟩
    · split at h
      · next q hq =>
        replace h := en_bif0 h; obtain ⟨h4, h⟩ := h
        obtain ⟨h4, h5⟩ := en_and2 h4
        obtain ⟨h4, h6⟩ := en_and2 h4
        obtain ⟨x, rfl, gx⟩ := en_isI_of h4 ga
        obtain ⟨k1, k2, k3⟩ := en_wrI hX (W := W) (w0 := w0.1) (S := S) (i := (0, (f : Int))) hR.1 hR.2.1 hR.2.2.1 hR.2.2.2.2.2.1 (en_gi0 _) gx (en_intF hd h1 hq) h6 h3 h9
        refine ⟨(lv', r2, (sm_up m.1 p f x, m.2)), ?_, ρ, E, _, lv, r, ⟨hR.1, k1, k2, hR.2.2.2.1, hs, k3, hR.2.2.2.2.2.2⟩, h⟩
        rcases Bool.or_eq_true_iff.mp h5 with hc | hc
        · have hc := en_beq hc
          simp only [sm_put, c1, hc]
          rfl
        · obtain ⟨hc, h7⟩ := en_and2 hc
          have hc := en_beq hc
          have h7 := en_sub_of h7
          have i := en_ivx hR.1 gx
          have hx : x = 0 ∨ x = 1 := by
            have e0 : (0 : Int32).toInt = 0 := by decide
            have e1 : (1 : Int32).toInt = 1 := by decide
            simp only at h7
            rcases (show x.toInt = 0 ∨ x.toInt = 1 by omega) with q | q
            · exact Or.inl (en_ofI (by rw [q, e0]))
            · exact Or.inr (en_ofI (by rw [q, e1]))
          simp only [sm_put, c1, hc]
          rw [if_pos trivial, if_pos hx]
      · cases h
  · cases h
/-! Math -/
noncomputable def en_sum (st : List en_V) : Nat := List.rec (motive := fun _ => Nat) 0 (fun a _ ih => Nat.add (en_cat a) ih) st
theorem en_sum_ok : ∀ {st : List en_V} {st' : List Value}, en_gs ρ st st' → (st'.map fun v => v.category).sum = en_sum st
  | [], [], _ => rfl
  | a :: r, v :: r', h => by
    simp only [List.map_cons, List.sum_cons]
    rw [en_sum_ok h.2, en_cat_of h.1]
    rfl
  | [], _ :: _, h => h.elim
  | _ :: _, [], h => h.elim
noncomputable def ei_ma (bin : en_E → en_V → en_V → (en_E → en_V → Bool) → Bool) (lv : en_L) (st : List en_V) (S : en_S) (E : en_E) (k : en_K1) : Bool := match st with
  | b :: a :: r => bif Nat.ble (en_sum r) 8 then bin E a b (fun E v => k lv (v :: r) S E) else false
  | _ => false
theorem ei_ma_ok {bin : en_E → en_V → en_V → (en_E → en_V → Bool) → Bool} {f : Int32 → Int32 → Int32} (hb : en_binok bin f) (hR : en_R tb X W w0 ρ E S lv st lv' st' (lay, m)) (h : ei_ma bin lv st S E k = true) : en_ok tb X W w0 lay (sm_p lv' m (sm_ma f st')) k := by
  revert hR h
  refine en_two (P := fun st => en_R tb X W w0 ρ E S lv st lv' st' (lay, m) → ei_ma bin lv st S E k = true → _) (fun _ h => by cases h) (fun _ _ h => by cases h) (fun b a r hR h => ?_) st
  obtain ⟨u, r1, e, gb, hs⟩ := en_gs_cons hR.2.2.2.2.1
  subst e
  replace hs := en_gs_cons hs; obtain ⟨v, r2, rfl, ga, hs⟩ := hs
  replace h := en_bif0 h; obtain ⟨h1, h⟩ := h
  obtain ⟨x, y, z, E', ys, rfl, rfl, g0, g1, g2⟩ := hb _ _ _ _ _ _ _ hR.1 h ga gb
  refine en_okp (s' := .int (f x y) :: r2) (s := z :: r) ?_ (en_R_app ys g0 hR) ⟨g1, en_gs_app' ys hs⟩ g2
  simp only [sm_ma]
  rw [if_pos (by rw [en_sum_ok hs]; exact en_ble h1)]
noncomputable def ei_mb (lv : en_L) (st : List en_V) (S : en_S) (E : en_E) (k : en_K1) : Bool := match st with
  | a :: r => bif Nat.ble (en_sum r) 8 && en_isI a.1 then en_new E en_full (fun E v => k lv (v :: r) S E) else false
  | _ => false
theorem ei_mb_ok {f : Int32 → Int32} (hR : en_R tb X W w0 ρ E S lv st lv' st' (lay, m)) (h : ei_mb lv st S E k = true) : en_ok tb X W w0 lay (sm_p lv' m (sm_mb f st')) k := by
  cases st with
  | nil => cases h
  | cons a r =>
    obtain ⟨v, r2, e, ga, hs⟩ := en_gs_cons hR.2.2.2.2.1
    subst e
    replace h := en_bif0 h; obtain ⟨h1, h⟩ := h
    obtain ⟨h1, h2⟩ := en_and2 h1
    obtain ⟨x, rfl, -⟩ := en_isI_of h2 ga
    refine ei_fresh (x := f x) (s := r) (s' := r2) ?_ hR hs en_crange h
    simp only [sm_mb]
    rw [if_pos (by rw [en_sum_ok hs]; exact en_ble h1)]
/-! one instruction -/
noncomputable def en_one (tb : en_Tb) (W : en_W) (nL : Nat) (i : Instr) (ops : List Nat) (lv : en_L) (st : List en_V) (S : en_S) (E : en_E) (k : en_K1) : Bool := match i with
  | .iconst n => k lv ((0, (Int32.ofInt n).toInt) :: st) S E
  | .bipush n => k lv ((0, (Int8.ofInt n).toInt32.toInt) :: st) S E
  | .sipush n => k lv ((0, (Int16.ofInt n).toInt32.toInt) :: st) S E
  | .lconst _ => k lv ((5, 0) :: st) S E
  | .ldc _ => k lv ((0, (Int32.ofNat (ops.getD 0 0)).toInt) :: st) S E
  | .ldc_w _ => k lv ((0, (Int32.ofNat (ops.getD 0 0)).toInt) :: st) S E
  | .ldc2_w _ => k lv ((5, 0) :: st) S E
  | .aconst_null => k lv ((1, 0) :: st) S E
  | .iload j => ei_ldi j lv st S E k
  | .iload_n j => ei_ldi j lv st S E k
  | .lload j => ei_ldl j lv st S E k
  | .lload_n j => ei_ldl j lv st S E k
  | .aload j => ei_lda j lv st S E k
  | .aload_n j => ei_lda j lv st S E k
  | .istore j => ei_sti j nL lv st S E k
  | .istore_n j => ei_sti j nL lv st S E k
  | .lstore j => ei_stl j nL lv st S E k
  | .lstore_n j => ei_stl j nL lv st S E k
  | .astore j => ei_sta j nL lv st S E k
  | .astore_n j => ei_sta j nL lv st S E k
  | .iinc j n => ei_inc j n nL lv st S E k
  | .iadd => ei_ii en_add lv st S E k
  | .isub => ei_ii en_subv lv st S E k
  | .imul => ei_ii (en_bin (fun x y => x * y) en_gmul) lv st S E k
  | .iand => ei_ii (en_bin (fun x y => x &&& y) en_gand) lv st S E k
  | .ior => ei_ii (en_bin (fun x y => x ||| y) en_gor) lv st S E k
  | .ixor => ei_ii (en_bin (fun x y => x ^^^ y) en_gfull) lv st S E k
  | .ishl => ei_ii (en_bin (fun x y => x <<< (y &&& 31)) en_gshl) lv st S E k
  | .ishr => ei_ii (en_bin (fun x y => x >>> (y &&& 31)) en_gfull) lv st S E k
  | .iushr => ei_ii (en_bin (fun x y => (x.toUInt32 >>> (y.toUInt32 &&& Int32.toUInt32 31)).toInt32) en_gfull) lv st S E k
  | .idiv => ei_div lv st S E k
  | .irem => ei_rem lv st S E k
  | .ineg => ei_i1 en_gneg lv st S E k
  | .i2b => ei_i1 en_gbyte lv st S E k
  | .i2l => ei_i2l lv st S E k
  | .l2i => ei_l2i lv st S E k
  | .ladd => ei_ll lv st S E k
  | .lsub => ei_ll lv st S E k
  | .lmul => ei_ll lv st S E k
  | .land => ei_ll lv st S E k
  | .lor => ei_ll lv st S E k
  | .lshl => ei_li lv st S E k
  | .lshr => ei_li lv st S E k
  | .lcmp => ei_lc lv st S E k
  | .dup => ei_dup lv st S E k
  | .dup_x1 => ei_dupx1 lv st S E k
  | .dup2 => ei_dup2 lv st S E k
  | .pop => ei_pop lv st S E k
  | .iaload => ei_gI tb lv st S E k
  | .baload => ei_gB tb lv st S E k
  | .laload => ei_gL tb lv st S E k
  | .arraylength => ei_len tb lv st S E k
  | .iastore => ei_pI tb W lv st S E k
  | .bastore => ei_pB tb W lv st S E k
  | .lastore => ei_pL tb lv st S E k
  | .getfield _ => ei_get tb (ops.getD 0 0) (ops.getD 1 0) lv st S E k
  | .putfield _ => ei_put tb W (ops.getD 0 0) (ops.getD 1 0) lv st S E k
  | .getstatic _ => k lv ((2, (ops.getD 0 0 : Nat)) :: st) S E
  | .invokestatic _ => match ops with
    | 1 :: _ => ei_ma (en_bin (fun x y => if x < y then y else x) en_gmax) lv st S E k
    | 2 :: _ => ei_ma (en_bin (fun x y => if y < x then y else x) en_gmin) lv st S E k
    | 3 :: _ => ei_mb lv st S E k
    | _ => false
  | _ => false
set_option maxHeartbeats 4000000 in
theorem en_one_ok (hX : en_Xok tb X) {Sc : sm_C} {nL : Nat} {i : Instr} {ops : List Nat} (hR : en_R tb X W w0 ρ E S lv st lv' st' (lay, m)) (h : en_one tb W nL i ops lv st S E k = true) : en_ok tb X W w0 lay (sm_one Sc nL i ops lv' st' lay m) k := by
  cases i with
  | iconst n => exact ei_push hR (en_gi0 _) h
  | bipush n => exact ei_push hR (en_gi0 _) h
  | sipush n => exact ei_push hR (en_gi0 _) h
  | lconst n => exact ei_push (a := (5, 0)) hR rfl h
  | ldc n => exact ei_push hR (en_gi0 _) h
  | ldc_w n => exact ei_push hR (en_gi0 _) h
  | ldc2_w n => exact ei_push (a := (5, 0)) hR rfl h
  | aconst_null => exact ei_push (a := (1, 0)) hR rfl h
  | iload j => exact ei_ldi_ok hR h
  | iload_n j => exact ei_ldi_ok hR h
  | lload j => exact ei_ldl_ok hR h
  | lload_n j => exact ei_ldl_ok hR h
  | aload j => exact ei_lda_ok hR h
  | aload_n j => exact ei_lda_ok hR h
  | istore j => exact ei_sti_ok hR h
  | istore_n j => exact ei_sti_ok hR h
  | lstore j => exact ei_stl_ok hR h
  | lstore_n j => exact ei_stl_ok hR h
  | astore j => exact ei_sta_ok hR h
  | astore_n j => exact ei_sta_ok hR h
  | iinc j n => exact ei_inc_ok hR h
  | iadd => exact ei_ii_ok en_add_ok hR h
  | isub => exact ei_ii_ok en_subv_ok hR h
  | imul => exact ei_ii_ok (en_bin_ok en_gmul_ok) hR h
  | iand => exact ei_ii_ok (en_bin_ok en_gand_ok) hR h
  | ior => exact ei_ii_ok (en_bin_ok en_gor_ok) hR h
  | ixor => exact ei_ii_ok (en_bin_ok (en_gfull_ok _)) hR h
  | ishl => exact ei_ii_ok (en_bin_ok en_gshl_ok) hR h
  | ishr => exact ei_ii_ok (en_bin_ok (en_gfull_ok _)) hR h
  | iushr => exact ei_ii_ok (en_bin_ok (en_gfull_ok _)) hR h
  | idiv => exact ei_div_ok hR h
  | irem => exact ei_rem_ok hR h
  | ineg => exact ei_i1_ok en_gneg_ok hR h
  | i2b => exact ei_i1_ok en_gbyte_ok hR h
  | i2l => exact ei_i2l_ok hR h
  | l2i => exact ei_l2i_ok hR h
  | ladd => exact ei_ll_ok hR h
  | lsub => exact ei_ll_ok hR h
  | lmul => exact ei_ll_ok hR h
  | land => exact ei_ll_ok hR h
  | lor => exact ei_ll_ok hR h
  | lshl => exact ei_li_ok hR h
  | lshr => exact ei_li_ok hR h
  | lcmp => exact ei_lc_ok hR h
  | dup => exact ei_dup_ok hR h
  | dup_x1 => exact ei_dupx1_ok hR h
  | dup2 => exact ei_dup2_ok hR h
  | pop => exact ei_pop_ok hR h
  | iaload => exact ei_gI_ok hR h
  | baload => exact ei_gB_ok hR h
  | laload => exact ei_gL_ok hR h
  | arraylength => exact ei_len_ok hR h
  | iastore => exact ei_pI_ok hX hR h
  | bastore => exact ei_pB_ok hX hR h
  | lastore => exact ei_pL_ok hX hR h
  | getfield x => exact ei_get_ok hR h
  | putfield x => exact ei_put_ok hX hR h
  | getstatic x => exact ei_push hR ⟨rfl, rfl⟩ h
  | invokestatic x =>
    show en_ok tb X W w0 lay (sm_st4 ops lv' lay m st') k
    match ops, h with
    | 1 :: r, h => exact ei_ma_ok (en_bin_ok en_gmax_ok) hR h
    | 2 :: r, h => exact ei_ma_ok (en_bin_ok en_gmin_ok) hR h
    | 3 :: r, h => exact ei_mb_ok hR h
  | _ => cases h
end EnI3
end
section
/-! branches -/
noncomputable def en_tt (c : ClassFile.Cond) (E : en_E) (a b : en_V) (ka kb : en_E → Bool) : Bool := match c with
  | .eq => en_teq E a b ka kb
  | .ne => en_teq E a b kb ka
  | .lt => en_tlt E a b ka kb
  | .ge => en_tlt E a b kb ka
  | .gt => en_tlt E b a ka kb
  | .le => en_tlt E b a kb ka
noncomputable def en_b1 (c : ClassFile.Cond) (E : en_E) (st : List en_V) (ka kb : List en_V → en_E → Bool) : Bool := match st with
  | a :: r => bif en_isI a.1 then en_tt c E a (0, 0) (ka r) (kb r) else false
  | _ => false
noncomputable def en_b2 (c : ClassFile.Cond) (E : en_E) (st : List en_V) (ka kb : List en_V → en_E → Bool) : Bool := match st with
  | b :: a :: r => bif en_isI a.1 && en_isI b.1 then en_tt c E a b (ka r) (kb r) else false
  | _ => false
noncomputable def en_bn (st : List en_V) (ka kb : List en_V → Bool) : Bool := match st with
  | a :: r => bif Nat.beq a.1 1 then ka r else bif Nat.beq a.1 2 then kb r else false
  | _ => false
noncomputable def en_sw (a : en_V) (k : Nat → en_E → Bool) (d : Nat) : Int → List Nat → en_E → Bool
  | _, [], E => k d E
  | v, b :: r, E => bif en_le (-2147483648) v && en_le v 2147483647 then en_teq E a (0, v) (k b) (fun E => en_sw a k d (v + 1) r E) else false
noncomputable def en_lo (a : en_V) (k : Nat → en_E → Bool) (d : Nat) : List (Int × Int) → List Nat → en_E → Bool
  | [], _, E => k d E
  | _ :: _, [], _ => false
  | v :: vs, b :: r, E => bif en_le (-2147483648) v.1 && en_le v.1 2147483647 then en_teq E a (0, v.1) (k b) (fun E => en_lo a k d vs r E) else false
section EnB
variable {ρ : List Int} {E : en_E} {Φ : sm_Z → Prop}
theorem en_ite {p : Prop} [Decidable p] {X Y : Nat → Option sm_Z} (h : (p ∧ sm_ev X Φ) ∨ (¬ p ∧ sm_ev Y Φ)) : sm_ev (fun n => if p then X n else Y n) Φ := by
  rcases h with ⟨hp, h⟩ | ⟨hp, h⟩
  · simp only [if_pos hp]; exact h
  · simp only [if_neg hp]; exact h
theorem en_tt_ok {c : ClassFile.Cond} {a b : en_V} {x y : Int32} {ka kb : en_E → Bool} {A B : Nat → Option sm_Z} {r : List Value} (hE : en_sat ρ E) (gx : en_gi ρ a x.toInt) (gy : en_gi ρ b y.toInt) (ha : ∀ E', en_sat ρ E' → ka E' = true → sm_ev A Φ) (hb : ∀ E', en_sat ρ E' → kb E' = true → sm_ev B Φ) (h : en_tt c E a b ka kb = true) : sm_ev (fun n => sm_b2 c (.int y :: .int x :: r) (fun _ => A n) (fun _ => B n)) Φ := by
  have rx := en_crange (x := x)
  have ry := en_crange (x := y)
  cases c with
  | eq =>
    obtain ⟨E', s1, s2⟩ := en_teq_ok h hE gx gy rx ry
    refine en_ite (p := x = y) ?_
    rcases s2 with ⟨q, s⟩ | ⟨q, s⟩
    · exact Or.inl ⟨Int32.toInt_inj.mp q, ha _ s1 s⟩
    · exact Or.inr ⟨fun e => q (by rw [e]), hb _ s1 s⟩
  | ne =>
    obtain ⟨E', s1, s2⟩ := en_teq_ok h hE gx gy rx ry
    refine en_ite (p := x = y) ?_
    rcases s2 with ⟨q, s⟩ | ⟨q, s⟩
    · exact Or.inl ⟨Int32.toInt_inj.mp q, hb _ s1 s⟩
    · exact Or.inr ⟨fun e => q (by rw [e]), ha _ s1 s⟩
  | lt =>
    obtain ⟨E', s1, s2⟩ := en_tlt_ok h hE gx gy
    refine en_ite (p := x < y) ?_
    rw [Int32.lt_iff_toInt_lt]
    rcases s2 with ⟨q, s⟩ | ⟨q, s⟩
    · exact Or.inl ⟨q, ha _ s1 s⟩
    · exact Or.inr ⟨q, hb _ s1 s⟩
  | ge =>
    obtain ⟨E', s1, s2⟩ := en_tlt_ok h hE gx gy
    refine en_ite (p := y ≤ x) ?_
    rw [Int32.le_iff_toInt_le]
    rcases s2 with ⟨q, s⟩ | ⟨q, s⟩
    · exact Or.inr ⟨by omega, hb _ s1 s⟩
    · exact Or.inl ⟨by omega, ha _ s1 s⟩
  | gt =>
    obtain ⟨E', s1, s2⟩ := en_tlt_ok h hE gy gx
    refine en_ite (p := y < x) ?_
    rw [Int32.lt_iff_toInt_lt]
    rcases s2 with ⟨q, s⟩ | ⟨q, s⟩
    · exact Or.inl ⟨q, ha _ s1 s⟩
    · exact Or.inr ⟨q, hb _ s1 s⟩
  | le =>
    obtain ⟨E', s1, s2⟩ := en_tlt_ok h hE gy gx
    refine en_ite (p := x ≤ y) ?_
    rw [Int32.le_iff_toInt_le]
    rcases s2 with ⟨q, s⟩ | ⟨q, s⟩
    · exact Or.inr ⟨by omega, hb _ s1 s⟩
    · exact Or.inl ⟨by omega, ha _ s1 s⟩
theorem en_b12 {c : ClassFile.Cond} {x : Int32} {r : List Value} {α : Type} {A B : List Value → Option α} : sm_b1 c (.int x :: r) A B = sm_b2 c (.int 0 :: .int x :: r) A B := by cases c <;> rfl
theorem en_b1_ok {c : ClassFile.Cond} {st : List en_V} {st' : List Value} {ka kb : List en_V → en_E → Bool} {A B : List Value → Nat → Option sm_Z} (hE : en_sat ρ E) (hs : en_gs ρ st st') (ha : ∀ r r' E', en_gs ρ r r' → en_sat ρ E' → ka r E' = true → sm_ev (A r') Φ) (hb : ∀ r r' E', en_gs ρ r r' → en_sat ρ E' → kb r E' = true → sm_ev (B r') Φ) (h : en_b1 c E st ka kb = true) : sm_ev (fun n => sm_b1 c st' (fun r => A r n) (fun r => B r n)) Φ := by
  cases st with
  | nil => cases h
  | cons a r =>
    replace hs := en_gs_cons hs; obtain ⟨v, r', rfl, g, hs⟩ := hs
    replace h := en_bif0 h; obtain ⟨h1, h⟩ := h
    obtain ⟨x, rfl, gx⟩ := en_isI_of h1 g
    simp only [en_b12]
    have e0 : en_gi ρ (0, 0) (0 : Int32).toInt := Or.inl ⟨rfl, by decide⟩
    have := en_tt_ok (A := A r') (B := B r') (r := r') hE gx e0 (fun E' s h => ha r r' E' hs s h) (fun E' s h => hb r r' E' hs s h) h
    cases c <;> exact this
theorem en_b2_ok {c : ClassFile.Cond} {st : List en_V} {st' : List Value} {ka kb : List en_V → en_E → Bool} {A B : List Value → Nat → Option sm_Z} (hE : en_sat ρ E) (hs : en_gs ρ st st') (ha : ∀ r r' E', en_gs ρ r r' → en_sat ρ E' → ka r E' = true → sm_ev (A r') Φ) (hb : ∀ r r' E', en_gs ρ r r' → en_sat ρ E' → kb r E' = true → sm_ev (B r') Φ) (h : en_b2 c E st ka kb = true) : sm_ev (fun n => sm_b2 c st' (fun r => A r n) (fun r => B r n)) Φ := by
  revert hs h
  refine en_two (P := fun st => en_gs ρ st st' → en_b2 c E st ka kb = true → _) (fun _ h => by cases h) (fun _ _ h => by cases h) (fun b a r hs h => ?_) st
  replace hs := en_gs_cons hs; obtain ⟨u, r1, rfl, gb, hs⟩ := hs
  replace hs := en_gs_cons hs; obtain ⟨v, r', rfl, ga, hs⟩ := hs
  replace h := en_bif0 h; obtain ⟨h1, h⟩ := h
  obtain ⟨h1, h2⟩ := en_and2 h1
  obtain ⟨x, rfl, gx⟩ := en_isI_of h1 ga
  obtain ⟨y, rfl, gy⟩ := en_isI_of h2 gb
  have := en_tt_ok (A := A r') (B := B r') (r := r') hE gx gy (fun E' s h => ha r r' E' hs s h) (fun E' s h => hb r r' E' hs s h) h
  cases c <;> exact this
theorem en_bn_ok {st : List en_V} {st' : List Value} {ka kb : List en_V → Bool} {A B : List Value → Nat → Option sm_Z} (hs : en_gs ρ st st') (ha : ∀ r r', en_gs ρ r r' → ka r = true → sm_ev (A r') Φ) (hb : ∀ r r', en_gs ρ r r' → kb r = true → sm_ev (B r') Φ) (h : en_bn st ka kb = true) : sm_ev (fun n => sm_bn st' (fun r => A r n) (fun r => B r n)) Φ := by
  cases st with
  | nil => cases h
  | cons a r =>
    replace hs := en_gs_cons hs; obtain ⟨v, r', rfl, g, hs⟩ := hs
    rcases en_bif h with ⟨h1, h⟩ | ⟨-, h⟩
    · have := en_null_of (en_beq h1) g
      subst this
      exact ha _ _ hs h
    · obtain ⟨h1, h⟩ := en_bif0 h
      obtain ⟨p, rfl, -⟩ := en_ref_of (en_beq h1) g
      exact hb _ _ hs h
theorem en_sw_ok {a : en_V} {x : Int32} {k : Nat → en_E → Bool} {K : Nat → Nat → Option sm_Z} {d : Nat} (gx : en_gi ρ a x.toInt) (hk : ∀ b E', en_sat ρ E' → k b E' = true → sm_ev (K b) Φ) : ∀ (bs : List Nat) (v : Int) (E : en_E), en_sat ρ E → en_sw a k d v bs E = true → sm_ev (fun n => sm_sw x (fun b => K b n) d v bs) Φ
  | [], v, E, hE, h => hk _ _ hE h
  | b :: r, v, E, hE, h => by
    have h : (bif en_le (-2147483648) v && en_le v 2147483647 then en_teq E a (0, v) (k b) (fun E => en_sw a k d (v + 1) r E) else false) = true := h
    obtain ⟨h1, h⟩ := en_bif0 h
    obtain ⟨h1, h2⟩ := en_and2 h1
    obtain ⟨E', s1, s2⟩ := en_teq_ok h hE gx (en_gi0 v) en_crange ⟨en_le_iff.mp h1, en_le_iff.mp h2⟩
    refine en_ite (p := x.toInt = v) ?_
    rcases s2 with ⟨q, s⟩ | ⟨q, s⟩
    · exact Or.inl ⟨q, hk _ _ s1 s⟩
    · exact Or.inr ⟨q, en_sw_ok gx hk r (v + 1) E' s1 s⟩
theorem en_lo_ok {a : en_V} {x : Int32} {k : Nat → en_E → Bool} {K : Nat → Nat → Option sm_Z} {d : Nat} (gx : en_gi ρ a x.toInt) (hk : ∀ b E', en_sat ρ E' → k b E' = true → sm_ev (K b) Φ) : ∀ (vs : List (Int × Int)) (bs : List Nat) (E : en_E), en_sat ρ E → en_lo a k d vs bs E = true → sm_ev (fun n => sm_lo x (fun b => K b n) d vs bs) Φ
  | [], bs, E, hE, h => by cases bs <;> exact hk _ _ hE h
  | v :: vs, [], E, hE, h => by cases h
  | v :: vs, b :: r, E, hE, h => by
    have h : (bif en_le (-2147483648) v.1 && en_le v.1 2147483647 then en_teq E a (0, v.1) (k b) (fun E => en_lo a k d vs r E) else false) = true := h
    obtain ⟨h1, h⟩ := en_bif0 h
    obtain ⟨h1, h2⟩ := en_and2 h1
    obtain ⟨E', s1, s2⟩ := en_teq_ok h hE gx (en_gi0 v.1) en_crange ⟨en_le_iff.mp h1, en_le_iff.mp h2⟩
    refine en_ite (p := x.toInt = v.1) ?_
    rcases s2 with ⟨q, s⟩ | ⟨q, s⟩
    · exact Or.inl ⟨q, hk _ _ s1 s⟩
    · exact Or.inr ⟨q, en_lo_ok gx hk vs r E' s1 s⟩
end EnB
/-! linear forms: a number and a coefficient for each symbol -/
def en_dot : List Int → List Int → Int
  | [], _ => 0
  | _, [] => 0
  | c :: cs, x :: xs => c * x + en_dot cs xs
def en_vadd : List Int → List Int → List Int
  | [], v => v
  | u, [] => u
  | a :: u, b :: v => (a + b) :: en_vadd u v
def en_vneg (u : List Int) : List Int := u.map (fun x => -x)
def en_unit : Nat → Int → List Int
  | 0, c => [c]
  | k + 1, c => 0 :: en_unit k c
noncomputable def en_low : List Int → List (Int × Int) → Int
  | [], _ => 0
  | _, [] => 0
  | c :: cs, q :: qs => (bif en_le 0 c then c * q.1 else c * q.2) + en_low cs qs
theorem en_dot_nil (u : List Int) : en_dot u [] = 0 := by cases u <;> rfl
theorem en_dot_add : ∀ (u v xs : List Int), en_dot (en_vadd u v) xs = en_dot u xs + en_dot v xs
  | [], v, xs => by show en_dot v xs = 0 + en_dot v xs; omega
  | a :: u, [], xs => by show en_dot (a :: u) xs = en_dot (a :: u) xs + 0; omega
  | a :: u, b :: v, [] => by rw [en_dot_nil, en_dot_nil, en_dot_nil]; rfl
  | a :: u, b :: v, x :: xs => by
    show (a + b) * x + en_dot (en_vadd u v) xs = (a * x + en_dot u xs) + (b * x + en_dot v xs)
    rw [en_dot_add u v xs, Int.add_mul]
    omega
theorem en_dot_neg : ∀ (u xs : List Int), en_dot (en_vneg u) xs = -en_dot u xs
  | [], xs => rfl
  | a :: u, [] => by rw [en_dot_nil, en_dot_nil]; rfl
  | a :: u, x :: xs => by
    show (-a) * x + en_dot (en_vneg u) xs = -(a * x + en_dot u xs)
    rw [en_dot_neg u xs, Int.neg_mul]
    omega
theorem en_dot_unit : ∀ (k : Nat) (c m : Int) (xs : List Int), xs[k]? = some m → en_dot (en_unit k c) xs = c * m
  | 0, c, m, [], h => by cases h
  | 0, c, m, x :: xs, h => by
    have hm : x = m := Option.some.inj h
    subst hm
    show c * x + en_dot [] xs = c * x
    have : en_dot [] xs = 0 := rfl
    omega
  | k + 1, c, m, [], h => by cases h
  | k + 1, c, m, x :: xs, h => by
    show 0 * x + en_dot (en_unit k c) xs = c * m
    rw [en_dot_unit k c m xs h]
    omega
theorem en_low_ok : ∀ (u : List Int) (E : List (Int × Int)) (xs : List Int), E.length = xs.length → (∀ (k : Nat) (m : Int) (q : Int × Int), xs[k]? = some m → E[k]? = some q → q.1 ≤ m ∧ m ≤ q.2) → en_low u E ≤ en_dot u xs
  | [], _, _, _, _ => Int.le_refl _
  | c :: u, [], [], _, _ => Int.le_refl _
  | c :: u, q :: E, x :: xs, hl, h => by
    have h0 := h 0 x q rfl rfl
    have ih := en_low_ok u E xs (by simpa using hl) (fun k m q' e1 e2 => h (k + 1) m q' e1 e2)
    show (bif en_le 0 c then c * q.1 else c * q.2) + en_low u E ≤ c * x + en_dot u xs
    cases e : en_le 0 c with
    | true =>
      have e := en_le_iff.mp e
      have := Int.mul_le_mul_of_nonneg_left h0.1 e
      show c * q.1 + en_low u E ≤ _
      omega
    | false =>
      have e := en_le_no e
      have := Int.mul_le_mul_of_nonpos_left (a := c) (by omega) h0.2
      show c * q.2 + en_low u E ≤ _
      omega
/-- the measure: a number and a coefficient for each of the live locals -/
def en_mv : List Int → List Value → Int
  | c :: cs, .int x :: vs => c * x.toInt + en_mv cs vs
  | _ :: cs, _ :: vs => en_mv cs vs
  | _, _ => 0
def en_ml : List Int → List en_V → Int × List Int
  | c :: cs, a :: as => bif Nat.beq a.1 0 then (c * a.2 + (en_ml cs as).1, (en_ml cs as).2) else bif Nat.ble 7 a.1 then (c * a.2 + (en_ml cs as).1, en_vadd (en_unit (a.1 - 7) c) (en_ml cs as).2) else en_ml cs as
  | _, _ => (0, [])
theorem en_ml_ok {ρ : List Int} : ∀ (cs : List Int) (as : List en_V) (vs : List Value), en_gs ρ as vs → (en_ml cs as).1 + en_dot (en_ml cs as).2 ρ = en_mv cs vs
  | [], _, _, _ => by simp only [en_ml, en_mv]; rfl
  | c :: cs, [], [], _ => rfl
  | c :: cs, a :: as, v :: vs, h => by
    have ih := en_ml_ok cs as vs h.2
    obtain ⟨t, i⟩ := a
    have hg := h.1
    cases v with
    | int x =>
      rcases hg with ⟨q, e⟩ | ⟨q, m, e1, e2⟩
      · have q : t = 0 := q
        subst q
        show (c * i + (en_ml cs as).1) + en_dot (en_ml cs as).2 ρ = c * x.toInt + en_mv cs vs
        have e : x.toInt = i := e
        rw [e]
        omega
      · have q : 7 ≤ t := q
        have e1 : ρ[t - 7]? = some m := e1
        have e2 : x.toInt = m + i := e2
        have b1 : Nat.beq t 0 = false := by
          cases e : Nat.beq t 0 with
          | false => rfl
          | true => have := en_beq e; omega
        have b2 : Nat.ble 7 t = true := Nat.ble_eq_true_of_le q
        have u : en_ml (c :: cs) ((t, i) :: as) = (c * i + (en_ml cs as).1, en_vadd (en_unit (t - 7) c) (en_ml cs as).2) := by
          show (bif Nat.beq t 0 then _ else bif Nat.ble 7 t then _ else _) = _
          rw [b1, b2]
          rfl
        rw [u]
        show (c * i + (en_ml cs as).1) + en_dot (en_vadd (en_unit (t - 7) c) (en_ml cs as).2) ρ = c * x.toInt + en_mv cs vs
        rw [en_dot_add, en_dot_unit _ _ _ _ e1, e2, Int.mul_add]
        omega
    | long x => have q : t = 5 := hg; subst q; exact ih
    | null => have q : t = 1 := hg; subst q; exact ih
    | ref p => have q : t = 2 := hg.1; subst q; exact ih
    | float _ => exact hg.elim
    | double _ => exact hg.elim
    | retAddr _ => exact hg.elim
  | _ :: _, [], _ :: _, h => h.elim
  | _ :: _, _ :: _, [], h => h.elim
end
section
/-! contracts, cuts, methods -/
abbrev en_Pf : Type := List (Nat × Nat × Int × Int)
/-- a contract: method, arguments, facts of cells ahead, answer, what it writes, depth of calls -/
abbrev en_Ct : Type := Nat × List en_Fd × en_Pf × en_Fd × en_W × Nat
/-- a cut: block, live locals, stack, facts of cells, measure -/
abbrev en_Cu : Type := Nat × List en_Fd × List en_Fd × en_Pf × Int × List Int
def en_pv (t : en_Fd) (v : Value) : Prop := match v with
  | .int x => t.1 = 0 ∧ t.2.1 ≤ x.toInt ∧ x.toInt ≤ t.2.2
  | .long _ => t.1 = 5
  | .null => t.1 = 1
  | .ref p => t.1 = 2 ∧ t.2.1 = (p : Int)
  | _ => False
def en_pvs : List en_Fd → List Value → Prop
  | [], [] => True
  | t :: ts, v :: vs => en_pv t v ∧ en_pvs ts vs
  | [], _ :: _ => False
  | _ :: _, [] => False
def en_pf (pf : en_Pf) (w : sm_W) : Prop := ∀ e, e ∈ pf → e.2.2.1 ≤ (w.2.1 e.1 e.2.1).toInt ∧ (w.2.1 e.1 e.2.1).toInt ≤ e.2.2.2
def en_pr (t : en_Fd) (o : Option Value) : Prop := match o with
  | none => t.1 = 9
  | some v => en_pv t v ∨ (t.1 = 3 ∧ ((∃ p : Nat, v = .ref p ∧ t.2.1 = (p : Int)) ∨ ∃ p : Nat, v = .ref p ∧ t.2.2 = (p : Int)))
def en_hold (tb : en_Tb) (X : sm_W → Prop) (P : Nat → sm_M) (Sc : sm_C) (c : en_Ct) : Prop := ∀ (d : Nat), c.2.2.2.2.2 ≤ d → ∀ (vs : List Value) (w : sm_W), en_pvs c.2.1 vs → en_mem tb X w → en_pf c.2.2.1 w → sm_wp P Sc d c.1 0 vs [] w (0, 0) (fun z => en_pr c.2.2.2.1 z.1 ∧ en_mem tb X z.2 ∧ en_fr c.2.2.2.2.1 w z.2)
noncomputable def en_pm (E : en_E) (t : en_Fd) (a : en_V) : Bool := bif Nat.beq t.1 0 then en_isI a.1 && en_sub (en_iv E a) t.2 else bif Nat.beq t.1 2 then Nat.beq a.1 2 && en_eq a.2 t.2.1 else (Nat.beq t.1 1 && Nat.beq a.1 1) || (Nat.beq t.1 5 && Nat.beq a.1 5)
noncomputable def en_pms (E : en_E) : List en_Fd → List en_V → Bool
  | [], [] => true
  | t :: ts, a :: as => en_pm E t a && en_pms E ts as
  | _, _ => false
noncomputable def en_pfc (tb : en_Tb) (S : en_S) (E : en_E) (e : Nat × Nat × Int × Int) : Bool := match en_find S 0 e.1 (0, (e.2.1 : Int)) with
  | some v => en_isI v.1 && en_sub (en_iv E v) e.2.2
  | none => match en_int tb e.1 e.2.1 with
    | some q => en_sub q e.2.2
    | none => false
noncomputable def en_ini : List en_Fd → en_E → (en_E → List en_V → Bool) → Bool
  | [], E, c => c E []
  | t :: ts, E, c => bif Nat.beq t.1 0 then en_new E t.2 (fun E v => en_ini ts E (fun E vs => c E (v :: vs))) else bif Nat.beq t.1 2 then en_ini ts E (fun E vs => c E ((2, t.2.1) :: vs)) else bif Nat.beq t.1 1 then en_ini ts E (fun E vs => c E ((1, 0) :: vs)) else bif Nat.beq t.1 5 then en_ini ts E (fun E vs => c E ((5, 0) :: vs)) else true
noncomputable def en_inf : en_Pf → en_E → en_S → (en_E → en_S → Bool) → Bool
  | [], E, S, c => c E S
  | e :: r, E, S, c => en_new E e.2.2 (fun E v => en_inf r E ((0, e.1, (0, (e.2.1 : Int)), v) :: S) c)
section EnP
variable {tb : en_Tb} {X : sm_W → Prop} {W : en_W} {w w0 : sm_W} {ρ : List Int} {E : en_E} {S : en_S} {a : en_V} {v : Value} {t : en_Fd}
theorem en_pm_ok (h : en_pm E t a = true) (hE : en_sat ρ E) (hg : en_g ρ a v) : en_pv t v := by
  unfold en_pm at h
  rcases en_bif h with ⟨q, h⟩ | ⟨-, h⟩
  · obtain ⟨h1, h2⟩ := en_and2 h
    obtain ⟨x, rfl, gx⟩ := en_isI_of h1 hg
    have i := en_ivx hE gx
    have s := en_sub_of h2
    exact ⟨en_beq q, by omega, by omega⟩
  · rcases en_bif h with ⟨q, h⟩ | ⟨-, h⟩
    · obtain ⟨h1, h2⟩ := en_and2 h
      obtain ⟨p, rfl, e⟩ := en_ref_of (en_beq h1) hg
      exact ⟨en_beq q, by rw [← en_eq_iff.mp h2, e]⟩
    · rcases Bool.or_eq_true_iff.mp h with h | h
      · obtain ⟨h1, h2⟩ := en_and2 h
        have := en_null_of (en_beq h2) hg
        subst this
        exact en_beq h1
      · obtain ⟨h1, h2⟩ := en_and2 h
        obtain ⟨x, rfl⟩ := en_long_of (en_beq h2) hg
        exact en_beq h1
theorem en_pms_ok (hE : en_sat ρ E) : ∀ {ts : List en_Fd} {as : List en_V} {vs : List Value}, en_pms E ts as = true → en_gs ρ as vs → en_pvs ts vs
  | [], [], [], _, _ => trivial
  | t :: ts, a :: as, v :: vs, h, hg => by
    obtain ⟨h1, h2⟩ := en_and2 h
    exact ⟨en_pm_ok h1 hE hg.1, en_pms_ok hE h2 hg.2⟩
  | [], _ :: _, _, h, _ => by cases h
  | _ :: _, [], _, h, _ => by cases h
  | [], [], _ :: _, _, hg => hg.elim
  | _ :: _, _ :: _, [], _, hg => hg.elim
theorem en_pfc_ok {e : Nat × Nat × Int × Int} (h : en_pfc tb S E e = true) (hE : en_sat ρ E) (hm : en_mem tb X w) (hS : en_st ρ w S) : e.2.2.1 ≤ (w.2.1 e.1 e.2.1).toInt ∧ (w.2.1 e.1 e.2.1).toInt ≤ e.2.2.2 := by
  unfold en_pfc at h
  split at h
  · next v e1 =>
    obtain ⟨h1, h2⟩ := en_and2 h
    obtain ⟨n, g1, g2⟩ := (hS _ (en_find_ok e1)).1 rfl
    have g1 : en_gi ρ (0, (e.2.1 : Int)) (n : Int) := g1
    have en : n = e.2.1 := by
      rcases g1 with ⟨-, q⟩ | ⟨q, -⟩
      · have : (n : Int) = (e.2.1 : Int) := q; omega
      · have q : 7 ≤ 0 := q; omega
    subst en
    have g2 : en_gi ρ v (w.2.1 e.1 e.2.1).toInt := g2
    have i := en_ivx hE g2
    have s := en_sub_of h2
    omega
  · split at h
    · next q hq =>
      have s := en_sub_of h
      have := hm.2.1 _ _ _ hq
      omega
    · cases h
theorem en_pf_ok {pf : en_Pf} (h : pf.all (en_pfc tb S E) = true) (hE : en_sat ρ E) (hm : en_mem tb X w) (hS : en_st ρ w S) : en_pf pf w := fun e he => en_pfc_ok (List.all_eq_true.mp h e he) hE hm hS
theorem en_ini_ok : ∀ (ts : List en_Fd) (ρ : List Int) (E : en_E) (c : en_E → List en_V → Bool) (vs : List Value), en_ini ts E c = true → en_sat ρ E → en_pvs ts vs → ∃ ys E' as, en_sat (ρ ++ ys) E' ∧ en_gs (ρ ++ ys) as vs ∧ c E' as = true
  | [], ρ, E, c, [], h, hE, _ => ⟨[], E, [], by rw [List.append_nil]; exact hE, trivial, h⟩
  | t :: ts, ρ, E, c, v :: vs, h, hE, hp => by
    have h : (bif Nat.beq t.1 0 then en_new E t.2 (fun E v => en_ini ts E (fun E vs => c E (v :: vs))) else bif Nat.beq t.1 2 then en_ini ts E (fun E vs => c E ((2, t.2.1) :: vs)) else bif Nat.beq t.1 1 then en_ini ts E (fun E vs => c E ((1, 0) :: vs)) else bif Nat.beq t.1 5 then en_ini ts E (fun E vs => c E ((5, 0) :: vs)) else true) = true := h
    have hv := hp.1
    have rest : ∀ a, en_g ρ a v → en_ini ts E (fun E vs => c E (a :: vs)) = true → ∃ ys E' as, en_sat (ρ ++ ys) E' ∧ en_gs (ρ ++ ys) as (v :: vs) ∧ c E' as = true := by
      intro a ha hc
      obtain ⟨ys, E', as, g1, g2, g3⟩ := en_ini_ok ts ρ E _ vs hc hE hp.2
      exact ⟨ys, E', a :: as, g1, ⟨en_g_app ys ha, g2⟩, g3⟩
    cases v with
    | int x =>
      have q : Nat.beq t.1 0 = true := by rw [hv.1]; rfl
      rw [q] at h
      have h : en_new E t.2 (fun E v => en_ini ts E (fun E vs => c E (v :: vs))) = true := h
      obtain ⟨E1, r, g1, g2, g3⟩ := en_new_ok hE h x.toInt hv.2
      obtain ⟨ys, E', as, k1, k2, k3⟩ := en_ini_ok ts _ E1 _ vs g3 g1 hp.2
      refine ⟨[x.toInt] ++ ys, E', r :: as, by rw [← List.append_assoc]; exact k1, ⟨?_, ?_⟩, k3⟩
      · rw [← List.append_assoc]
        exact en_gi_app ys g2
      · rw [← List.append_assoc]
        exact k2
    | ref p =>
      have q0 : Nat.beq t.1 0 = false := by rw [hv.1]; rfl
      have q2 : Nat.beq t.1 2 = true := by rw [hv.1]; rfl
      rw [q0, q2] at h
      exact rest (2, t.2.1) ⟨rfl, hv.2⟩ h
    | null =>
      have hv : t.1 = 1 := hv
      have q0 : Nat.beq t.1 0 = false := by rw [hv]; rfl
      have q2 : Nat.beq t.1 2 = false := by rw [hv]; rfl
      have q1 : Nat.beq t.1 1 = true := by rw [hv]; rfl
      rw [q0, q2, q1] at h
      exact rest (1, 0) rfl h
    | long x =>
      have hv : t.1 = 5 := hv
      have q0 : Nat.beq t.1 0 = false := by rw [hv]; rfl
      have q2 : Nat.beq t.1 2 = false := by rw [hv]; rfl
      have q1 : Nat.beq t.1 1 = false := by rw [hv]; rfl
      have q5 : Nat.beq t.1 5 = true := by rw [hv]; rfl
      rw [q0, q2, q1, q5] at h
      exact rest (5, 0) rfl h
    | float _ => exact hv.elim
    | double _ => exact hv.elim
    | retAddr _ => exact hv.elim
  | [], _, _, _, _ :: _, _, _, hp => hp.elim
  | _ :: _, _, _, _, [], _, _, hp => hp.elim
theorem en_inf_ok {w : sm_W} : ∀ (pf : en_Pf) (ρ : List Int) (E : en_E) (S : en_S) (c : en_E → en_S → Bool), en_inf pf E S c = true → en_sat ρ E → en_st ρ w S → en_pf pf w → ∃ ys E' S', en_sat (ρ ++ ys) E' ∧ en_st (ρ ++ ys) w S' ∧ c E' S' = true
  | [], ρ, E, S, c, h, hE, hS, _ => ⟨[], E, S, by rw [List.append_nil]; exact hE, by rw [List.append_nil]; exact hS, h⟩
  | e :: r, ρ, E, S, c, h, hE, hS, hp => by
    have h : en_new E e.2.2 (fun E v => en_inf r E ((0, e.1, (0, (e.2.1 : Int)), v) :: S) c) = true := h
    obtain ⟨E1, v, g1, g2, g3⟩ := en_new_ok hE h (w.2.1 e.1 e.2.1).toInt (hp e List.mem_cons_self)
    obtain ⟨ys, E', S', k1, k2, k3⟩ := en_inf_ok r _ E1 _ c g3 g1 (by
      intro e' he
      rcases List.mem_cons.mp he with rfl | he
      · exact ⟨fun _ => ⟨e.2.1, en_gi0 _, g2⟩, fun q => (by cases q)⟩
      · exact en_st_app _ hS e' he) (fun e' he => hp e' (List.mem_cons_of_mem _ he))
    exact ⟨[(w.2.1 e.1 e.2.1).toInt] ++ ys, E', S', by rw [← List.append_assoc]; exact k1, by rw [← List.append_assoc]; exact k2, k3⟩
end EnP
/-! a call by its contract -/
def en_wsub (W1 W2 : en_W) : Bool := W1.all (fun q => match q.2 with
  | [] => en_wall W2 q.1
  | l => l.all (fun j => en_wok W2 q.1 j))
theorem en_wsub_ok {W1 W2 : en_W} (h : en_wsub W1 W2 = true) {p j : Nat} (hw : en_wok W2 p j = false) : en_wok W1 p j = false := by
  cases e : en_wok W1 p j with
  | false => rfl
  | true =>
    exfalso
    obtain ⟨q, h1, h2⟩ := List.any_eq_true.mp e
    obtain ⟨h2, h3⟩ := en_and2 h2
    have h2 := en_beq h2
    subst h2
    have h4 := List.all_eq_true.mp h q h1
    have : en_wok W2 q.1 j = true := by
      split at h4
      · exact en_wall_ok h4 j
      · next l _ =>
        split at h3
        · next e2 => exact absurd e2 (by assumption)
        · obtain ⟨i, h5, h6⟩ := List.any_eq_true.mp h3
          have h6 := en_beq h6
          subst h6
          exact List.all_eq_true.mp h4 i h5
    rw [this] at hw
    cases hw
noncomputable def en_keepC (W : en_W) (e : Nat × Nat × en_V × en_V) : Bool := bif Nat.beq e.2.2.1.1 0 && en_le 0 e.2.2.1.2 then !(en_wok W e.2.1 e.2.2.1.2.toNat) else !(W.any (fun q => Nat.beq q.1 e.2.1))
theorem en_keepC_ok {W : en_W} {ρ : List Int} {w w' : sm_W} {S : en_S} (hf : en_fr W w w') (hS : en_st ρ w S) : en_st ρ w' (S.filter (en_keepC W)) := by
  intro e he
  obtain ⟨he, hk⟩ := List.mem_filter.mp he
  obtain ⟨h1, h2⟩ := hS e he
  have key : ∀ n : Nat, en_gi ρ e.2.2.1 n → en_wok W e.2.1 n = false := by
    intro n hn
    unfold en_keepC at hk
    rcases en_bif hk with ⟨q, hk⟩ | ⟨-, hk⟩
    · obtain ⟨q1, -⟩ := en_and2 q
      have q1 := en_beq q1
      rcases hn with ⟨-, e1⟩ | ⟨e1, -⟩
      · have : e.2.2.1.2.toNat = n := by omega
        rw [this] at hk
        cases c : en_wok W e.2.1 n with
        | false => rfl
        | true => rw [c] at hk; cases hk
      · omega
    · cases c : en_wok W e.2.1 n with
      | false => rfl
      | true =>
        exfalso
        obtain ⟨q, h3, h4⟩ := List.any_eq_true.mp c
        have : W.any (fun q => Nat.beq q.1 e.2.1) = true := List.any_eq_true.mpr ⟨q, h3, (en_and2 h4).1⟩
        rw [this] at hk
        cases hk
  refine ⟨fun q => ?_, fun q => ?_⟩
  · obtain ⟨n, g1, g2⟩ := h1 q
    exact ⟨n, g1, by rw [(hf.2 _ _ (key n g1)).1]; exact g2⟩
  · obtain ⟨n, r, g1, g2, g3⟩ := h2 q
    exact ⟨n, r, g1, g2, by rw [(hf.2 _ _ (key n (by rw [g1]; exact en_gi0 _))).2]; exact g3⟩
noncomputable def en_match (E : en_E) (g : Nat) (as : List en_V) (c : en_Ct) : Bool := Nat.beq c.1 g && en_pms E c.2.1 as
noncomputable def en_res (t : en_Fd) (E : en_E) (k : Option en_V → en_E → Bool) : Bool := bif Nat.beq t.1 9 then k none E else bif Nat.beq t.1 0 then en_new E t.2 (fun E v => k (some v) E) else bif Nat.beq t.1 2 then k (some (2, t.2.1)) E else bif Nat.beq t.1 3 then k (some (2, t.2.1)) E && k (some (2, t.2.2)) E else bif Nat.beq t.1 5 then k (some (5, 0)) E else false
def en_or (ρ : List Int) : Option en_V → Option Value → Prop
  | none, none => True
  | some a, some v => en_g ρ a v
  | _, _ => False
theorem en_res_ok {t : en_Fd} {ρ : List Int} {E : en_E} {k : Option en_V → en_E → Bool} {o : Option Value} (h : en_res t E k = true) (hE : en_sat ρ E) (ho : en_pr t o) : ∃ ys E' r, en_sat (ρ ++ ys) E' ∧ en_or (ρ ++ ys) r o ∧ k r E' = true := by
  unfold en_res at h
  have nn : ∀ {r : Option en_V}, en_or ρ r o → k r E = true → ∃ ys E' r, en_sat (ρ ++ ys) E' ∧ en_or (ρ ++ ys) r o ∧ k r E' = true := fun hr hk => ⟨[], E, _, by rw [List.append_nil]; exact hE, by rw [List.append_nil]; exact hr, hk⟩
  cases o with
  | none =>
    have ho : t.1 = 9 := ho
    have q : Nat.beq t.1 9 = true := by rw [ho]; rfl
    rw [q] at h
    exact nn (r := none) trivial h
  | some v =>
    rcases ho with ho | ⟨e3, ho⟩
    · cases v with
      | int x =>
        have q9 : Nat.beq t.1 9 = false := by rw [ho.1]; rfl
        have q0 : Nat.beq t.1 0 = true := by rw [ho.1]; rfl
        rw [q9, q0] at h
        have h : en_new E t.2 (fun E v => k (some v) E) = true := h
        obtain ⟨E1, r, g1, g2, g3⟩ := en_new_ok hE h x.toInt ho.2
        exact ⟨_, E1, some r, g1, g2, g3⟩
      | ref p =>
        have q9 : Nat.beq t.1 9 = false := by rw [ho.1]; rfl
        have q0 : Nat.beq t.1 0 = false := by rw [ho.1]; rfl
        have q2 : Nat.beq t.1 2 = true := by rw [ho.1]; rfl
        rw [q9, q0, q2] at h
        exact nn (r := some (2, t.2.1)) ⟨rfl, ho.2⟩ h
      | long x =>
        have ho : t.1 = 5 := ho
        have q9 : Nat.beq t.1 9 = false := by rw [ho]; rfl
        have q0 : Nat.beq t.1 0 = false := by rw [ho]; rfl
        have q2 : Nat.beq t.1 2 = false := by rw [ho]; rfl
        have q3 : Nat.beq t.1 3 = false := by rw [ho]; rfl
        have q5 : Nat.beq t.1 5 = true := by rw [ho]; rfl
        rw [q9, q0, q2, q3, q5] at h
        exact nn (r := some (5, 0)) rfl h
      | null =>
        have ho : t.1 = 1 := ho
        have q9 : Nat.beq t.1 9 = false := by rw [ho]; rfl
        have q0 : Nat.beq t.1 0 = false := by rw [ho]; rfl
        have q2 : Nat.beq t.1 2 = false := by rw [ho]; rfl
        have q3 : Nat.beq t.1 3 = false := by rw [ho]; rfl
        have q5 : Nat.beq t.1 5 = false := by rw [ho]; rfl
        rw [q9, q0, q2, q3, q5] at h
        cases h
      | float _ => exact ho.elim
      | double _ => exact ho.elim
      | retAddr _ => exact ho.elim
    · have q9 : Nat.beq t.1 9 = false := by rw [e3]; rfl
      have q0 : Nat.beq t.1 0 = false := by rw [e3]; rfl
      have q2 : Nat.beq t.1 2 = false := by rw [e3]; rfl
      have q3 : Nat.beq t.1 3 = true := by rw [e3]; rfl
      rw [q9, q0, q2, q3] at h
      obtain ⟨h1, h2⟩ := en_and2 h
      rcases ho with ⟨p, rfl, e⟩ | ⟨p, rfl, e⟩
      · exact nn (r := some (2, t.2.1)) ⟨rfl, e⟩ h1
      · exact nn (r := some (2, t.2.2)) ⟨rfl, e⟩ h2
end
