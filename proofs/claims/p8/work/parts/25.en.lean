/-! branches -/
noncomputable def en_tt (c : ClassFile.Cond) (E : en_E) (a b : en_V) (ka kb : en_E → Bool) : Bool := match c with
  | .eq => en_teq E a b ka kb
  | .ne => en_teq E a b kb ka
  | .lt => en_tlt E a b ka kb
  | .ge => en_tlt E a b kb ka
  | .gt => en_tlt E b a ka kb
  | .le => en_tlt E b a kb ka
noncomputable def en_b1 (c : ClassFile.Cond) (E : en_E) (st : List en_V) (ka kb : List en_V → en_E → Bool) : Bool := match st with
  | a :: r => bif en_isI a.1 then en_tt c E a (0, 0) (ka r) (kb r) else false
  | _ => false
noncomputable def en_b2 (c : ClassFile.Cond) (E : en_E) (st : List en_V) (ka kb : List en_V → en_E → Bool) : Bool := match st with
  | b :: a :: r => bif en_isI a.1 && en_isI b.1 then en_tt c E a b (ka r) (kb r) else false
  | _ => false
noncomputable def en_bn (st : List en_V) (ka kb : List en_V → Bool) : Bool := match st with
  | a :: r => bif Nat.beq a.1 1 then ka r else bif Nat.beq a.1 2 then kb r else false
  | _ => false
noncomputable def en_sw (a : en_V) (k : Nat → en_E → Bool) (d : Nat) : Int → List Nat → en_E → Bool
  | _, [], E => k d E
  | v, b :: r, E => bif en_le (-2147483648) v && en_le v 2147483647 then en_teq E a (0, v) (k b) (fun E => en_sw a k d (v + 1) r E) else false
noncomputable def en_lo (a : en_V) (k : Nat → en_E → Bool) (d : Nat) : List (Int × Int) → List Nat → en_E → Bool
  | [], _, E => k d E
  | _ :: _, [], _ => false
  | v :: vs, b :: r, E => bif en_le (-2147483648) v.1 && en_le v.1 2147483647 then en_teq E a (0, v.1) (k b) (fun E => en_lo a k d vs r E) else false
section EnB
variable {ρ : List Int} {E : en_E} {Φ : sm_Z → Prop}
theorem en_ite {p : Prop} [Decidable p] {X Y : Nat → Option sm_Z} (h : (p ∧ sm_ev X Φ) ∨ (¬ p ∧ sm_ev Y Φ)) : sm_ev (fun n => if p then X n else Y n) Φ := by
  rcases h with ⟨hp, h⟩ | ⟨hp, h⟩
  · simp only [if_pos hp]; exact h
  · simp only [if_neg hp]; exact h
theorem en_tt_ok {c : ClassFile.Cond} {a b : en_V} {x y : Int32} {ka kb : en_E → Bool} {A B : Nat → Option sm_Z} {r : List Value} (hE : en_sat ρ E) (gx : en_gi ρ a x.toInt) (gy : en_gi ρ b y.toInt) (ha : ∀ E', en_sat ρ E' → ka E' = true → sm_ev A Φ) (hb : ∀ E', en_sat ρ E' → kb E' = true → sm_ev B Φ) (h : en_tt c E a b ka kb = true) : sm_ev (fun n => sm_b2 c (.int y :: .int x :: r) (fun _ => A n) (fun _ => B n)) Φ := by
  have rx := en_crange (x := x)
  have ry := en_crange (x := y)
  cases c with
  | eq =>
    obtain ⟨E', s1, s2⟩ := en_teq_ok h hE gx gy rx ry
    refine en_ite (p := x = y) ?_
    rcases s2 with ⟨q, s⟩ | ⟨q, s⟩
    · exact Or.inl ⟨Int32.toInt_inj.mp q, ha _ s1 s⟩
    · exact Or.inr ⟨fun e => q (by rw [e]), hb _ s1 s⟩
  | ne =>
    obtain ⟨E', s1, s2⟩ := en_teq_ok h hE gx gy rx ry
    refine en_ite (p := x = y) ?_
    rcases s2 with ⟨q, s⟩ | ⟨q, s⟩
    · exact Or.inl ⟨Int32.toInt_inj.mp q, hb _ s1 s⟩
    · exact Or.inr ⟨fun e => q (by rw [e]), ha _ s1 s⟩
  | lt =>
    obtain ⟨E', s1, s2⟩ := en_tlt_ok h hE gx gy
    refine en_ite (p := x < y) ?_
    rw [Int32.lt_iff_toInt_lt]
    rcases s2 with ⟨q, s⟩ | ⟨q, s⟩
    · exact Or.inl ⟨q, ha _ s1 s⟩
    · exact Or.inr ⟨q, hb _ s1 s⟩
  | ge =>
    obtain ⟨E', s1, s2⟩ := en_tlt_ok h hE gx gy
    refine en_ite (p := y ≤ x) ?_
    rw [Int32.le_iff_toInt_le]
    rcases s2 with ⟨q, s⟩ | ⟨q, s⟩
    · exact Or.inr ⟨by omega, hb _ s1 s⟩
    · exact Or.inl ⟨by omega, ha _ s1 s⟩
  | gt =>
    obtain ⟨E', s1, s2⟩ := en_tlt_ok h hE gy gx
    refine en_ite (p := y < x) ?_
    rw [Int32.lt_iff_toInt_lt]
    rcases s2 with ⟨q, s⟩ | ⟨q, s⟩
    · exact Or.inl ⟨q, ha _ s1 s⟩
    · exact Or.inr ⟨q, hb _ s1 s⟩
  | le =>
    obtain ⟨E', s1, s2⟩ := en_tlt_ok h hE gy gx
    refine en_ite (p := x ≤ y) ?_
    rw [Int32.le_iff_toInt_le]
    rcases s2 with ⟨q, s⟩ | ⟨q, s⟩
    · exact Or.inr ⟨by omega, hb _ s1 s⟩
    · exact Or.inl ⟨by omega, ha _ s1 s⟩
theorem en_b12 {c : ClassFile.Cond} {x : Int32} {r : List Value} {α : Type} {A B : List Value → Option α} : sm_b1 c (.int x :: r) A B = sm_b2 c (.int 0 :: .int x :: r) A B := by cases c <;> rfl
theorem en_b1_ok {c : ClassFile.Cond} {st : List en_V} {st' : List Value} {ka kb : List en_V → en_E → Bool} {A B : List Value → Nat → Option sm_Z} (hE : en_sat ρ E) (hs : en_gs ρ st st') (ha : ∀ r r' E', en_gs ρ r r' → en_sat ρ E' → ka r E' = true → sm_ev (A r') Φ) (hb : ∀ r r' E', en_gs ρ r r' → en_sat ρ E' → kb r E' = true → sm_ev (B r') Φ) (h : en_b1 c E st ka kb = true) : sm_ev (fun n => sm_b1 c st' (fun r => A r n) (fun r => B r n)) Φ := by
  cases st with
  | nil => cases h
  | cons a r =>
    replace hs := en_gs_cons hs; obtain ⟨v, r', rfl, g, hs⟩ := hs
    replace h := en_bif0 h; obtain ⟨h1, h⟩ := h
    obtain ⟨x, rfl, gx⟩ := en_isI_of h1 g
    simp only [en_b12]
    have e0 : en_gi ρ (0, 0) (0 : Int32).toInt := Or.inl ⟨rfl, by decide⟩
    have := en_tt_ok (A := A r') (B := B r') (r := r') hE gx e0 (fun E' s h => ha r r' E' hs s h) (fun E' s h => hb r r' E' hs s h) h
    cases c <;> exact this
theorem en_b2_ok {c : ClassFile.Cond} {st : List en_V} {st' : List Value} {ka kb : List en_V → en_E → Bool} {A B : List Value → Nat → Option sm_Z} (hE : en_sat ρ E) (hs : en_gs ρ st st') (ha : ∀ r r' E', en_gs ρ r r' → en_sat ρ E' → ka r E' = true → sm_ev (A r') Φ) (hb : ∀ r r' E', en_gs ρ r r' → en_sat ρ E' → kb r E' = true → sm_ev (B r') Φ) (h : en_b2 c E st ka kb = true) : sm_ev (fun n => sm_b2 c st' (fun r => A r n) (fun r => B r n)) Φ := by
  revert hs h
  refine en_two (P := fun st => en_gs ρ st st' → en_b2 c E st ka kb = true → _) (fun _ h => by cases h) (fun _ _ h => by cases h) (fun b a r hs h => ?_) st
  replace hs := en_gs_cons hs; obtain ⟨u, r1, rfl, gb, hs⟩ := hs
  replace hs := en_gs_cons hs; obtain ⟨v, r', rfl, ga, hs⟩ := hs
  replace h := en_bif0 h; obtain ⟨h1, h⟩ := h
  obtain ⟨h1, h2⟩ := en_and2 h1
  obtain ⟨x, rfl, gx⟩ := en_isI_of h1 ga
  obtain ⟨y, rfl, gy⟩ := en_isI_of h2 gb
  have := en_tt_ok (A := A r') (B := B r') (r := r') hE gx gy (fun E' s h => ha r r' E' hs s h) (fun E' s h => hb r r' E' hs s h) h
  cases c <;> exact this
theorem en_bn_ok {st : List en_V} {st' : List Value} {ka kb : List en_V → Bool} {A B : List Value → Nat → Option sm_Z} (hs : en_gs ρ st st') (ha : ∀ r r', en_gs ρ r r' → ka r = true → sm_ev (A r') Φ) (hb : ∀ r r', en_gs ρ r r' → kb r = true → sm_ev (B r') Φ) (h : en_bn st ka kb = true) : sm_ev (fun n => sm_bn st' (fun r => A r n) (fun r => B r n)) Φ := by
  cases st with
  | nil => cases h
  | cons a r =>
    replace hs := en_gs_cons hs; obtain ⟨v, r', rfl, g, hs⟩ := hs
    rcases en_bif h with ⟨h1, h⟩ | ⟨-, h⟩
    · have := en_null_of (en_beq h1) g
      subst this
      exact ha _ _ hs h
    · obtain ⟨h1, h⟩ := en_bif0 h
      obtain ⟨p, rfl, -⟩ := en_ref_of (en_beq h1) g
      exact hb _ _ hs h
theorem en_sw_ok {a : en_V} {x : Int32} {k : Nat → en_E → Bool} {K : Nat → Nat → Option sm_Z} {d : Nat} (gx : en_gi ρ a x.toInt) (hk : ∀ b E', en_sat ρ E' → k b E' = true → sm_ev (K b) Φ) : ∀ (bs : List Nat) (v : Int) (E : en_E), en_sat ρ E → en_sw a k d v bs E = true → sm_ev (fun n => sm_sw x (fun b => K b n) d v bs) Φ
  | [], v, E, hE, h => hk _ _ hE h
  | b :: r, v, E, hE, h => by
    have h : (bif en_le (-2147483648) v && en_le v 2147483647 then en_teq E a (0, v) (k b) (fun E => en_sw a k d (v + 1) r E) else false) = true := h
    obtain ⟨h1, h⟩ := en_bif0 h
    obtain ⟨h1, h2⟩ := en_and2 h1
    obtain ⟨E', s1, s2⟩ := en_teq_ok h hE gx (en_gi0 v) en_crange ⟨en_le_iff.mp h1, en_le_iff.mp h2⟩
    refine en_ite (p := x.toInt = v) ?_
    rcases s2 with ⟨q, s⟩ | ⟨q, s⟩
    · exact Or.inl ⟨q, hk _ _ s1 s⟩
    · exact Or.inr ⟨q, en_sw_ok gx hk r (v + 1) E' s1 s⟩
theorem en_lo_ok {a : en_V} {x : Int32} {k : Nat → en_E → Bool} {K : Nat → Nat → Option sm_Z} {d : Nat} (gx : en_gi ρ a x.toInt) (hk : ∀ b E', en_sat ρ E' → k b E' = true → sm_ev (K b) Φ) : ∀ (vs : List (Int × Int)) (bs : List Nat) (E : en_E), en_sat ρ E → en_lo a k d vs bs E = true → sm_ev (fun n => sm_lo x (fun b => K b n) d vs bs) Φ
  | [], bs, E, hE, h => by cases bs <;> exact hk _ _ hE h
  | v :: vs, [], E, hE, h => by cases h
  | v :: vs, b :: r, E, hE, h => by
    have h : (bif en_le (-2147483648) v.1 && en_le v.1 2147483647 then en_teq E a (0, v.1) (k b) (fun E => en_lo a k d vs r E) else false) = true := h
    obtain ⟨h1, h⟩ := en_bif0 h
    obtain ⟨h1, h2⟩ := en_and2 h1
    obtain ⟨E', s1, s2⟩ := en_teq_ok h hE gx (en_gi0 v.1) en_crange ⟨en_le_iff.mp h1, en_le_iff.mp h2⟩
    refine en_ite (p := x.toInt = v.1) ?_
    rcases s2 with ⟨q, s⟩ | ⟨q, s⟩
    · exact Or.inl ⟨q, hk _ _ s1 s⟩
    · exact Or.inr ⟨q, en_lo_ok gx hk vs r E' s1 s⟩
end EnB
/-! linear forms: a number and a coefficient for each symbol -/
def en_dot : List Int → List Int → Int
  | [], _ => 0
  | _, [] => 0
  | c :: cs, x :: xs => c * x + en_dot cs xs
def en_vadd : List Int → List Int → List Int
  | [], v => v
  | u, [] => u
  | a :: u, b :: v => (a + b) :: en_vadd u v
def en_vneg (u : List Int) : List Int := u.map (fun x => -x)
def en_unit : Nat → Int → List Int
  | 0, c => [c]
  | k + 1, c => 0 :: en_unit k c
noncomputable def en_low : List Int → List (Int × Int) → Int
  | [], _ => 0
  | _, [] => 0
  | c :: cs, q :: qs => (bif en_le 0 c then c * q.1 else c * q.2) + en_low cs qs
theorem en_dot_nil (u : List Int) : en_dot u [] = 0 := by cases u <;> rfl
theorem en_dot_add : ∀ (u v xs : List Int), en_dot (en_vadd u v) xs = en_dot u xs + en_dot v xs
  | [], v, xs => by show en_dot v xs = 0 + en_dot v xs; omega
  | a :: u, [], xs => by show en_dot (a :: u) xs = en_dot (a :: u) xs + 0; omega
  | a :: u, b :: v, [] => by rw [en_dot_nil, en_dot_nil, en_dot_nil]; rfl
  | a :: u, b :: v, x :: xs => by
    show (a + b) * x + en_dot (en_vadd u v) xs = (a * x + en_dot u xs) + (b * x + en_dot v xs)
    rw [en_dot_add u v xs, Int.add_mul]
    omega
theorem en_dot_neg : ∀ (u xs : List Int), en_dot (en_vneg u) xs = -en_dot u xs
  | [], xs => rfl
  | a :: u, [] => by rw [en_dot_nil, en_dot_nil]; rfl
  | a :: u, x :: xs => by
    show (-a) * x + en_dot (en_vneg u) xs = -(a * x + en_dot u xs)
    rw [en_dot_neg u xs, Int.neg_mul]
    omega
theorem en_dot_unit : ∀ (k : Nat) (c m : Int) (xs : List Int), xs[k]? = some m → en_dot (en_unit k c) xs = c * m
  | 0, c, m, [], h => by cases h
  | 0, c, m, x :: xs, h => by
    have hm : x = m := Option.some.inj h
    subst hm
    show c * x + en_dot [] xs = c * x
    have : en_dot [] xs = 0 := rfl
    omega
  | k + 1, c, m, [], h => by cases h
  | k + 1, c, m, x :: xs, h => by
    show 0 * x + en_dot (en_unit k c) xs = c * m
    rw [en_dot_unit k c m xs h]
    omega
theorem en_low_ok : ∀ (u : List Int) (E : List (Int × Int)) (xs : List Int), E.length = xs.length → (∀ (k : Nat) (m : Int) (q : Int × Int), xs[k]? = some m → E[k]? = some q → q.1 ≤ m ∧ m ≤ q.2) → en_low u E ≤ en_dot u xs
  | [], _, _, _, _ => Int.le_refl _
  | c :: u, [], [], _, _ => Int.le_refl _
  | c :: u, q :: E, x :: xs, hl, h => by
    have h0 := h 0 x q rfl rfl
    have ih := en_low_ok u E xs (by simpa using hl) (fun k m q' e1 e2 => h (k + 1) m q' e1 e2)
    show (bif en_le 0 c then c * q.1 else c * q.2) + en_low u E ≤ c * x + en_dot u xs
    cases e : en_le 0 c with
    | true =>
      have e := en_le_iff.mp e
      have := Int.mul_le_mul_of_nonneg_left h0.1 e
      show c * q.1 + en_low u E ≤ _
      omega
    | false =>
      have e := en_le_no e
      have := Int.mul_le_mul_of_nonpos_left (a := c) (by omega) h0.2
      show c * q.2 + en_low u E ≤ _
      omega
/-- the measure: a number and a coefficient for each of the live locals -/
def en_mv : List Int → List Value → Int
  | c :: cs, .int x :: vs => c * x.toInt + en_mv cs vs
  | _ :: cs, _ :: vs => en_mv cs vs
  | _, _ => 0
def en_ml : List Int → List en_V → Int × List Int
  | c :: cs, a :: as => bif Nat.beq a.1 0 then (c * a.2 + (en_ml cs as).1, (en_ml cs as).2) else bif Nat.ble 7 a.1 then (c * a.2 + (en_ml cs as).1, en_vadd (en_unit (a.1 - 7) c) (en_ml cs as).2) else en_ml cs as
  | _, _ => (0, [])
theorem en_ml_ok {ρ : List Int} : ∀ (cs : List Int) (as : List en_V) (vs : List Value), en_gs ρ as vs → (en_ml cs as).1 + en_dot (en_ml cs as).2 ρ = en_mv cs vs
  | [], _, _, _ => by simp only [en_ml, en_mv]; rfl
  | c :: cs, [], [], _ => rfl
  | c :: cs, a :: as, v :: vs, h => by
    have ih := en_ml_ok cs as vs h.2
    obtain ⟨t, i⟩ := a
    have hg := h.1
    cases v with
    | int x =>
      rcases hg with ⟨q, e⟩ | ⟨q, m, e1, e2⟩
      · have q : t = 0 := q
        subst q
        show (c * i + (en_ml cs as).1) + en_dot (en_ml cs as).2 ρ = c * x.toInt + en_mv cs vs
        have e : x.toInt = i := e
        rw [e]
        omega
      · have q : 7 ≤ t := q
        have e1 : ρ[t - 7]? = some m := e1
        have e2 : x.toInt = m + i := e2
        have b1 : Nat.beq t 0 = false := by
          cases e : Nat.beq t 0 with
          | false => rfl
          | true => have := en_beq e; omega
        have b2 : Nat.ble 7 t = true := Nat.ble_eq_true_of_le q
        have u : en_ml (c :: cs) ((t, i) :: as) = (c * i + (en_ml cs as).1, en_vadd (en_unit (t - 7) c) (en_ml cs as).2) := by
          show (bif Nat.beq t 0 then _ else bif Nat.ble 7 t then _ else _) = _
          rw [b1, b2]
          rfl
        rw [u]
        show (c * i + (en_ml cs as).1) + en_dot (en_vadd (en_unit (t - 7) c) (en_ml cs as).2) ρ = c * x.toInt + en_mv cs vs
        rw [en_dot_add, en_dot_unit _ _ _ _ e1, e2, Int.mul_add]
        omega
    | long x => have q : t = 5 := hg; subst q; exact ih
    | null => have q : t = 1 := hg; subst q; exact ih
    | ref p => have q : t = 2 := hg.1; subst q; exact ih
    | float _ => exact hg.elim
    | double _ => exact hg.elim
    | retAddr _ => exact hg.elim
  | _ :: _, [], _ :: _, h => h.elim
  | _ :: _, _ :: _, [], h => h.elim
