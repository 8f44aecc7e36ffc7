/-! symbols with intervals; arithmetic; tests -/
def en_sat (ρ : List Int) (E : en_E) : Prop := E.length = ρ.length ∧ ∀ (k : Nat) (m : Int) (q : Int × Int), ρ[k]? = some m → E[k]? = some q → q.1 ≤ m ∧ m ≤ q.2
def en_iv (E : en_E) (a : en_V) : Int × Int := bif Nat.beq a.1 0 then (a.2, a.2) else match E[Nat.sub a.1 7]? with
  | some q => (q.1 + a.2, q.2 + a.2)
  | none => en_full
noncomputable def en_cap (q : Int × Int) : Int × Int := bif en_le (-2147483648) q.1 && en_le q.2 2147483647 then q else en_full
def en_new (E : en_E) (q : Int × Int) (c : en_E → en_V → Bool) : Bool := c (E ++ [q]) (Nat.add 7 E.length, 0)
noncomputable def en_sub (p q : Int × Int) : Bool := en_le q.1 p.1 && en_le p.2 q.2
section EnA
variable {ρ : List Int} {E : en_E} {a b : en_V} {n : Int}
theorem en_bif {p : Bool} {x y : Bool} (h : (bif p then x else y) = true) : (p = true ∧ x = true) ∨ (p = false ∧ y = true) := by
  cases p
  · exact Or.inr ⟨rfl, h⟩
  · exact Or.inl ⟨rfl, h⟩
theorem en_bif0 {p : Bool} {x : Bool} (h : (bif p then x else false) = true) : p = true ∧ x = true := by
  rcases en_bif h with q | ⟨-, q⟩
  · exact q
  · cases q
theorem en_and2 {p q : Bool} (h : (p && q) = true) : p = true ∧ q = true := Bool.and_eq_true_iff.mp h
theorem en_isI0 (h : a.1 = 0) : en_isI a.1 = true := by rw [h]; rfl
theorem en_isI7 (h : 7 ≤ a.1) : en_isI a.1 = true := by
  have : Nat.ble 7 a.1 = true := Nat.ble_eq_true_of_le h
  simp only [en_isI, this, Bool.or_true]
theorem en_crange {x : Int32} : -2147483648 ≤ x.toInt ∧ x.toInt ≤ 2147483647 := by
  have l1 := Int32.le_toInt x
  have l2 := Int32.toInt_lt x
  have e31 : (2 : Int) ^ 31 = 2147483648 := by decide
  rw [e31] at l1 l2
  omega
theorem en_ofI {x y : Int32} (h : x.toInt = y.toInt) : x = y := Int32.toInt_inj.mp h
theorem en_bmod {s r : Int} (h1 : -2147483648 ≤ r) (h2 : r ≤ 2147483647) (h : s = r ∨ s + 4294967296 = r ∨ s - 4294967296 = r) : s.bmod (2 ^ 32) = r := by
  have e : (2 ^ 32 : Nat) = 4294967296 := by decide
  rw [e, Int.bmod_def]
  split <;> omega
theorem en_iv_ok (hE : en_sat ρ E) (hg : en_gi ρ a n) (hr : -2147483648 ≤ n ∧ n ≤ 2147483647) : (en_iv E a).1 ≤ n ∧ n ≤ (en_iv E a).2 := by
  unfold en_iv
  rcases hg with ⟨q, rfl⟩ | ⟨q, m, h1, rfl⟩
  · have : Nat.beq a.1 0 = true := by rw [q]; rfl
    rw [this]
    exact ⟨Int.le_refl _, Int.le_refl _⟩
  · have : Nat.beq a.1 0 = false := by
      cases e : Nat.beq a.1 0 with
      | false => rfl
      | true => have := en_beq e; omega
    rw [this]
    have e' : Nat.sub a.1 7 = a.1 - 7 := rfl
    rw [e']
    show (match E[a.1 - 7]? with
      | some q => (q.1 + a.2, q.2 + a.2)
      | none => en_full).1 ≤ m + a.2 ∧ m + a.2 ≤ (match E[a.1 - 7]? with
      | some q => (q.1 + a.2, q.2 + a.2)
      | none => en_full).2
    cases e : E[a.1 - 7]? with
    | none => exact hr
    | some q =>
      have := hE.2 _ _ _ h1 e
      exact ⟨by show q.1 + a.2 ≤ m + a.2; omega, by show m + a.2 ≤ q.2 + a.2; omega⟩
theorem en_ivx {x : Int32} (hE : en_sat ρ E) (hg : en_gi ρ a x.toInt) : (en_iv E a).1 ≤ x.toInt ∧ x.toInt ≤ (en_iv E a).2 := en_iv_ok hE hg en_crange
theorem en_sub_of {p q : Int × Int} (h : en_sub p q = true) : q.1 ≤ p.1 ∧ p.2 ≤ q.2 := by
  obtain ⟨h1, h2⟩ := en_and2 h
  exact ⟨en_le_iff.mp h1, en_le_iff.mp h2⟩
theorem en_new_ok {q : Int × Int} {c : en_E → en_V → Bool} (hE : en_sat ρ E) (h : en_new E q c = true) (m : Int) (hm : q.1 ≤ m ∧ m ≤ q.2) : ∃ E' r, en_sat (ρ ++ [m]) E' ∧ en_gi (ρ ++ [m]) r m ∧ c E' r = true := by
  refine ⟨E ++ [q], (7 + E.length, 0), ⟨by simp [hE.1], fun k m' q' h1 h2 => ?_⟩, Or.inr ⟨by show 7 ≤ 7 + E.length; omega, m, ?_, by omega⟩, h⟩
  · rcases Nat.lt_or_ge k ρ.length with hk | hk
    · rw [List.getElem?_append_left hk] at h1
      rw [List.getElem?_append_left (by rw [hE.1]; exact hk)] at h2
      exact hE.2 k m' q' h1 h2
    · rw [List.getElem?_append_right hk] at h1
      rw [List.getElem?_append_right (by rw [hE.1]; exact hk), hE.1] at h2
      cases e : k - ρ.length with
      | zero =>
        rw [e] at h1 h2
        cases h1
        cases h2
        exact hm
      | succ i => rw [e] at h1; simp at h1
  · have e : ((7 + E.length, 0) : en_V).1 - 7 = ρ.length := by show 7 + E.length - 7 = _; rw [hE.1]; omega
    rw [e]
    simp
/-- an operation of two ints: what is known of its answer -/
def en_ivok (f : Int32 → Int32 → Int32) (g : Int × Int → Int × Int → Int × Int) : Prop := ∀ (p q : Int × Int) (x y : Int32), p.1 ≤ x.toInt → x.toInt ≤ p.2 → q.1 ≤ y.toInt → y.toInt ≤ q.2 → (g p q).1 ≤ (f x y).toInt ∧ (f x y).toInt ≤ (g p q).2
noncomputable def en_bin (f : Int32 → Int32 → Int32) (g : Int × Int → Int × Int → Int × Int) (E : en_E) (a b : en_V) (c : en_E → en_V → Bool) : Bool := bif Nat.beq a.1 0 && Nat.beq b.1 0 then c E (0, (f (Int32.ofInt a.2) (Int32.ofInt b.2)).toInt) else bif en_isI a.1 && en_isI b.1 then en_new E (g (en_iv E a) (en_iv E b)) c else false
def en_binok (bin : en_E → en_V → en_V → (en_E → en_V → Bool) → Bool) (f : Int32 → Int32 → Int32) : Prop := ∀ (ρ : List Int) (E : en_E) (a b : en_V) (v u : Value) (c : en_E → en_V → Bool), en_sat ρ E → bin E a b c = true → en_g ρ a v → en_g ρ b u → ∃ (x y : Int32) (r : en_V) (E' : en_E) (ys : List Int), v = .int x ∧ u = .int y ∧ en_sat (ρ ++ ys) E' ∧ en_g (ρ ++ ys) r (.int (f x y)) ∧ c E' r = true
theorem en_cI {x : Int32} (h : a.1 = 0) (hg : en_gi ρ a x.toInt) : x.toInt = a.2 := by
  rcases hg with ⟨-, q⟩ | ⟨q, -⟩
  · exact q
  · omega
theorem en_cI' {x : Int32} (h : a.1 = 0) (hg : en_gi ρ a x.toInt) : x = Int32.ofInt a.2 := by rw [← en_cI h hg, Int32.ofInt_toInt]
theorem en_bin_ok {f : Int32 → Int32 → Int32} {g : Int × Int → Int × Int → Int × Int} (hf : en_ivok f g) : en_binok (en_bin f g) f := by
  intro ρ E a b v u c hE h ha hb
  unfold en_bin at h
  rcases en_bif h with ⟨q, h⟩ | ⟨-, h⟩
  · obtain ⟨q1, q2⟩ := en_and2 q
    have q1 := en_beq q1
    have q2 := en_beq q2
    obtain ⟨x, rfl, gx⟩ := en_isI_of (en_isI0 q1) ha
    obtain ⟨y, rfl, gy⟩ := en_isI_of (en_isI0 q2) hb
    refine ⟨x, y, _, E, [], rfl, rfl, by rw [List.append_nil]; exact hE, ?_, h⟩
    rw [← en_cI' q1 gx, ← en_cI' q2 gy, List.append_nil]
    exact en_gi0 _
  · obtain ⟨q, h⟩ := en_bif0 h
    obtain ⟨q1, q2⟩ := en_and2 q
    obtain ⟨x, rfl, gx⟩ := en_isI_of q1 ha
    obtain ⟨y, rfl, gy⟩ := en_isI_of q2 hb
    have i1 := en_ivx hE gx
    have i2 := en_ivx hE gy
    obtain ⟨E', r, g1, g2, g3⟩ := en_new_ok hE h (f x y).toInt (hf _ _ x y i1.1 i1.2 i2.1 i2.2)
    exact ⟨x, y, r, E', _, rfl, rfl, g1, g2, g3⟩
theorem en_cap_of {q : Int × Int} {n : Int} (hr : -2147483648 ≤ n ∧ n ≤ 2147483647) (h : (-2147483648 ≤ q.1 ∧ q.2 ≤ 2147483647) → q.1 ≤ n ∧ n ≤ q.2) : (en_cap q).1 ≤ n ∧ n ≤ (en_cap q).2 := by
  unfold en_cap
  cases e : (en_le (-2147483648) q.1 && en_le q.2 2147483647) with
  | true =>
    obtain ⟨e1, e2⟩ := en_and2 e
    exact h ⟨en_le_iff.mp e1, en_le_iff.mp e2⟩
  | false => exact hr
/-! intervals of operations -/
noncomputable def en_gadd (p q : Int × Int) : Int × Int := en_cap (p.1 + q.1, p.2 + q.2)
theorem en_gadd_ok : en_ivok (fun x y => x + y) en_gadd := by
  intro p q x y h1 h2 h3 h4
  refine en_cap_of en_crange (fun ⟨c1, c2⟩ => ?_)
  simp only at c1 c2 ⊢
  rw [Int32.toInt_add, en_bmod (r := x.toInt + y.toInt) (by omega) (by omega) (Or.inl rfl)]
  omega
noncomputable def en_gsub (p q : Int × Int) : Int × Int := en_cap (p.1 - q.2, p.2 - q.1)
theorem en_gsub_ok : en_ivok (fun x y => x - y) en_gsub := by
  intro p q x y h1 h2 h3 h4
  refine en_cap_of en_crange (fun ⟨c1, c2⟩ => ?_)
  simp only at c1 c2 ⊢
  rw [Int32.toInt_sub, en_bmod (r := x.toInt - y.toInt) (by omega) (by omega) (Or.inl rfl)]
  omega
/-- products of numbers that aren't below 0 -/
noncomputable def en_gmul (p q : Int × Int) : Int × Int := bif en_le 0 p.1 && en_le 0 q.1 then en_cap (p.1 * q.1, p.2 * q.2) else en_full
theorem en_gmul_ok : en_ivok (fun x y => x * y) en_gmul := by
  intro p q x y h1 h2 h3 h4
  unfold en_gmul
  cases e : (en_le 0 p.1 && en_le 0 q.1) with
  | false => exact en_crange
  | true =>
    obtain ⟨e1, e2⟩ := en_and2 e
    have e1 := en_le_iff.mp e1
    have e2 := en_le_iff.mp e2
    refine en_cap_of en_crange (fun ⟨c1, c2⟩ => ?_)
    simp only at c1 c2 ⊢
    have m1 : p.1 * q.1 ≤ x.toInt * y.toInt := Int.mul_le_mul h1 h3 e2 (by omega)
    have m2 : x.toInt * y.toInt ≤ p.2 * q.2 := Int.mul_le_mul h2 h4 (by omega) (by omega)
    rw [Int32.toInt_mul, en_bmod (r := x.toInt * y.toInt) (by omega) (by omega) (Or.inl rfl)]
    exact ⟨m1, m2⟩
def en_gfull (_ _ : Int × Int) : Int × Int := en_full
theorem en_gfull_ok (f : Int32 → Int32 → Int32) : en_ivok f en_gfull := fun _ _ _ _ _ _ _ _ => en_crange
theorem en_bits {x : Int32} (h : 0 ≤ x.toInt) : x.toInt = (x.toBitVec.toNat : Int) := by
  have e : x.toInt = x.toBitVec.toInt := rfl
  rw [e] at h ⊢
  have hlt := x.toBitVec.isLt
  rw [BitVec.toInt_eq_toNat_cond] at h ⊢
  split
  · rfl
  · next c => rw [if_neg c] at h; omega
theorem en_bits2 {x : Int32} {m : Nat} (h : x.toBitVec.toNat ≤ m) (hm : m < 2147483648) : 0 ≤ x.toInt ∧ x.toInt ≤ m := by
  have e : x.toInt = x.toBitVec.toInt := rfl
  rw [e, BitVec.toInt_eq_toNat_of_lt (by omega)]
  omega
noncomputable def en_gand (p q : Int × Int) : Int × Int := bif en_le 0 p.1 then (0, p.2) else bif en_le 0 q.1 then (0, q.2) else en_full
theorem en_gand_ok : en_ivok (fun x y => x &&& y) en_gand := by
  intro p q x y h1 h2 h3 h4
  unfold en_gand
  have r1 := en_crange (x := x)
  have r2 := en_crange (x := y)
  cases e : en_le 0 p.1 with
  | true =>
    have e := en_le_iff.mp e
    have hx : 0 ≤ x.toInt := by omega
    have hb := en_bits hx
    have : (x &&& y).toBitVec.toNat ≤ x.toBitVec.toNat := by
      rw [Int32.toBitVec_and, BitVec.toNat_and]; exact Nat.and_le_left
    have h5 := en_bits2 this (by omega)
    show 0 ≤ (x &&& y).toInt ∧ (x &&& y).toInt ≤ p.2
    omega
  | false =>
    cases e2 : en_le 0 q.1 with
    | true =>
      have e2 := en_le_iff.mp e2
      have hy : 0 ≤ y.toInt := by omega
      have hb := en_bits hy
      have : (x &&& y).toBitVec.toNat ≤ y.toBitVec.toNat := by
        rw [Int32.toBitVec_and, BitVec.toNat_and]; exact Nat.and_le_right
      have h5 := en_bits2 this (by omega)
      show 0 ≤ (x &&& y).toInt ∧ (x &&& y).toInt ≤ q.2
      omega
    | false => exact en_crange
/-- of numbers below 1024 the or is below 1024 -/
noncomputable def en_gor (p q : Int × Int) : Int × Int := bif (en_le 0 p.1 && en_le 0 q.1) && (en_le p.2 1023 && en_le q.2 1023) then (0, 1023) else en_full
theorem en_gor_ok : en_ivok (fun x y => x ||| y) en_gor := by
  intro p q x y h1 h2 h3 h4
  unfold en_gor
  cases e : ((en_le 0 p.1 && en_le 0 q.1) && (en_le p.2 1023 && en_le q.2 1023)) with
  | false => exact en_crange
  | true =>
    obtain ⟨e1, e2⟩ := en_and2 e
    obtain ⟨e3, e4⟩ := en_and2 e1
    obtain ⟨e5, e6⟩ := en_and2 e2
    have e3 := en_le_iff.mp e3
    have e4 := en_le_iff.mp e4
    have e5 := en_le_iff.mp e5
    have e6 := en_le_iff.mp e6
    have b1 := en_bits (x := x) (by omega)
    have b2 := en_bits (x := y) (by omega)
    have : (x ||| y).toBitVec.toNat < 2 ^ 10 := by
      rw [Int32.toBitVec_or, BitVec.toNat_or]
      exact Nat.or_lt_two_pow (by show _ < 1024; omega) (by show _ < 1024; omega)
    have h5 := en_bits2 (m := 1023) (Nat.le_of_lt_succ this) (by decide)
    exact h5
/-- 1 moved up by at most 20 -/
noncomputable def en_gshl (p q : Int × Int) : Int × Int := bif (en_eq p.1 1 && en_eq p.2 1) && (en_le 0 q.1 && en_le q.2 20) then (1, (2 : Int) ^ q.2.toNat) else en_full
theorem en_shl1 : ∀ k : Nat, k ≤ 20 → ((1 : Int32) <<< (Int32.ofNat k &&& 31)).toInt = (2 : Int) ^ k := by decide
theorem en_gshl_ok : en_ivok (fun x y => x <<< (y &&& 31)) en_gshl := by
  intro p q x y h1 h2 h3 h4
  unfold en_gshl
  cases e : ((en_eq p.1 1 && en_eq p.2 1) && (en_le 0 q.1 && en_le q.2 20)) with
  | false => exact en_crange
  | true =>
    obtain ⟨e1, e2⟩ := en_and2 e
    obtain ⟨e3, e4⟩ := en_and2 e1
    obtain ⟨e5, e6⟩ := en_and2 e2
    have e3 := en_eq_iff.mp e3
    have e4 := en_eq_iff.mp e4
    have e5 := en_le_iff.mp e5
    have e6 := en_le_iff.mp e6
    have ex : x = 1 := en_ofI (by have : (1 : Int32).toInt = 1 := by decide
                                  rw [this]; omega)
    have ey : y = Int32.ofNat y.toInt.toNat := by
      apply en_ofI
      rw [Int32.toInt_ofNat', show Int32.size = 2 ^ 32 from rfl, en_bmod (r := y.toInt) (by omega) (by omega) (Or.inl (by omega))]
    subst ex
    rw [ey]
    show 1 ≤ ((1 : Int32) <<< (Int32.ofNat y.toInt.toNat &&& 31)).toInt ∧ _ ≤ (2 : Int) ^ q.2.toNat
    rw [en_shl1 _ (by omega)]
    have m1 : (1 : Int) ≤ 2 ^ y.toInt.toNat := by
      have := Nat.one_le_two_pow (n := y.toInt.toNat)
      have h : ((2 ^ y.toInt.toNat : Nat) : Int) = (2 : Int) ^ y.toInt.toNat := by simp
      omega
    have m2 : (2 : Int) ^ y.toInt.toNat ≤ 2 ^ q.2.toNat := by
      have := Nat.pow_le_pow_right (n := 2) (by decide) (show y.toInt.toNat ≤ q.2.toNat by omega)
      have h : ((2 ^ y.toInt.toNat : Nat) : Int) = (2 : Int) ^ y.toInt.toNat := by simp
      have h' : ((2 ^ q.2.toNat : Nat) : Int) = (2 : Int) ^ q.2.toNat := by simp
      omega
    exact ⟨m1, m2⟩
noncomputable def en_gmax (p q : Int × Int) : Int × Int := (bif en_le p.1 q.1 then q.1 else p.1, bif en_le p.2 q.2 then q.2 else p.2)
noncomputable def en_gmin (p q : Int × Int) : Int × Int := (bif en_le p.1 q.1 then p.1 else q.1, bif en_le p.2 q.2 then p.2 else q.2)
theorem en_selB {c : Bool} {x y : Int} : (bif c then x else y) = if c = true then x else y := by cases c <;> rfl
theorem en_gmax_ok : en_ivok (fun x y => if x < y then y else x) en_gmax := by
  intro p q x y h1 h2 h3 h4
  unfold en_gmax
  simp only [en_selB, en_le_iff]
  by_cases c : x < y
  · rw [if_pos c]; rw [Int32.lt_iff_toInt_lt] at c
    constructor <;> split <;> omega
  · rw [if_neg c]; rw [Int32.lt_iff_toInt_lt] at c
    constructor <;> split <;> omega
theorem en_gmin_ok : en_ivok (fun x y => if y < x then y else x) en_gmin := by
  intro p q x y h1 h2 h3 h4
  unfold en_gmin
  simp only [en_selB, en_le_iff]
  by_cases c : y < x
  · rw [if_pos c]; rw [Int32.lt_iff_toInt_lt] at c
    constructor <;> split <;> omega
  · rw [if_neg c]; rw [Int32.lt_iff_toInt_lt] at c
    constructor <;> split <;> omega
/-! tests: a value against another one; of a symbol the interval becomes less -/
noncomputable def en_cut (E : en_E) (a : en_V) (lo hi : Int) (K : en_E → Bool) : Bool :=
  bif en_le (bif en_le (en_iv E a).1 lo then lo else (en_iv E a).1) (bif en_le hi (en_iv E a).2 then hi else (en_iv E a).2) then (bif Nat.beq a.1 0 then K E else K (E.set (Nat.sub a.1 7) ((bif en_le (en_iv E a).1 lo then lo else (en_iv E a).1) - a.2, (bif en_le hi (en_iv E a).2 then hi else (en_iv E a).2) - a.2))) else true
theorem en_cut_ok {lo hi : Int} {K : en_E → Bool} (h : en_cut E a lo hi K = true) (hE : en_sat ρ E) (hg : en_gi ρ a n) (hr : -2147483648 ≤ n ∧ n ≤ 2147483647) (h1 : lo ≤ n) (h2 : n ≤ hi) : ∃ E', en_sat ρ E' ∧ K E' = true := by
  have i := en_iv_ok hE hg hr
  unfold en_cut at h
  have hl : (bif en_le (en_iv E a).1 lo then lo else (en_iv E a).1) ≤ n := by
    cases en_le (en_iv E a).1 lo
    · exact i.1
    · exact h1
  have hh : n ≤ (bif en_le hi (en_iv E a).2 then hi else (en_iv E a).2) := by
    cases en_le hi (en_iv E a).2
    · exact i.2
    · exact h2
  rcases en_bif h with ⟨-, h⟩ | ⟨q, -⟩
  · rcases en_bif h with ⟨-, h⟩ | ⟨q, h⟩
    · exact ⟨E, hE, h⟩
    · have q := en_bne q
      refine ⟨_, ?_, h⟩
      rcases hg with ⟨q', -⟩ | ⟨q7, m, k1, rfl⟩
      · exact absurd q' q
      · refine ⟨by rw [List.length_set]; exact hE.1, fun k m' r e1 e2 => ?_⟩
        rw [List.getElem?_set] at e2
        have e' : Nat.sub a.1 7 = a.1 - 7 := rfl
        rw [e'] at e2
        by_cases c : a.1 - 7 = k
        · rw [if_pos c] at e2
          subst c
          rw [k1] at e1
          cases e1
          split at e2
          · cases e2
            exact ⟨by show _ - a.2 ≤ m; omega, by show m ≤ _ - a.2; omega⟩
          · cases e2
        · rw [if_neg c] at e2
          exact hE.2 k m' r e1 e2
  · have := en_le_no q
    omega
/-! a symbol and a number -/
noncomputable def en_off (E : en_E) (a : en_V) (z : Int) (c : en_E → en_V → Bool) : Bool := bif en_le (-2147483648) ((en_iv E a).1 + z) && en_le ((en_iv E a).2 + z) 2147483647 then c E (a.1, a.2 + z) else en_new E en_full c
/-- a number from 10 on taken from a symbol: where it may go round, both ways -/
noncomputable def en_offm (E : en_E) (a : en_V) (z : Int) (c : en_E → en_V → Bool) : Bool := bif en_le 10 z && en_le ((en_iv E a).1 - z) (-2147483649) then en_new E (2147483648 - z, 2147483647) c && en_cut E a (-2147483648 + z) 2147483647 (fun E => c E (a.1, a.2 + -z)) else en_off E a (-z) c
noncomputable def en_add (E : en_E) (a b : en_V) (c : en_E → en_V → Bool) : Bool :=
  bif Nat.ble 7 a.1 && Nat.beq b.1 0 then en_off E a b.2 c
  else bif Nat.ble 7 b.1 && Nat.beq a.1 0 then en_off E b a.2 c else en_bin (fun x y => x + y) en_gadd E a b c
noncomputable def en_subv (E : en_E) (a b : en_V) (c : en_E → en_V → Bool) : Bool :=
  bif Nat.ble 7 a.1 && Nat.beq b.1 0 then en_offm E a b.2 c else en_bin (fun x y => x - y) en_gsub E a b c
theorem en_off_ok {z : Int} {x w : Int32} {c : en_E → en_V → Bool} (h : en_off E a z c = true) (h7 : 7 ≤ a.1) (hE : en_sat ρ E) (hg : en_gi ρ a x.toInt) (hw : w.toInt = (x.toInt + z).bmod (2 ^ 32)) : ∃ r E' ys, en_sat (ρ ++ ys) E' ∧ en_g (ρ ++ ys) r (.int w) ∧ c E' r = true := by
  unfold en_off at h
  have i := en_ivx hE hg
  rcases en_bif h with ⟨q, h⟩ | ⟨-, h⟩
  · obtain ⟨q1, q2⟩ := en_and2 q
    have q1 := en_le_iff.mp q1
    have q2 := en_le_iff.mp q2
    rw [en_bmod (r := x.toInt + z) (by omega) (by omega) (Or.inl rfl)] at hw
    refine ⟨_, E, [], by rw [List.append_nil]; exact hE, ?_, h⟩
    rw [List.append_nil]
    rcases hg with ⟨q, -⟩ | ⟨-, m, k1, k2⟩
    · omega
    · exact Or.inr ⟨h7, m, k1, by show w.toInt = m + (a.2 + z); omega⟩
  · obtain ⟨E', r, g1, g2, g3⟩ := en_new_ok hE h w.toInt en_crange
    exact ⟨r, E', _, g1, g2, g3⟩
theorem en_offm_ok {z : Int} {x w : Int32} {c : en_E → en_V → Bool} (h : en_offm E a z c = true) (h7 : 7 ≤ a.1) (hE : en_sat ρ E) (hg : en_gi ρ a x.toInt) (hz : z ≤ 2147483647) (hw : w.toInt = (x.toInt + -z).bmod (2 ^ 32)) : ∃ r E' ys, en_sat (ρ ++ ys) E' ∧ en_g (ρ ++ ys) r (.int w) ∧ c E' r = true := by
  unfold en_offm at h
  rcases en_bif h with ⟨q, h⟩ | ⟨-, h⟩
  · obtain ⟨q1, -⟩ := en_and2 q
    have q1 := en_le_iff.mp q1
    obtain ⟨h1, h2⟩ := en_and2 h
    have i := en_crange (x := x)
    by_cases o : x.toInt < -2147483648 + z
    · rw [en_bmod (r := x.toInt + -z + 4294967296) (by omega) (by omega) (Or.inr (Or.inl rfl))] at hw
      obtain ⟨E', r, g1, g2, g3⟩ := en_new_ok hE h1 w.toInt (by show 2147483648 - z ≤ w.toInt ∧ w.toInt ≤ 2147483647; omega)
      exact ⟨r, E', _, g1, g2, g3⟩
    · rw [en_bmod (r := x.toInt + -z) (by omega) (by omega) (Or.inl rfl)] at hw
      obtain ⟨E', g1, g2⟩ := en_cut_ok h2 hE hg i (by omega) i.2
      refine ⟨_, E', [], by rw [List.append_nil]; exact g1, ?_, g2⟩
      rw [List.append_nil]
      rcases hg with ⟨q, -⟩ | ⟨-, m, k1, k2⟩
      · omega
      · exact Or.inr ⟨h7, m, k1, by show w.toInt = m + (a.2 + -z); omega⟩
  · exact en_off_ok h h7 hE hg hw
theorem en_add_ok : en_binok en_add (fun x y => x + y) := by
  intro ρ E a b v u c hE h ha hb
  unfold en_add at h
  rcases en_bif h with ⟨q, h⟩ | ⟨-, h⟩
  · obtain ⟨q1, q2⟩ := en_and2 q
    have q1 := en_ble q1
    have q2 := en_beq q2
    obtain ⟨x, rfl, gx⟩ := en_isI_of (en_isI7 q1) ha
    obtain ⟨y, rfl, gy⟩ := en_isI_of (en_isI0 q2) hb
    obtain ⟨r, E', ys, g1, g2, g3⟩ := en_off_ok (w := x + y) h q1 hE gx (by rw [← en_cI q2 gy, Int32.toInt_add])
    exact ⟨x, y, r, E', ys, rfl, rfl, g1, g2, g3⟩
  · rcases en_bif h with ⟨q, h⟩ | ⟨-, h⟩
    · obtain ⟨q1, q2⟩ := en_and2 q
      have q1 := en_ble q1
      have q2 := en_beq q2
      obtain ⟨y, rfl, gy⟩ := en_isI_of (en_isI7 q1) hb
      obtain ⟨x, rfl, gx⟩ := en_isI_of (en_isI0 q2) ha
      obtain ⟨r, E', ys, g1, g2, g3⟩ := en_off_ok (w := x + y) h q1 hE gy (by rw [← en_cI q2 gx, Int32.toInt_add, Int.add_comm])
      exact ⟨x, y, r, E', ys, rfl, rfl, g1, g2, g3⟩
    · exact en_bin_ok en_gadd_ok ρ E a b v u c hE h ha hb
theorem en_subv_ok : en_binok en_subv (fun x y => x - y) := by
  intro ρ E a b v u c hE h ha hb
  unfold en_subv at h
  rcases en_bif h with ⟨q, h⟩ | ⟨-, h⟩
  · obtain ⟨q1, q2⟩ := en_and2 q
    have q1 := en_ble q1
    have q2 := en_beq q2
    obtain ⟨x, rfl, gx⟩ := en_isI_of (en_isI7 q1) ha
    obtain ⟨y, rfl, gy⟩ := en_isI_of (en_isI0 q2) hb
    obtain ⟨r, E', ys, g1, g2, g3⟩ := en_offm_ok (w := x - y) h q1 hE gx (by rw [← en_cI q2 gy]; exact en_crange.2) (by rw [← en_cI q2 gy, Int32.toInt_sub, Int.sub_eq_add_neg])
    exact ⟨x, y, r, E', ys, rfl, rfl, g1, g2, g3⟩
  · exact en_bin_ok en_gsub_ok ρ E a b v u c hE h ha hb
noncomputable def en_tlt (E : en_E) (a b : en_V) (kt kf : en_E → Bool) : Bool :=
  (en_cut E a (-2147483648) ((en_iv E b).2 - 1) (fun E => en_cut E b ((en_iv E a).1 + 1) 2147483647 kt)) && (en_cut E a (en_iv E b).1 2147483647 (fun E => en_cut E b (-2147483648) (en_iv E a).2 kf))
noncomputable def en_teq (E : en_E) (a b : en_V) (kt kf : en_E → Bool) : Bool :=
  bif Nat.beq a.1 b.1 && en_eq a.2 b.2 then kt E
  else (en_cut E a (en_iv E b).1 (en_iv E b).2 (fun E => en_cut E b (en_iv E a).1 (en_iv E a).2 kt)) && (bif en_eq (en_iv E b).1 (en_iv E b).2 then en_cut E a (bif en_eq (en_iv E a).1 (en_iv E b).1 then (en_iv E a).1 + 1 else (en_iv E a).1) (bif en_eq (en_iv E a).2 (en_iv E b).1 then (en_iv E a).2 - 1 else (en_iv E a).2) kf else kf E)
theorem en_tlt_ok {kt kf : en_E → Bool} {x y : Int32} (h : en_tlt E a b kt kf = true) (hE : en_sat ρ E) (ha : en_gi ρ a x.toInt) (hb : en_gi ρ b y.toInt) : ∃ E', en_sat ρ E' ∧ ((x.toInt < y.toInt ∧ kt E' = true) ∨ (¬ x.toInt < y.toInt ∧ kf E' = true)) := by
  obtain ⟨h1, h2⟩ := en_and2 h
  have ra := en_crange (x := x)
  have rb := en_crange (x := y)
  have ib := en_ivx hE hb
  by_cases c : x.toInt < y.toInt
  · obtain ⟨E1, s1, k1⟩ := en_cut_ok h1 hE ha ra ra.1 (by omega)
    have ia := en_ivx s1 ha
    obtain ⟨E2, s2, k2⟩ := en_cut_ok k1 s1 hb rb (by omega) rb.2
    exact ⟨E2, s2, Or.inl ⟨c, k2⟩⟩
  · obtain ⟨E1, s1, k1⟩ := en_cut_ok h2 hE ha ra (by omega) ra.2
    have ia := en_ivx s1 ha
    obtain ⟨E2, s2, k2⟩ := en_cut_ok k1 s1 hb rb rb.1 (by omega)
    exact ⟨E2, s2, Or.inr ⟨c, k2⟩⟩
theorem en_teq_ok {kt kf : en_E → Bool} {n m : Int} (h : en_teq E a b kt kf = true) (hE : en_sat ρ E) (ha : en_gi ρ a n) (hb : en_gi ρ b m) (ra : -2147483648 ≤ n ∧ n ≤ 2147483647) (rb : -2147483648 ≤ m ∧ m ≤ 2147483647) : ∃ E', en_sat ρ E' ∧ ((n = m ∧ kt E' = true) ∨ (¬ n = m ∧ kf E' = true)) := by
  unfold en_teq at h
  rcases en_bif h with ⟨q, h⟩ | ⟨-, h⟩
  · obtain ⟨q1, q2⟩ := en_and2 q
    have q1 := en_beq q1
    have q2 := en_eq_iff.mp q2
    refine ⟨E, hE, Or.inl ⟨?_, h⟩⟩
    rcases ha with ⟨c1, e1⟩ | ⟨c1, k1, e1, e2⟩
    · rcases hb with ⟨c2, e3⟩ | ⟨c2, k2, e3, e4⟩
      · omega
      · omega
    · rcases hb with ⟨c2, e3⟩ | ⟨c2, k2, e3, e4⟩
      · omega
      · rw [q1] at e1
        rw [e1] at e3
        cases e3
        omega
  · obtain ⟨h1, h2⟩ := en_and2 h
    have ia := en_iv_ok hE ha ra
    have ib := en_iv_ok hE hb rb
    by_cases c : n = m
    · obtain ⟨E1, s1, k1⟩ := en_cut_ok h1 hE ha ra (by omega) (by omega)
      have ia1 := en_iv_ok s1 ha ra
      obtain ⟨E2, s2, k2⟩ := en_cut_ok k1 s1 hb rb (by omega) (by omega)
      exact ⟨E2, s2, Or.inl ⟨c, k2⟩⟩
    · rcases en_bif h2 with ⟨q, h2⟩ | ⟨-, h2⟩
      · have q := en_eq_iff.mp q
        obtain ⟨E1, s1, k1⟩ := en_cut_ok h2 hE ha ra (by
          cases e : en_eq (en_iv E a).1 (en_iv E b).1 with
          | false => exact ia.1
          | true => have e := en_eq_iff.mp e; show (en_iv E a).1 + 1 ≤ n; omega) (by
          cases e : en_eq (en_iv E a).2 (en_iv E b).1 with
          | false => exact ia.2
          | true => have e := en_eq_iff.mp e; show n ≤ (en_iv E a).2 - 1; omega)
        exact ⟨E1, s1, Or.inr ⟨c, k1⟩⟩
      · exact ⟨E, hE, Or.inr ⟨c, h2⟩⟩
end EnA
