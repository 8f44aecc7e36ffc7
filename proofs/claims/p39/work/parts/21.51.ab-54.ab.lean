section
/-! what the instructions do over intervals -/
noncomputable def ab_nrm (E : ab_E) (a : ab_V) (c : ab_V → Bool) : Bool := ab_if (Nat.ble 7 a.1) ((ab_if (ab_eq (E.getD (Nat.sub a.1 7) ab_full).1 (E.getD (Nat.sub a.1 7) ab_full).2) (ab_fi (Int.add (E.getD (Nat.sub a.1 7) ab_full).1 a.2) (fun i => c (0, i))) (c a))) (c a)
noncomputable def ab_bin (f : Int32 → Int32 → Int32) (a b : ab_V) (c : ab_V → Bool) : Bool := ab_if (ab_an (Nat.beq a.1 0) (Nat.beq b.1 0)) (ab_fi (f (Int32.ofInt a.2) (Int32.ofInt b.2)).toInt (fun i => c (0, i))) (ab_if (ab_an (ab_isI a.1) (ab_isI b.1)) (c (3, 0)) (false))
noncomputable def ab_binok (xs : Nat → Int32) (bin : ab_V → ab_V → (ab_V → Bool) → Bool) (f : Int32 → Int32 → Int32) : Prop := ∀ (a b : ab_V) (v u : Value) (c : ab_V → Bool), bin a b c = true → ab_g xs a v → ab_g xs b u → ∃ (x y : Int32) (r : ab_V), v = .int x ∧ u = .int y ∧ ab_g xs r (.int (f x y)) ∧ c r = true
noncomputable def ab_in32 (s : Int) : Bool := ab_an (ab_le (Int.negSucc 2147483647) s) (ab_le s (Int.ofNat 2147483647))
noncomputable def ab_off (E : ab_E) (a : ab_V) (z : Int) (c : ab_V → Bool) : Bool :=
  ab_if (ab_an (ab_le (Int.negSucc 2147483647) (Int.add (Int.add (E.getD (Nat.sub a.1 7) ab_full).1 a.2) z)) (ab_le (Int.add (Int.add (E.getD (Nat.sub a.1 7) ab_full).2 a.2) z) (Int.ofNat 2147483647))) (ab_fi (Int.add a.2 z) (fun i => c (a.1, i))) (ab_if (ab_le (Int.add (Int.add (E.getD (Nat.sub a.1 7) ab_full).2 a.2) z) (Int.negSucc 2147483648)) (ab_fi (Int.add (Int.add a.2 z) (Int.ofNat 4294967296)) (fun i => c (a.1, i))) (c (3, 0)))
noncomputable def ab_add (E : ab_E) (a b : ab_V) (c : ab_V → Bool) : Bool :=
  ab_if (ab_an (Nat.beq a.1 0) (Nat.beq b.1 0)) ((ab_if (ab_in32 (Int.add a.2 b.2)) (ab_fi (Int.add a.2 b.2) (fun i => c (0, i))) (ab_bin (fun x y => x + y) a b c))) (ab_if (ab_an (Nat.ble 7 a.1) (Nat.beq b.1 0)) (ab_off E a b.2 c) (ab_if (ab_an (Nat.ble 7 b.1) (Nat.beq a.1 0)) (ab_off E b a.2 c) (ab_bin (fun x y => x + y) a b c)))
noncomputable def ab_sub (E : ab_E) (a b : ab_V) (c : ab_V → Bool) : Bool :=
  ab_if (ab_an (Nat.beq a.1 0) (Nat.beq b.1 0)) ((ab_if (ab_in32 (Int.sub a.2 b.2)) (ab_fi (Int.sub a.2 b.2) (fun i => c (0, i))) (ab_bin (fun x y => x - y) a b c))) (ab_if (ab_an (Nat.ble 7 a.1) (Nat.beq b.1 0)) (ab_off E a (Int.neg b.2) c) (ab_bin (fun x y => x - y) a b c))
noncomputable def ab_is (a : ab_V) (n : Int) : Bool := ab_an (Nat.beq a.1 0) (decide (a.2 = n))
noncomputable def ab_and (E : ab_E) (a b : ab_V) (c : ab_V → Bool) : Bool :=
  ab_if (ab_an (Nat.beq a.1 0) (Nat.beq b.1 0)) (ab_bin (fun x y => x &&& y) a b c) (ab_if (ab_an (Nat.beq a.1 7) ((ab_an (decide (a.2 = 0)) (ab_is b 63)))) (ab_nrm E (13, 0) c) (ab_if (ab_an (ab_is b (-1)) (ab_isI a.1)) (c a) (ab_if (ab_an (ab_is a (-1)) (ab_isI b.1)) (c b) (ab_if (ab_oo ((ab_an (ab_is a 0) (ab_isI b.1))) ((ab_an (ab_is b 0) (ab_isI a.1)))) (c (0, 0)) (ab_bin (fun x y => x &&& y) a b c)))))
noncomputable def ab_nz (E : ab_E) (a : ab_V) : Bool := ab_if (Nat.ble 7 a.1) ((ab_oo (ab_le 1 (Int.add (E.getD (Nat.sub a.1 7) ab_full).1 a.2)) (ab_le (Int.add (E.getD (Nat.sub a.1 7) ab_full).2 a.2) (-1)))) (Nat.beq a.1 6)
noncomputable def ab_or (E : ab_E) (a b : ab_V) (c : ab_V → Bool) : Bool :=
  ab_if (ab_an (Nat.beq a.1 0) (Nat.beq b.1 0)) (ab_bin (fun x y => x ||| y) a b c) (ab_if (ab_an (ab_is b 0) (ab_isI a.1)) (c a) (ab_if (ab_an (ab_is a 0) (ab_isI b.1)) (c b) (ab_if (ab_oo ((ab_an (ab_nz E a) (ab_isI b.1))) ((ab_an (ab_nz E b) (ab_isI a.1)))) (c (6, 0)) (ab_bin (fun x y => x ||| y) a b c))))
section AbB
variable {xs : Nat → Int32} {E : ab_E} {a b : ab_V} {c : ab_V → Bool} {v u : Value} {n : Int}
theorem ab_bif {p : Bool} {x y : Bool} (h : (ab_if p x y) = true) : (p = true ∧ x = true) ∨ (p = false ∧ y = true) := by
  cases p
  · exact Or.inr ⟨rfl, h⟩
  · exact Or.inl ⟨rfl, h⟩
theorem ab_bif0 {p : Bool} {x : Bool} (h : (ab_if (p) (x) (false)) = true) : p = true ∧ x = true := by
  rcases ab_bif h with q | ⟨-, q⟩
  · exact q
  · cases q
theorem ab_and2 {p q : Bool} (h : ab_an p q = true) : p = true ∧ q = true := by
  cases p
  · cases h
  · exact ⟨rfl, h⟩
theorem ab_sym_of (h : 7 ≤ a.1) (hg : ab_gi xs a n) : n = (xs (a.1 - 7)).toInt + a.2 := by
  rcases hg with ⟨q, -⟩ | q | ⟨q, -⟩ | ⟨-, q⟩
  · omega
  · omega
  · omega
  · exact q
theorem ab_nrm_ok (h : ab_nrm E a c = true) (hE : ab_sat xs E) (hg : ab_gi xs a n) : ∃ r, ab_gi xs r n ∧ c r = true := by
  unfold ab_nrm at h
  rcases ab_bif h with ⟨h7, h⟩ | ⟨-, h⟩
  · have h7 := ab_ble h7
    rcases ab_bif h with ⟨he, h⟩ | ⟨-, h⟩
    · rw [ab_fi_eq] at h
      refine ⟨_, ?_, h⟩
      have h1 := ab_sym_of h7 hg
      have h2 := hE (a.1 - 7)
      have h3 := ab_eq_iff.mp he
      have e : Nat.sub a.1 7 = a.1 - 7 := rfl
      rw [e] at h3 ⊢
      refine Or.inl ⟨rfl, ?_⟩
      show n = (E.getD (a.1 - 7) ab_full).1 + a.2
      omega
    · exact ⟨a, hg, h⟩
  · exact ⟨a, hg, h⟩
theorem ab_cI {x : Int32} (h : a.1 = 0) (hg : ab_gi xs a x.toInt) : x = Int32.ofInt a.2 := by
  have : x.toInt = a.2 := by
    rcases hg with ⟨-, q⟩ | q | ⟨q, -⟩ | ⟨q, -⟩
    · exact q
    · omega
    · omega
    · omega
  rw [← this, Int32.ofInt_toInt]
theorem ab_cI2 {x : Int32} (h : a.1 = 0) (hg : ab_gi xs a x.toInt) : x.toInt = a.2 := by
  rcases hg with ⟨-, q⟩ | q | ⟨q, -⟩ | ⟨q, -⟩
  · exact q
  · omega
  · omega
  · omega
theorem ab_isI0 (h : a.1 = 0) : ab_isI a.1 = true := by rw [h]; rfl
theorem ab_isI7 (h : 7 ≤ a.1) : ab_isI a.1 = true := by
  have : Nat.ble 6 a.1 = true := Nat.ble_eq_true_of_le (by omega)
  exact ab_oo_r (ab_oo_r this)
theorem ab_bin_ok (f : Int32 → Int32 → Int32) : ab_binok xs (ab_bin f) f := by
  intro a b v u c h ha hb
  unfold ab_bin at h
  rcases ab_bif h with ⟨q, h⟩ | ⟨-, h⟩
  · obtain ⟨q1, q2⟩ := ab_and2 q
    have q1 := ab_beq q1
    have q2 := ab_beq q2
    obtain ⟨x, rfl, gx⟩ := ab_isI_of (ab_isI0 q1) ha
    obtain ⟨y, rfl, gy⟩ := ab_isI_of (ab_isI0 q2) hb
    rw [ab_fi_eq] at h
    refine ⟨x, y, _, rfl, rfl, ?_, h⟩
    rw [← ab_cI q1 gx, ← ab_cI q2 gy]
    exact ab_gi0 _
  · obtain ⟨q, h⟩ := ab_bif0 h
    obtain ⟨q1, q2⟩ := ab_and2 q
    obtain ⟨x, rfl, -⟩ := ab_isI_of q1 ha
    obtain ⟨y, rfl, -⟩ := ab_isI_of q2 hb
    exact ⟨x, y, _, rfl, rfl, ab_gi3 _ _, h⟩
theorem ab_bmod {s r : Int} (h1 : -2147483648 ≤ r) (h2 : r ≤ 2147483647) (h : s = r ∨ s + 4294967296 = r ∨ s - 4294967296 = r) : s.bmod (2 ^ 32) = r := by
  have e : (2 ^ 32 : Nat) = 4294967296 := by decide
  rw [e, Int.bmod_def]
  split <;> omega
theorem ab_off_ok {z : Int} {x w : Int32} (h : ab_off E a z c = true) (h7 : 7 ≤ a.1) (hE : ab_sat xs E) (hg : ab_gi xs a x.toInt) (hz : -2147483648 ≤ z ∧ z ≤ 2147483648) (hw : w.toInt = (x.toInt + z).bmod (2 ^ 32)) : ∃ r, ab_gi xs r w.toInt ∧ c r = true := by
  unfold ab_off at h
  have h1 := ab_sym_of h7 hg
  have h2 := hE (a.1 - 7)
  have e : Nat.sub a.1 7 = a.1 - 7 := rfl
  rw [e] at h
  have l1 := Int32.le_toInt x
  have l2 := Int32.toInt_lt x
  have e31 : (2 : Int) ^ 31 = 2147483648 := by decide
  rw [e31] at l1 l2
  have m1 : Int.negSucc 2147483647 = -2147483648 := by decide
  have m2 : Int.ofNat 2147483647 = 2147483647 := by decide
  have m3 : Int.negSucc 2147483648 = -2147483649 := by decide
  have m4 : Int.ofNat 4294967296 = 4294967296 := by decide
  have ad : ∀ p q : Int, Int.add p q = p + q := fun _ _ => rfl
  rcases ab_bif h with ⟨q, h⟩ | ⟨-, h⟩
  · obtain ⟨q1, q2⟩ := ab_and2 q
    have q1 := ab_le_iff.mp q1
    have q2 := ab_le_iff.mp q2
    simp only [ad, m1, m2] at q1 q2
    rw [ab_fi_eq] at h
    refine ⟨(a.1, Int.add a.2 z), Or.inr (Or.inr (Or.inr ⟨h7, ?_⟩)), h⟩
    rw [hw, ab_bmod (r := x.toInt + z) (by omega) (by omega) (Or.inl rfl)]
    show x.toInt + z = (xs (a.1 - 7)).toInt + (a.2 + z)
    omega
  · rcases ab_bif h with ⟨q, h⟩ | ⟨-, h⟩
    · have q := ab_le_iff.mp q
      simp only [ad, m3] at q
      rw [ab_fi_eq] at h
      refine ⟨(a.1, Int.add (Int.add a.2 z) (Int.ofNat 4294967296)), Or.inr (Or.inr (Or.inr ⟨h7, ?_⟩)), h⟩
      rw [hw, ab_bmod (r := x.toInt + z + 4294967296) (by omega) (by omega) (Or.inr (Or.inl rfl))]
      show x.toInt + z + 4294967296 = (xs (a.1 - 7)).toInt + (a.2 + z + 4294967296)
      omega
    · exact ⟨_, ab_gi3 _ _, h⟩
theorem ab_crange {x : Int32} : -2147483648 ≤ x.toInt ∧ x.toInt ≤ 2147483647 := by
  have l1 := Int32.le_toInt x
  have l2 := Int32.toInt_lt x
  have e31 : (2 : Int) ^ 31 = 2147483648 := by decide
  rw [e31] at l1 l2
  omega
theorem ab_in32_of {s : Int} (h : ab_in32 s = true) : -2147483648 ≤ s ∧ s ≤ 2147483647 := by
  obtain ⟨q1, q2⟩ := ab_and2 h
  exact ⟨ab_le_iff.mp q1, ab_le_iff.mp q2⟩
theorem ab_add_ok (hE : ab_sat xs E) : ab_binok xs (ab_add E) (fun x y => x + y) := by
  intro a b v u c h ha hb
  unfold ab_add at h
  rcases ab_bif h with ⟨q, h⟩ | ⟨-, h⟩
  · obtain ⟨q1, q2⟩ := ab_and2 q
    have q1 := ab_beq q1
    have q2 := ab_beq q2
    rcases ab_bif h with ⟨q, h⟩ | ⟨-, h⟩
    · obtain ⟨x, rfl, gx⟩ := ab_isI_of (ab_isI0 q1) ha
      obtain ⟨y, rfl, gy⟩ := ab_isI_of (ab_isI0 q2) hb
      rw [ab_fi_eq] at h
      have r := ab_in32_of q
      have e : Int.add a.2 b.2 = x.toInt + y.toInt := by rw [ab_cI2 q1 gx, ab_cI2 q2 gy]; rfl
      rw [e] at r h
      refine ⟨x, y, _, rfl, rfl, Or.inl ⟨rfl, ?_⟩, h⟩
      show (x + y).toInt = _
      rw [Int32.toInt_add]
      exact ab_bmod r.1 r.2 (Or.inl rfl)
    · exact ab_bin_ok _ a b v u c h ha hb
  · rcases ab_bif h with ⟨q, h⟩ | ⟨-, h⟩
    · obtain ⟨q1, q2⟩ := ab_and2 q
      have q1 := ab_ble q1
      have q2 := ab_beq q2
      obtain ⟨x, rfl, gx⟩ := ab_isI_of (ab_isI7 q1) ha
      obtain ⟨y, rfl, gy⟩ := ab_isI_of (ab_isI0 q2) hb
      have e := ab_cI2 q2 gy
      have hr := ab_crange (x := y)
      obtain ⟨r, g1, g2⟩ := ab_off_ok (w := x + y) h q1 hE gx (by rw [← e]; omega) (by rw [← e, Int32.toInt_add])
      exact ⟨x, y, r, rfl, rfl, g1, g2⟩
    · rcases ab_bif h with ⟨q, h⟩ | ⟨-, h⟩
      · obtain ⟨q1, q2⟩ := ab_and2 q
        have q1 := ab_ble q1
        have q2 := ab_beq q2
        obtain ⟨y, rfl, gy⟩ := ab_isI_of (ab_isI7 q1) hb
        obtain ⟨x, rfl, gx⟩ := ab_isI_of (ab_isI0 q2) ha
        have e := ab_cI2 q2 gx
        have hr := ab_crange (x := x)
        obtain ⟨r, g1, g2⟩ := ab_off_ok (w := x + y) h q1 hE gy (by rw [← e]; omega) (by rw [← e, Int32.toInt_add, Int.add_comm])
        exact ⟨x, y, r, rfl, rfl, g1, g2⟩
      · exact ab_bin_ok _ a b v u c h ha hb
theorem ab_sub_ok (hE : ab_sat xs E) : ab_binok xs (ab_sub E) (fun x y => x - y) := by
  intro a b v u c h ha hb
  unfold ab_sub at h
  rcases ab_bif h with ⟨q, h⟩ | ⟨-, h⟩
  · obtain ⟨q1, q2⟩ := ab_and2 q
    have q1 := ab_beq q1
    have q2 := ab_beq q2
    rcases ab_bif h with ⟨q, h⟩ | ⟨-, h⟩
    · obtain ⟨x, rfl, gx⟩ := ab_isI_of (ab_isI0 q1) ha
      obtain ⟨y, rfl, gy⟩ := ab_isI_of (ab_isI0 q2) hb
      rw [ab_fi_eq] at h
      have r := ab_in32_of q
      have e : Int.sub a.2 b.2 = x.toInt - y.toInt := by rw [ab_cI2 q1 gx, ab_cI2 q2 gy]; rfl
      rw [e] at r h
      refine ⟨x, y, _, rfl, rfl, Or.inl ⟨rfl, ?_⟩, h⟩
      show (x - y).toInt = _
      rw [Int32.toInt_sub]
      exact ab_bmod r.1 r.2 (Or.inl rfl)
    · exact ab_bin_ok _ a b v u c h ha hb
  · rcases ab_bif h with ⟨q, h⟩ | ⟨-, h⟩
    · obtain ⟨q1, q2⟩ := ab_and2 q
      have q1 := ab_ble q1
      have q2 := ab_beq q2
      obtain ⟨x, rfl, gx⟩ := ab_isI_of (ab_isI7 q1) ha
      obtain ⟨y, rfl, gy⟩ := ab_isI_of (ab_isI0 q2) hb
      have e := ab_cI2 q2 gy
      have hr := ab_crange (x := y)
      have en : Int.neg b.2 = -y.toInt := by rw [e]; rfl
      obtain ⟨r, g1, g2⟩ := ab_off_ok (w := x - y) h q1 hE gx (by rw [en]; omega) (by rw [en, Int32.toInt_sub, Int.sub_eq_add_neg])
      exact ⟨x, y, r, rfl, rfl, g1, g2⟩
    · exact ab_bin_ok _ a b v u c h ha hb
theorem ab_is_of {x : Int32} {n : Int} (h : ab_is a n = true) (hg : ab_g xs a v) : ∃ x : Int32, v = .int x ∧ x.toInt = n := by
  obtain ⟨h1, h2⟩ := ab_and2 h
  have h1 := ab_beq h1
  obtain ⟨x, rfl, gx⟩ := ab_isI_of (ab_isI0 h1) hg
  exact ⟨x, rfl, by rw [ab_cI2 h1 gx]; exact of_decide_eq_true h2⟩
theorem ab_ofI {x : Int32} {y : Int32} (h : x.toInt = y.toInt) : x = y := Int32.toInt_inj.mp h
theorem ab_and_ok (hE : ab_sat xs E) (h6 : xs 6 = xs 0 &&& 63) : ab_binok xs (ab_and E) (fun x y => x &&& y) := by
  intro a b v u c h ha hb
  unfold ab_and at h
  rcases ab_bif h with ⟨-, h⟩ | ⟨-, h⟩
  · exact ab_bin_ok _ a b v u c h ha hb
  · rcases ab_bif h with ⟨q, h⟩ | ⟨-, h⟩
    · obtain ⟨q1, q⟩ := ab_and2 q
      obtain ⟨q2, q3⟩ := ab_and2 q
      have q1 := ab_beq q1
      have q2 := of_decide_eq_true q2
      obtain ⟨y, rfl, ey⟩ := ab_is_of (x := 0) q3 hb
      obtain ⟨x, rfl, gx⟩ := ab_isI_of (ab_isI7 (by omega)) ha
      have e := ab_sym_of (by omega) gx
      rw [q1, q2] at e
      have ex : x = xs 0 := ab_ofI (by rw [e]; show (xs 0).toInt + 0 = _; omega)
      have e63 : (63 : Int32).toInt = 63 := by decide
      have ey : y = 63 := ab_ofI (by rw [ey, e63])
      subst ex
      subst ey
      obtain ⟨r, g1, g2⟩ := ab_nrm_ok (n := (xs 0 &&& 63).toInt) h hE (Or.inr (Or.inr (Or.inr ⟨by decide, by show _ = (xs 6).toInt + 0; rw [h6]; omega⟩)))
      exact ⟨_, _, r, rfl, rfl, g1, g2⟩
    · rcases ab_bif h with ⟨q, h⟩ | ⟨-, h⟩
      · obtain ⟨q1, q2⟩ := ab_and2 q
        obtain ⟨y, rfl, ey⟩ := ab_is_of (x := 0) q1 hb
        obtain ⟨x, rfl, gx⟩ := ab_isI_of q2 ha
        have e1 : (-1 : Int32).toInt = -1 := by decide
        have ey : y = -1 := ab_ofI (by rw [ey, e1])
        subst ey
        refine ⟨_, _, a, rfl, rfl, ?_, h⟩
        show ab_gi xs a (x &&& -1).toInt
        rw [Int32.and_neg_one]
        exact gx
      · rcases ab_bif h with ⟨q, h⟩ | ⟨-, h⟩
        · obtain ⟨q1, q2⟩ := ab_and2 q
          obtain ⟨x, rfl, ex⟩ := ab_is_of (x := 0) q1 ha
          obtain ⟨y, rfl, gy⟩ := ab_isI_of q2 hb
          have e1 : (-1 : Int32).toInt = -1 := by decide
          have ex : x = -1 := ab_ofI (by rw [ex, e1])
          subst ex
          refine ⟨_, _, b, rfl, rfl, ?_, h⟩
          show ab_gi xs b (-1 &&& y).toInt
          rw [Int32.neg_one_and]
          exact gy
        · rcases ab_bif h with ⟨q, h⟩ | ⟨-, h⟩
          · have e0 : (0 : Int32).toInt = 0 := by decide
            rcases ab_or2 q with q | q
            · obtain ⟨q1, q2⟩ := ab_and2 q
              obtain ⟨x, rfl, ex⟩ := ab_is_of (x := 0) q1 ha
              obtain ⟨y, rfl, gy⟩ := ab_isI_of q2 hb
              have ex : x = 0 := ab_ofI (by rw [ex, e0])
              subst ex
              refine ⟨_, _, _, rfl, rfl, Or.inl ⟨rfl, ?_⟩, h⟩
              show (0 &&& y).toInt = 0
              rw [Int32.zero_and]
              exact e0
            · obtain ⟨q1, q2⟩ := ab_and2 q
              obtain ⟨y, rfl, ey⟩ := ab_is_of (x := 0) q1 hb
              obtain ⟨x, rfl, gx⟩ := ab_isI_of q2 ha
              have ey : y = 0 := ab_ofI (by rw [ey, e0])
              subst ey
              refine ⟨_, _, _, rfl, rfl, Or.inl ⟨rfl, ?_⟩, h⟩
              show (x &&& 0).toInt = 0
              rw [Int32.and_zero]
              exact e0
          · exact ab_bin_ok _ a b v u c h ha hb
theorem ab_nz_of {x : Int32} (h : ab_nz E a = true) (hE : ab_sat xs E) (hg : ab_g xs a v) : ∃ x, v = .int x ∧ x ≠ 0 := by
  unfold ab_nz at h
  have ad : ∀ p q : Int, Int.add p q = p + q := fun _ _ => rfl
  have e0 : (0 : Int32).toInt = 0 := by decide
  rcases ab_bif h with ⟨q, h⟩ | ⟨-, h⟩
  · have q := ab_ble q
    obtain ⟨x, rfl, gx⟩ := ab_isI_of (ab_isI7 q) hg
    refine ⟨x, rfl, fun e => ?_⟩
    have h1 := ab_sym_of q gx
    have h2 := hE (a.1 - 7)
    have e' : Nat.sub a.1 7 = a.1 - 7 := rfl
    rw [e'] at h
    rw [e, e0] at h1
    rcases ab_or2 h with h | h
    · have h := ab_le_iff.mp h; rw [ad] at h; omega
    · have h := ab_le_iff.mp h; rw [ad] at h; omega
  · have h := ab_beq h
    obtain ⟨x, rfl, gx⟩ := ab_isI_of (by rw [h]; rfl) hg
    refine ⟨x, rfl, fun e => ?_⟩
    subst e
    rw [e0] at gx
    rcases gx with ⟨q, -⟩ | q | ⟨-, q⟩ | ⟨q, -⟩
    · omega
    · omega
    · exact q rfl
    · omega
theorem ab_or_ok (hE : ab_sat xs E) : ab_binok xs (ab_or E) (fun x y => x ||| y) := by
  intro a b v u c h ha hb
  unfold ab_or at h
  have e0 : (0 : Int32).toInt = 0 := by decide
  rcases ab_bif h with ⟨-, h⟩ | ⟨-, h⟩
  · exact ab_bin_ok _ a b v u c h ha hb
  · rcases ab_bif h with ⟨q, h⟩ | ⟨-, h⟩
    · obtain ⟨q1, q2⟩ := ab_and2 q
      obtain ⟨y, rfl, ey⟩ := ab_is_of (x := 0) q1 hb
      obtain ⟨x, rfl, gx⟩ := ab_isI_of q2 ha
      have ey : y = 0 := ab_ofI (by rw [ey, e0])
      subst ey
      refine ⟨_, _, a, rfl, rfl, ?_, h⟩
      show ab_gi xs a (x ||| 0).toInt
      rw [Int32.or_zero]
      exact gx
    · rcases ab_bif h with ⟨q, h⟩ | ⟨-, h⟩
      · obtain ⟨q1, q2⟩ := ab_and2 q
        obtain ⟨x, rfl, ex⟩ := ab_is_of (x := 0) q1 ha
        obtain ⟨y, rfl, gy⟩ := ab_isI_of q2 hb
        have ex : x = 0 := ab_ofI (by rw [ex, e0])
        subst ex
        refine ⟨_, _, b, rfl, rfl, ?_, h⟩
        show ab_gi xs b (0 ||| y).toInt
        rw [Int32.zero_or]
        exact gy
      · rcases ab_bif h with ⟨q, h⟩ | ⟨-, h⟩
        · rcases ab_or2 q with q | q
          · obtain ⟨q1, q2⟩ := ab_and2 q
            obtain ⟨x, rfl, ex⟩ := ab_nz_of (x := 0) q1 hE ha
            obtain ⟨y, rfl, gy⟩ := ab_isI_of q2 hb
            refine ⟨_, _, _, rfl, rfl, Or.inr (Or.inr (Or.inl ⟨rfl, fun e => ?_⟩)), h⟩
            have e2 : (x ||| y) = 0 := ab_ofI (by rw [e0]; exact e)
            exact ex (Int32.or_eq_zero_iff.mp e2).1
          · obtain ⟨q1, q2⟩ := ab_and2 q
            obtain ⟨y, rfl, ey⟩ := ab_nz_of (x := 0) q1 hE hb
            obtain ⟨x, rfl, gx⟩ := ab_isI_of q2 ha
            refine ⟨_, _, _, rfl, rfl, Or.inr (Or.inr (Or.inl ⟨rfl, fun e => ?_⟩)), h⟩
            have e2 : (x ||| y) = 0 := ab_ofI (by rw [e0]; exact e)
            exact ey (Int32.or_eq_zero_iff.mp e2).2
        · exact ab_bin_ok _ a b v u c h ha hb
end AbB
/-! tests -/
noncomputable def ab_br (E : ab_E) (k : Nat) (lo hi : Int) (K : ab_E → Bool) : Bool :=
  ab_fi (ab_if (ab_le (E.getD k ab_full).1 lo) (lo) ((E.getD k ab_full).1)) (fun l => ab_fi (ab_if (ab_le hi (E.getD k ab_full).2) (hi) ((E.getD k ab_full).2)) (fun h => ab_if (ab_le l h) (K (E.set k (l, h))) (true)))
noncomputable def ab_tlt (E : ab_E) (a b : ab_V) (kt kf : ab_E → Bool) : Bool :=
  ab_if (ab_an (Nat.beq a.1 0) (Nat.beq b.1 0)) ((ab_if (ab_le b.2 a.2) (kf E) (kt E))) (ab_if (ab_an (Nat.ble 7 a.1) (Nat.beq b.1 0)) (ab_an (ab_br E (Nat.sub a.1 7) ab_full.1 (Int.sub (Int.sub b.2 a.2) 1) kt) (ab_br E (Nat.sub a.1 7) (Int.sub b.2 a.2) ab_full.2 kf)) (ab_if (ab_an (Nat.ble 7 b.1) (Nat.beq a.1 0)) (ab_an (ab_br E (Nat.sub b.1 7) (Int.add (Int.sub a.2 b.2) 1) ab_full.2 kt) (ab_br E (Nat.sub b.1 7) ab_full.1 (Int.sub a.2 b.2) kf)) (ab_if (ab_an (ab_isI a.1) (ab_isI b.1)) (ab_an (kt E) (kf E)) (false))))
noncomputable def ab_tes (E : ab_E) (a : ab_V) (y : Int) (kt kf : ab_E → Bool) : Bool :=
  ab_an (ab_br E (Nat.sub a.1 7) (Int.sub y a.2) (Int.sub y a.2) kt) (ab_br E (Nat.sub a.1 7) (ab_if (ab_eq (E.getD (Nat.sub a.1 7) ab_full).1 (Int.sub y a.2)) (Int.add (Int.sub y a.2) 1) ((E.getD (Nat.sub a.1 7) ab_full).1)) (ab_if (ab_eq (E.getD (Nat.sub a.1 7) ab_full).2 (Int.sub y a.2)) (Int.sub (Int.sub y a.2) 1) ((E.getD (Nat.sub a.1 7) ab_full).2)) kf)
noncomputable def ab_teq (E : ab_E) (a b : ab_V) (kt kf : ab_E → Bool) : Bool :=
  ab_if (ab_an (Nat.beq a.1 0) (Nat.beq b.1 0)) ((ab_if (ab_eq a.2 b.2) (kt E) (kf E))) (ab_if (ab_an (Nat.ble 7 a.1) (Nat.beq b.1 0)) (ab_tes E a b.2 kt kf) (ab_if (ab_an (Nat.ble 7 b.1) (Nat.beq a.1 0)) (ab_tes E b a.2 kt kf) (ab_if (ab_an (Nat.beq a.1 6) (ab_is b 0)) (kf E) (ab_if (ab_an (ab_isI a.1) (ab_isI b.1)) (ab_an (kt E) (kf E)) (false)))))
section AbTests
variable {xs : Nat → Int32} {E : ab_E} {a b : ab_V} {kt kf : ab_E → Bool} {n m : Int}
theorem ab_sat_set {k : Nat} {l h : Int} (hE : ab_sat xs E) (h1 : l ≤ (xs k).toInt) (h2 : (xs k).toInt ≤ h) : ab_sat xs (E.set k (l, h)) := by
  intro j
  have := hE j
  rw [List.getD_eq_getElem?_getD, List.getElem?_set]
  by_cases e : k = j
  · subst e
    rw [if_pos rfl]
    split
    · exact ⟨h1, h2⟩
    · have r := ab_crange (x := xs k)
      exact ⟨r.1, r.2⟩
  · rw [if_neg e, ← List.getD_eq_getElem?_getD]
    exact this
theorem ab_br_ok {k : Nat} {lo hi : Int} {K : ab_E → Bool} (h : ab_br E k lo hi K = true) (hE : ab_sat xs E) (h1 : lo ≤ (xs k).toInt) (h2 : (xs k).toInt ≤ hi) : ∃ E', ab_sat xs E' ∧ K E' = true := by
  unfold ab_br at h
  rw [ab_fi_eq, ab_fi_eq] at h
  have h3 := hE k
  have hl : (ab_if (ab_le (E.getD k ab_full).1 lo) (lo) ((E.getD k ab_full).1)) ≤ (xs k).toInt := by
    cases ab_le (E.getD k ab_full).1 lo
    · exact h3.1
    · exact h1
  have hh : (xs k).toInt ≤ (ab_if (ab_le hi (E.getD k ab_full).2) (hi) ((E.getD k ab_full).2)) := by
    cases ab_le hi (E.getD k ab_full).2
    · exact h3.2
    · exact h2
  rcases ab_bif h with ⟨-, h⟩ | ⟨q, -⟩
  · exact ⟨_, ab_sat_set hE hl hh, h⟩
  · have := ab_le_no q
    omega
theorem ab_tlt_ok (h : ab_tlt E a b kt kf = true) (hE : ab_sat xs E) (ha : ab_gi xs a n) (hb : ab_gi xs b m) : ∃ E', ab_sat xs E' ∧ ((n < m ∧ kt E' = true) ∨ (¬ n < m ∧ kf E' = true)) := by
  unfold ab_tlt at h
  have sb : ∀ p q : Int, Int.sub p q = p - q := fun _ _ => rfl
  have ad : ∀ p q : Int, Int.add p q = p + q := fun _ _ => rfl
  have f1 : ab_full.1 = -2147483648 := by decide
  have f2 : ab_full.2 = 2147483647 := by decide
  have c0 : ∀ {a : ab_V} {n : Int}, a.1 = 0 → ab_gi xs a n → n = a.2 := by
    intro a n h g
    rcases g with ⟨-, q⟩ | q | ⟨q, -⟩ | ⟨q, -⟩
    · exact q
    · omega
    · omega
    · omega
  rcases ab_bif h with ⟨q, h⟩ | ⟨-, h⟩
  · obtain ⟨q1, q2⟩ := ab_and2 q
    have e1 := c0 (ab_beq q1) ha
    have e2 := c0 (ab_beq q2) hb
    rcases ab_bif h with ⟨q, h⟩ | ⟨q, h⟩
    · have q := ab_le_iff.mp q
      exact ⟨E, hE, Or.inr ⟨by omega, h⟩⟩
    · have q := ab_le_no q
      exact ⟨E, hE, Or.inl ⟨by omega, h⟩⟩
  · rcases ab_bif h with ⟨q, h⟩ | ⟨-, h⟩
    · obtain ⟨q1, q2⟩ := ab_and2 q
      have q1 := ab_ble q1
      have e2 := c0 (ab_beq q2) hb
      have e1 := ab_sym_of q1 ha
      have r := ab_crange (x := xs (a.1 - 7))
      obtain ⟨h1, h2⟩ := ab_and2 h
      have e' : Nat.sub a.1 7 = a.1 - 7 := rfl
      rw [e'] at h1 h2
      by_cases c : n < m
      · obtain ⟨E', s1, s2⟩ := ab_br_ok h1 hE (by rw [f1]; omega) (by rw [sb, sb]; omega)
        exact ⟨E', s1, Or.inl ⟨c, s2⟩⟩
      · obtain ⟨E', s1, s2⟩ := ab_br_ok h2 hE (by rw [sb]; omega) (by rw [f2]; omega)
        exact ⟨E', s1, Or.inr ⟨c, s2⟩⟩
    · rcases ab_bif h with ⟨q, h⟩ | ⟨-, h⟩
      · obtain ⟨q1, q2⟩ := ab_and2 q
        have q1 := ab_ble q1
        have e2 := c0 (ab_beq q2) ha
        have e1 := ab_sym_of q1 hb
        have r := ab_crange (x := xs (b.1 - 7))
        obtain ⟨h1, h2⟩ := ab_and2 h
        have e' : Nat.sub b.1 7 = b.1 - 7 := rfl
        rw [e'] at h1 h2
        by_cases c : n < m
        · obtain ⟨E', s1, s2⟩ := ab_br_ok h1 hE (by rw [ad, sb]; omega) (by rw [f2]; omega)
          exact ⟨E', s1, Or.inl ⟨c, s2⟩⟩
        · obtain ⟨E', s1, s2⟩ := ab_br_ok h2 hE (by rw [f1]; omega) (by rw [sb]; omega)
          exact ⟨E', s1, Or.inr ⟨c, s2⟩⟩
      · obtain ⟨-, h⟩ := ab_bif0 h
        obtain ⟨h1, h2⟩ := ab_and2 h
        by_cases c : n < m
        · exact ⟨E, hE, Or.inl ⟨c, h1⟩⟩
        · exact ⟨E, hE, Or.inr ⟨c, h2⟩⟩
theorem ab_tes_ok {y : Int} (h : ab_tes E a y kt kf = true) (h7 : 7 ≤ a.1) (hE : ab_sat xs E) (ha : ab_gi xs a n) : ∃ E', ab_sat xs E' ∧ ((n = y ∧ kt E' = true) ∨ (¬ n = y ∧ kf E' = true)) := by
  unfold ab_tes at h
  have sb : ∀ p q : Int, Int.sub p q = p - q := fun _ _ => rfl
  have ad : ∀ p q : Int, Int.add p q = p + q := fun _ _ => rfl
  have e1 := ab_sym_of h7 ha
  obtain ⟨h1, h2⟩ := ab_and2 h
  have e' : Nat.sub a.1 7 = a.1 - 7 := rfl
  rw [e'] at h1 h2
  have r := hE (a.1 - 7)
  by_cases c : n = y
  · obtain ⟨E', s1, s2⟩ := ab_br_ok h1 hE (by rw [sb]; omega) (by rw [sb]; omega)
    exact ⟨E', s1, Or.inl ⟨c, s2⟩⟩
  · obtain ⟨E', s1, s2⟩ := ab_br_ok h2 hE (by
      cases q : ab_eq (E.getD (a.1 - 7) ab_full).1 (Int.sub y a.2) with
      | false => exact r.1
      | true => have q := ab_eq_iff.mp q; rw [sb] at q; show Int.add (Int.sub y a.2) 1 ≤ _; rw [ad, sb]; omega) (by
      cases q : ab_eq (E.getD (a.1 - 7) ab_full).2 (Int.sub y a.2) with
      | false => exact r.2
      | true => have q := ab_eq_iff.mp q; rw [sb] at q; show _ ≤ Int.sub (Int.sub y a.2) 1; rw [sb, sb]; omega)
    exact ⟨E', s1, Or.inr ⟨c, s2⟩⟩
theorem ab_teq_ok (h : ab_teq E a b kt kf = true) (hE : ab_sat xs E) (ha : ab_gi xs a n) (hb : ab_gi xs b m) : ∃ E', ab_sat xs E' ∧ ((n = m ∧ kt E' = true) ∨ (¬ n = m ∧ kf E' = true)) := by
  unfold ab_teq at h
  have c0 : ∀ {a : ab_V} {n : Int}, a.1 = 0 → ab_gi xs a n → n = a.2 := by
    intro a n h g
    rcases g with ⟨-, q⟩ | q | ⟨q, -⟩ | ⟨q, -⟩
    · exact q
    · omega
    · omega
    · omega
  rcases ab_bif h with ⟨q, h⟩ | ⟨-, h⟩
  · obtain ⟨q1, q2⟩ := ab_and2 q
    have e1 := c0 (ab_beq q1) ha
    have e2 := c0 (ab_beq q2) hb
    rcases ab_bif h with ⟨q, h⟩ | ⟨q, h⟩
    · have q := ab_eq_iff.mp q
      exact ⟨E, hE, Or.inl ⟨by omega, h⟩⟩
    · have q := ab_eq_no q
      exact ⟨E, hE, Or.inr ⟨by omega, h⟩⟩
  · rcases ab_bif h with ⟨q, h⟩ | ⟨-, h⟩
    · obtain ⟨q1, q2⟩ := ab_and2 q
      rw [c0 (ab_beq q2) hb]
      exact ab_tes_ok h (ab_ble q1) hE ha
    · rcases ab_bif h with ⟨q, h⟩ | ⟨-, h⟩
      · obtain ⟨q1, q2⟩ := ab_and2 q
        rw [c0 (ab_beq q2) ha]
        obtain ⟨E', s1, s2⟩ := ab_tes_ok h (ab_ble q1) hE hb
        refine ⟨E', s1, ?_⟩
        rcases s2 with ⟨e, s⟩ | ⟨e, s⟩
        · exact Or.inl ⟨e.symm, s⟩
        · exact Or.inr ⟨fun q => e q.symm, s⟩
      · rcases ab_bif h with ⟨q, h⟩ | ⟨-, h⟩
        · obtain ⟨q1, q2⟩ := ab_and2 q
          have q1 := ab_beq q1
          obtain ⟨q3, q4⟩ := ab_and2 q2
          have e := c0 (ab_beq q3) hb
          have e2 := of_decide_eq_true q4
          refine ⟨E, hE, Or.inr ⟨fun e3 => ?_, h⟩⟩
          rcases ha with ⟨q, -⟩ | q | ⟨-, q⟩ | ⟨q, -⟩
          · omega
          · omega
          · omega
          · omega
        · obtain ⟨-, h⟩ := ab_bif0 h
          obtain ⟨h1, h2⟩ := ab_and2 h
          by_cases c : n = m
          · exact ⟨E, hE, Or.inl ⟨c, h1⟩⟩
          · exact ⟨E, hE, Or.inr ⟨c, h2⟩⟩
end AbTests
end
section
/-! cells -/
noncomputable def ab_val (w : sm_W) (p kd j : Nat) : Value := if kd = 0 then (if j % 2 = 1 then sm_rv (w.2.2.2 p (j / 2)) else .int (w.2.1 p (j / 2))) else if kd = 4 then .long (w.2.2.1 p j) else .int (w.2.1 p j)
noncomputable def ab_bd (kd n : Nat) : Nat := if kd = 0 then 256 else n
noncomputable def ab_dp (kd n : Nat) : Nat := ab_if (Nat.beq kd 0) (8) (Nat.succ (Nat.log2 n))
noncomputable def ab_rm (xs : Nat → Int32) (M : ab_M) (w : sm_W) : Prop := w.1.length = M.1 ∧ M.1 ≤ 256 ∧ ∀ p, p < M.1 → w.1[p]? = some ((ab_tg M.2 p).1, (ab_tg M.2 p).2.1) ∧ ∀ j, j < ab_bd (ab_tg M.2 p).1 (ab_tg M.2 p).2.1 → ab_g xs (ab_tg (ab_tg M.2 p).2.2 j) (ab_val w p (ab_tg M.2 p).1 j)
noncomputable def ab_mset (M : ab_M) (p kd n : Nat) (t : ab_T) (j : Nat) (a : ab_V) (c : ab_M → Bool) : Bool := ab_ts a t (ab_dp kd n) j (fun t' => ab_ts ((kd, n, t') : ab_Q) M.2 8 p (fun m => c (M.1, m)))
noncomputable def ab_cell (M : ab_M) (p : Nat) (c : Nat → Nat → ab_T → Bool) : Bool := ab_if (Nat.blt p M.1) ((match ab_tg M.2 p with | (kd, n, t) => c kd n t)) (false)
noncomputable def ab_rf (a : ab_V) (c : Nat → Bool) : Bool := ab_if (Nat.beq a.1 2) (Int.rec (motive := fun _ => Bool) (fun n => c n) (fun _ => false) a.2) (false)
noncomputable def ab_ix (a : ab_V) (n : Nat) (c : Nat → Bool) : Bool := ab_if (Nat.beq a.1 0) (Int.rec (motive := fun _ => Bool) (fun j => ab_if (Nat.blt j n) (c j) (false)) (fun _ => false) a.2) (false)
noncomputable def ab_ok (xs : Nat → Int32) (lay : List (Nat × Nat)) (o : sm_O) (k : ab_L → List ab_V → ab_M → Bool) : Prop := ∃ q, o = some q ∧ ∃ (lv1 : ab_L) (st1 : List ab_V) (M1 : ab_M), ab_gl xs lv1 q.1 ∧ ab_gs xs st1 q.2.1 ∧ ab_rm xs M1 (lay, q.2.2) ∧ k lv1 st1 M1 = true
section AbM
variable {xs : Nat → Int32} {M : ab_M} {w w' : sm_W} {p kd n j : Nat} {t : ab_T} {a : ab_V} {v : Value}
theorem ab_dp_ok (h : j < ab_bd kd n) : j < 2 ^ ab_dp kd n := by
  unfold ab_bd at h
  unfold ab_dp
  cases e : Nat.beq kd 0 with
  | true => rw [if_pos (ab_beq e)] at h; exact h
  | false =>
    rw [if_neg (ab_bne e)] at h
    exact Nat.lt_trans h Nat.lt_log2_self
theorem ab_mset_ok {c : ab_M → Bool} (hr : ab_rm xs M w) (hp : p < M.1) (e : ab_tg M.2 p = (kd, n, t)) (hj : j < ab_bd kd n) (ha : ab_g xs a v) (hl : w'.1 = w.1) (h1 : ab_val w' p kd j = v) (h2 : ∀ j', j' ≠ j → ab_val w' p kd j' = ab_val w p kd j') (h3 : ∀ p' kd' j', p' ≠ p → ab_val w' p' kd' j' = ab_val w p' kd' j') (h : ab_mset M p kd n t j a c = true) : ∃ M', ab_rm xs M' w' ∧ c M' = true := by
  obtain ⟨r1, r2, r3⟩ := hr
  obtain ⟨t', q1, q2⟩ := ab_ts_ok _ _ _ _ h (ab_dp_ok hj)
  obtain ⟨m, q3, q4⟩ := ab_ts_ok _ _ _ _ q1 (show p < 2 ^ 8 by show p < 256; omega)
  refine ⟨(M.1, m), ⟨by rw [hl]; exact r1, r2, fun p' hp' => ?_⟩, q3⟩
  have q5 := q4 p' (show p' < 2 ^ 8 by have : p' < M.1 := hp'; show p' < 256; omega)
  show w'.1[p']? = some ((ab_tg m p').1, (ab_tg m p').2.1) ∧ ∀ j', j' < ab_bd (ab_tg m p').1 (ab_tg m p').2.1 → ab_g xs (ab_tg (ab_tg m p').2.2 j') (ab_val w' p' (ab_tg m p').1 j')
  have r4 := r3 p' hp'
  by_cases c1 : p' = p
  · rw [if_pos c1] at q5
    rw [q5, hl]
    rw [c1] at r4 ⊢
    rw [e] at r4
    refine ⟨r4.1, fun j' hj' => ?_⟩
    have q6 := q2 j' (ab_dp_ok hj')
    show ab_g xs (ab_tg t' j') (ab_val w' p kd j')
    rw [q6]
    by_cases c2 : j' = j
    · rw [if_pos c2, c2, h1]; exact ha
    · rw [if_neg c2, h2 _ c2]; exact r4.2 j' hj'
  · rw [if_neg c1] at q5
    rw [q5, hl]
    refine ⟨r4.1, fun j' hj' => ?_⟩
    rw [h3 _ _ _ c1]
    exact r4.2 j' hj'
theorem ab_cell_ok {c : Nat → Nat → ab_T → Bool} (h : ab_cell M p c = true) : p < M.1 ∧ ∃ kd n t, ab_tg M.2 p = (kd, n, t) ∧ c kd n t = true := by
  obtain ⟨h1, h2⟩ := ab_bif0 h
  refine ⟨ab_blt h1, (ab_tg M.2 p).1, (ab_tg M.2 p).2.1, (ab_tg M.2 p).2.2, rfl, ?_⟩
  exact h2
theorem ab_cell_at (hr : ab_rm xs M w) (hp : p < M.1) (e : ab_tg M.2 p = (kd, n, t)) : w.1[p]? = some (kd, n) ∧ ∀ j, j < ab_bd kd n → ab_g xs (ab_tg t j) (ab_val w p kd j) := by
  have := hr.2.2 p hp
  rw [e] at this
  exact this
theorem ab_rf_ok {c : Nat → Bool} (h : ab_rf a c = true) (hg : ab_g xs a v) : ∃ p, v = .ref p ∧ c p = true := by
  obtain ⟨h1, h2⟩ := ab_bif0 h
  obtain ⟨p, rfl, e⟩ := ab_ref_of (ab_beq h1) hg
  refine ⟨p, rfl, ?_⟩
  rw [e] at h2
  exact h2
theorem ab_ix_ok {c : Nat → Bool} (h : ab_ix a n c = true) (hg : ab_g xs a v) : ∃ x : Int32, v = .int x ∧ ¬ (x < 0 ∨ n ≤ x.toNatClampNeg) ∧ x.toNatClampNeg < n ∧ c x.toNatClampNeg = true := by
  obtain ⟨h1, h2⟩ := ab_bif0 h
  obtain ⟨x, rfl, e⟩ := ab_0_of (ab_beq h1) hg
  have e0 : (0 : Int32).toInt = 0 := by decide
  cases q : a.2 with
  | negSucc j => rw [q] at h2; cases h2
  | ofNat j =>
    rw [q] at h2 e
    have h2 : (ab_if (Nat.blt j n) (c j) (false)) = true := h2
    obtain ⟨h3, h4⟩ := ab_bif0 h2
    have h3 := ab_blt h3
    have ex : x.toNatClampNeg = j := by show x.toInt.toNat = j; rw [e]; rfl
    refine ⟨x, rfl, ?_, by rw [ex]; exact h3, by rw [ex]; exact h4⟩
    rw [ex]
    rintro (c | c)
    · rw [Int32.lt_iff_toInt_lt, e, e0] at c
      have : (Int.ofNat j : Int) = (j : Int) := rfl
      omega
    · omega
end AbM
/-! the simple instructions, one by one -/
section AbI
variable {xs : Nat → Int32} {E : ab_E} {lv : ab_L} {st : List ab_V} {M : ab_M} {lv' : sm_V} {st' : List Value} {lay : List (Nat × Nat)} {m : sm_Y} {k : ab_L → List ab_V → ab_M → Bool}
theorem ab_ok_p {o : Option (List Value)} {s' : List Value} {s : List ab_V} (e : o = some s') (hl : ab_gl xs lv lv') (hs : ab_gs xs s s') (hr : ab_rm xs M (lay, m)) (h : k lv s M = true) : ab_ok xs lay (sm_p lv' m o) k := ⟨(lv', s', m), by rw [e]; rfl, lv, s, M, hl, hs, hr, h⟩
noncomputable def ai_ci (x : Int32) (lv : ab_L) (st : List ab_V) (M : ab_M) (k : ab_L → List ab_V → ab_M → Bool) : Bool := ab_fi x.toInt (fun i => k lv ((0, i) :: st) M)
theorem ai_ci_ok {x : Int32} (hl : ab_gl xs lv lv') (hs : ab_gs xs st st') (hr : ab_rm xs M (lay, m)) (h : ai_ci x lv st M k = true) : ab_ok xs lay (some (lv', .int x :: st', m)) k := by
  unfold ai_ci at h
  rw [ab_fi_eq] at h
  exact ⟨_, rfl, lv, (0, x.toInt) :: st, M, hl, ⟨ab_gi0 _, hs⟩, hr, h⟩
noncomputable def ai_cl (x : Int64) (lv : ab_L) (st : List ab_V) (M : ab_M) (k : ab_L → List ab_V → ab_M → Bool) : Bool := ab_fi x.toInt (fun i => k lv ((4, i) :: st) M)
theorem ai_cl_ok {x : Int64} (hl : ab_gl xs lv lv') (hs : ab_gs xs st st') (hr : ab_rm xs M (lay, m)) (h : ai_cl x lv st M k = true) : ab_ok xs lay (some (lv', .long x :: st', m)) k := by
  unfold ai_cl at h
  rw [ab_fi_eq] at h
  exact ⟨_, rfl, lv, (4, x.toInt) :: st, M, hl, ⟨Or.inl ⟨rfl, rfl⟩, hs⟩, hr, h⟩
noncomputable def ai_ldi (j : Nat) (E : ab_E) (lv : ab_L) (st : List ab_V) (M : ab_M) (k : ab_L → List ab_V → ab_M → Bool) : Bool := ab_lk lv j (fun a => ab_if (ab_isI a.1) (ab_nrm E a (fun a => k lv (a :: st) M)) (false))
theorem ai_ldi_ok {j : Nat} (hE : ab_sat xs E) (hl : ab_gl xs lv lv') (hs : ab_gs xs st st') (hr : ab_rm xs M (lay, m)) (h : ai_ldi j E lv st M k = true) : ab_ok xs lay (sm_p lv' m (sm_ldi lv' j st')) k := by
  unfold ai_ldi at h
  · replace h := ab_lk_ok hl h
    obtain ⟨a, v, e1, g, h⟩ := h
    replace h := ab_bif0 h
    obtain ⟨h1, h⟩ := h
    obtain ⟨x, rfl, gx⟩ := ab_isI_of h1 g
    obtain ⟨r, g1, g2⟩ := ab_nrm_ok h hE gx
    exact ab_ok_p (s' := .int x :: st') (s := r :: st) (by simp only [sm_ldi, e1]) hl ⟨g1, hs⟩ hr g2
noncomputable def ai_ldl (j : Nat) (lv : ab_L) (st : List ab_V) (M : ab_M) (k : ab_L → List ab_V → ab_M → Bool) : Bool := ab_lk lv j (fun a => ab_if (ab_oo (Nat.beq a.1 4) (Nat.beq a.1 5)) (k lv (a :: st) M) (false))
theorem ab_45 {a : ab_V} (h : (ab_oo (Nat.beq a.1 4) (Nat.beq a.1 5)) = true) : a.1 = 4 ∨ a.1 = 5 := by
  rcases ab_or2 h with h | h
  · exact Or.inl (ab_beq h)
  · exact Or.inr (ab_beq h)
theorem ai_ldl_ok {j : Nat} (hl : ab_gl xs lv lv') (hs : ab_gs xs st st') (hr : ab_rm xs M (lay, m)) (h : ai_ldl j lv st M k = true) : ab_ok xs lay (sm_p lv' m (sm_ldl lv' j st')) k := by
  unfold ai_ldl at h
  · replace h := ab_lk_ok hl h
    obtain ⟨a, v, e1, g, h⟩ := h
    replace h := ab_bif0 h
    obtain ⟨h1, h⟩ := h
    obtain ⟨x, rfl, -⟩ := ab_long_of (ab_45 h1) g
    exact ab_ok_p (s' := .long x :: st') (s := a :: st) (by simp only [sm_ldl, e1]) hl ⟨g, hs⟩ hr h
noncomputable def ai_lda (j : Nat) (lv : ab_L) (st : List ab_V) (M : ab_M) (k : ab_L → List ab_V → ab_M → Bool) : Bool := ab_lk lv j (fun a => ab_if (ab_oo (Nat.beq a.1 2) (Nat.beq a.1 1)) (k lv (a :: st) M) (false))
theorem ai_lda_ok {j : Nat} (hl : ab_gl xs lv lv') (hs : ab_gs xs st st') (hr : ab_rm xs M (lay, m)) (h : ai_lda j lv st M k = true) : ab_ok xs lay (sm_p lv' m (sm_lda lv' j st')) k := by
  unfold ai_lda at h
  · replace h := ab_lk_ok hl h
    obtain ⟨a, v, e1, g, h⟩ := h
    replace h := ab_bif0 h
    obtain ⟨h1, h⟩ := h
    rcases ab_or2 h1 with h1 | h1
    · obtain ⟨p, rfl, -⟩ := ab_ref_of (ab_beq h1) g
      exact ab_ok_p (s' := .ref p :: st') (s := a :: st) (by simp only [sm_lda, e1]) hl ⟨g, hs⟩ hr h
    · have := ab_null_of (ab_beq h1) g
      subst this
      exact ab_ok_p (s' := .null :: st') (s := a :: st) (by simp only [sm_lda, e1]) hl ⟨g, hs⟩ hr h
noncomputable def ai_sti (j nL : Nat) (lv : ab_L) (st : List ab_V) (M : ab_M) (k : ab_L → List ab_V → ab_M → Bool) : Bool := List.rec (motive := fun _ => Bool) false (fun a r _ => ab_if (ab_an (ab_isI a.1) (Nat.blt j nL)) (k (ab_s1 lv j a) r M) (false)) st
theorem ai_sti_ok {j nL : Nat} (hl : ab_gl xs lv lv') (hs : ab_gs xs st st') (hr : ab_rm xs M (lay, m)) (h : ai_sti j nL lv st M k = true) : ab_ok xs lay (sm_sti lv' j nL st' m) k := by
  cases st with
  | nil => cases h
  | cons a r =>
    obtain ⟨h1, h⟩ := ab_bif0 h
    obtain ⟨h1, h2⟩ := ab_and2 h1
    replace hs := ab_gs_cons hs; obtain ⟨v, r', rfl, g, hs⟩ := hs
    obtain ⟨x, rfl, gx⟩ := ab_isI_of h1 g
    exact ⟨_, by simp only [sm_sti]; rw [if_pos (ab_blt h2)], _, _, _, ab_s1_ok hl g, hs, hr, h⟩
noncomputable def ai_stl (j nL : Nat) (lv : ab_L) (st : List ab_V) (M : ab_M) (k : ab_L → List ab_V → ab_M → Bool) : Bool := List.rec (motive := fun _ => Bool) false (fun a r _ => ab_if (ab_an ((ab_oo (Nat.beq a.1 4) (Nat.beq a.1 5))) (Nat.blt (Nat.succ j) nL)) (k (ab_s2 lv j a) r M) (false)) st
theorem ai_stl_ok {j nL : Nat} (hl : ab_gl xs lv lv') (hs : ab_gs xs st st') (hr : ab_rm xs M (lay, m)) (h : ai_stl j nL lv st M k = true) : ab_ok xs lay (sm_stl lv' j nL st' m) k := by
  cases st with
  | nil => cases h
  | cons a r =>
    obtain ⟨h1, h⟩ := ab_bif0 h
    obtain ⟨h1, h2⟩ := ab_and2 h1
    replace hs := ab_gs_cons hs; obtain ⟨v, r', rfl, g, hs⟩ := hs
    obtain ⟨x, rfl, gx⟩ := ab_long_of (ab_45 h1) g
    exact ⟨_, by simp only [sm_stl]; rw [if_pos (ab_blt h2)], _, _, _, ab_s2_ok hl g, hs, hr, h⟩
noncomputable def ai_sta (j nL : Nat) (lv : ab_L) (st : List ab_V) (M : ab_M) (k : ab_L → List ab_V → ab_M → Bool) : Bool := List.rec (motive := fun _ => Bool) false (fun a r _ => ab_if (ab_an ((ab_oo (Nat.beq a.1 2) (Nat.beq a.1 1))) (Nat.blt j nL)) (k (ab_s1 lv j a) r M) (false)) st
theorem ai_sta_ok {j nL : Nat} (hl : ab_gl xs lv lv') (hs : ab_gs xs st st') (hr : ab_rm xs M (lay, m)) (h : ai_sta j nL lv st M k = true) : ab_ok xs lay (sm_sta lv' j nL st' m) k := by
  cases st with
  | nil => cases h
  | cons a r =>
    obtain ⟨h1, h⟩ := ab_bif0 h
    obtain ⟨h1, h2⟩ := ab_and2 h1
    replace hs := ab_gs_cons hs; obtain ⟨v, r', rfl, g, hs⟩ := hs
    rcases ab_or2 h1 with h1 | h1
    · obtain ⟨p, rfl, -⟩ := ab_ref_of (ab_beq h1) g
      exact ⟨_, by simp only [sm_sta]; rw [if_pos (ab_blt h2)], _, _, _, ab_s1_ok hl g, hs, hr, h⟩
    · have := ab_null_of (ab_beq h1) g
      subst this
      exact ⟨_, by simp only [sm_sta]; rw [if_pos (ab_blt h2)], _, _, _, ab_s1_ok hl g, hs, hr, h⟩
noncomputable def ai_inc (j : Nat) (n : Int) (nL : Nat) (E : ab_E) (lv : ab_L) (st : List ab_V) (M : ab_M) (k : ab_L → List ab_V → ab_M → Bool) : Bool := ab_lk lv j (fun a => ab_if (Nat.blt j nL) (ab_add E a (0, (Int32.ofInt n).toInt) (fun v => k (ab_s1 lv j v) st M)) (false))
theorem ai_inc_ok {j nL : Nat} {n : Int} (hE : ab_sat xs E) (hl : ab_gl xs lv lv') (hs : ab_gs xs st st') (hr : ab_rm xs M (lay, m)) (h : ai_inc j n nL E lv st M k = true) : ab_ok xs lay (sm_inc lv' j n nL st' m) k := by
  unfold ai_inc at h
  · replace h := ab_lk_ok hl h
    obtain ⟨a, v, e1, g, h⟩ := h
    replace h := ab_bif0 h
    obtain ⟨h1, h⟩ := h
    obtain ⟨x, y, r, rfl, e2, g1, g2⟩ := ab_add_ok hE _ _ _ _ _ h g (show ab_g xs (0, (Int32.ofInt n).toInt) (.int (Int32.ofInt n)) from ab_gi0 _)
    cases e2
    exact ⟨_, by simp only [sm_inc, e1]; rw [if_pos (ab_blt h1)], _, _, _, ab_s1_ok hl g1, hs, hr, g2⟩
noncomputable def ai_ii (bin : ab_V → ab_V → (ab_V → Bool) → Bool) (lv : ab_L) (st : List ab_V) (M : ab_M) (k : ab_L → List ab_V → ab_M → Bool) : Bool := List.rec (motive := fun _ => Bool) false (fun b r_1 _ => List.rec (motive := fun _ => Bool) false (fun a r _ => bin a b (fun v => k lv (v :: r) M)) r_1) st
theorem ab_two {P : List ab_V → Prop} (h0 : P []) (h1 : ∀ a, P [a]) (h2 : ∀ a b r, P (a :: b :: r)) : ∀ st, P st
  | [] => h0
  | [a] => h1 a
  | a :: b :: r => h2 a b r
theorem ai_ii_ok {bin : ab_V → ab_V → (ab_V → Bool) → Bool} {f : Int32 → Int32 → Int32} (hb : ab_binok xs bin f) (hl : ab_gl xs lv lv') (hs : ab_gs xs st st') (hr : ab_rm xs M (lay, m)) (h : ai_ii bin lv st M k = true) : ab_ok xs lay (sm_p lv' m (sm_ii f st')) k := by
  revert hs h
  refine ab_two (P := fun st => ab_gs xs st st' → ai_ii bin lv st M k = true → _) (fun _ h => by cases h) (fun _ _ h => by cases h) (fun b a r hs h => ?_) st
  replace hs := ab_gs_cons hs; obtain ⟨u, r1, rfl, gb, hs⟩ := hs
  replace hs := ab_gs_cons hs; obtain ⟨v, r2, rfl, ga, hs⟩ := hs
  obtain ⟨x, y, z, rfl, rfl, g1, g2⟩ := hb _ _ _ _ _ h ga gb
  exact ab_ok_p (s' := .int (f x y) :: r2) (s := z :: r) rfl hl ⟨g1, hs⟩ hr g2
noncomputable def ai_iq (f : Int32 → Int32 → Int32) (lv : ab_L) (st : List ab_V) (M : ab_M) (k : ab_L → List ab_V → ab_M → Bool) : Bool := List.rec (motive := fun _ => Bool) false (fun b r_1 _ => List.rec (motive := fun _ => Bool) false (fun a r _ => ab_if (ab_an ((ab_an (Nat.beq a.1 0) (Nat.beq b.1 0))) (!(ab_eq b.2 0))) (ab_fi (f (Int32.ofInt a.2) (Int32.ofInt b.2)).toInt (fun i => k lv ((0, i) :: r) M)) (false)) r_1) st
theorem ai_iq_ok {f : Int32 → Int32 → Int32} (hl : ab_gl xs lv lv') (hs : ab_gs xs st st') (hr : ab_rm xs M (lay, m)) (h : ai_iq f lv st M k = true) : ab_ok xs lay (sm_p lv' m (sm_iq f st')) k := by
  revert hs h
  refine ab_two (P := fun st => ab_gs xs st st' → ai_iq f lv st M k = true → _) (fun _ h => by cases h) (fun _ _ h => by cases h) (fun b a r hs h => ?_) st
  replace hs := ab_gs_cons hs; obtain ⟨u, r1, rfl, gb, hs⟩ := hs
  replace hs := ab_gs_cons hs; obtain ⟨v, r2, rfl, ga, hs⟩ := hs
  obtain ⟨h1, h⟩ := ab_bif0 h
  obtain ⟨h1, h3⟩ := ab_and2 h1
  obtain ⟨h1, h2⟩ := ab_and2 h1
  obtain ⟨x, rfl, gx⟩ := ab_isI_of (ab_isI0 (ab_beq h1)) ga
  obtain ⟨y, rfl, gy⟩ := ab_isI_of (ab_isI0 (ab_beq h2)) gb
  rw [ab_fi_eq, ← ab_cI (ab_beq h1) gx, ← ab_cI (ab_beq h2) gy] at h
  refine ab_ok_p (s' := .int (f x y) :: r2) (s := (0, (f x y).toInt) :: r) ?_ hl ⟨ab_gi0 _, hs⟩ hr h
  simp only [sm_iq]
  rw [if_neg]
  intro e
  subst e
  have e0 : (0 : Int32).toInt = 0 := by decide
  have := ab_cI2 (ab_beq h2) gy
  rw [e0] at this
  have h4 : ab_eq b.2 0 = true := ab_eq_iff.mpr this.symm
  rw [h4] at h3
  cases h3
noncomputable def ai_i1 (f : Int32 → Int32) (lv : ab_L) (st : List ab_V) (M : ab_M) (k : ab_L → List ab_V → ab_M → Bool) : Bool := List.rec (motive := fun _ => Bool) false (fun a r _ => ab_if (Nat.beq a.1 0) (ab_fi (f (Int32.ofInt a.2)).toInt (fun i => k lv ((0, i) :: r) M)) (ab_if (ab_isI a.1) (k lv ((3, 0) :: r) M) (false))) st
theorem ai_i1_ok {f : Int32 → Int32} (hl : ab_gl xs lv lv') (hs : ab_gs xs st st') (hr : ab_rm xs M (lay, m)) (h : ai_i1 f lv st M k = true) : ab_ok xs lay (sm_p lv' m (sm_i1 (fun x => .int (f x)) st')) k := by
  cases st with
  | nil => cases h
  | cons a r =>
    replace hs := ab_gs_cons hs; obtain ⟨v, r', rfl, g, hs⟩ := hs
    rcases ab_bif h with ⟨h1, h⟩ | ⟨-, h⟩
    · obtain ⟨x, rfl, gx⟩ := ab_isI_of (ab_isI0 (ab_beq h1)) g
      rw [ab_fi_eq, ← ab_cI (ab_beq h1) gx] at h
      exact ab_ok_p (s' := .int (f x) :: r') (s := (0, (f x).toInt) :: r) rfl hl ⟨ab_gi0 _, hs⟩ hr h
    · obtain ⟨h1, h⟩ := ab_bif0 h
      obtain ⟨x, rfl, gx⟩ := ab_isI_of h1 g
      exact ab_ok_p (s' := .int (f x) :: r') (s := (3, 0) :: r) rfl hl ⟨ab_gi3 _ _, hs⟩ hr h
noncomputable def ai_i2l (lv : ab_L) (st : List ab_V) (M : ab_M) (k : ab_L → List ab_V → ab_M → Bool) : Bool := List.rec (motive := fun _ => Bool) false (fun a r _ => ab_if (Nat.beq a.1 0) (ab_fi (Int32.ofInt a.2).toInt64.toInt (fun i => k lv ((4, i) :: r) M)) (ab_if (ab_isI a.1) (k lv ((5, 0) :: r) M) (false))) st
theorem ai_i2l_ok (hl : ab_gl xs lv lv') (hs : ab_gs xs st st') (hr : ab_rm xs M (lay, m)) (h : ai_i2l lv st M k = true) : ab_ok xs lay (sm_p lv' m (sm_i1 (fun x => .long x.toInt64) st')) k := by
  cases st with
  | nil => cases h
  | cons a r =>
    replace hs := ab_gs_cons hs; obtain ⟨v, r', rfl, g, hs⟩ := hs
    rcases ab_bif h with ⟨h1, h⟩ | ⟨-, h⟩
    · obtain ⟨x, rfl, gx⟩ := ab_isI_of (ab_isI0 (ab_beq h1)) g
      rw [ab_fi_eq, ← ab_cI (ab_beq h1) gx] at h
      exact ab_ok_p (s' := .long x.toInt64 :: r') (s := (4, x.toInt64.toInt) :: r) rfl hl ⟨Or.inl ⟨rfl, rfl⟩, hs⟩ hr h
    · obtain ⟨h1, h⟩ := ab_bif0 h
      obtain ⟨x, rfl, gx⟩ := ab_isI_of h1 g
      exact ab_ok_p (s' := .long x.toInt64 :: r') (s := (5, 0) :: r) rfl hl ⟨Or.inr rfl, hs⟩ hr h
theorem ab_cL {a : ab_V} {x : Int64} (h : a.1 = 4) (hg : a.1 = 4 → x.toInt = a.2) : x = Int64.ofInt a.2 := by rw [← hg h, Int64.ofInt_toInt]
noncomputable def ai_l2i (lv : ab_L) (st : List ab_V) (M : ab_M) (k : ab_L → List ab_V → ab_M → Bool) : Bool := List.rec (motive := fun _ => Bool) false (fun a r _ => ab_if (Nat.beq a.1 4) (ab_fi (Int64.ofInt a.2).toInt32.toInt (fun i => k lv ((0, i) :: r) M)) (ab_if (Nat.beq a.1 5) (k lv ((3, 0) :: r) M) (false))) st
theorem ai_l2i_ok (hl : ab_gl xs lv lv') (hs : ab_gs xs st st') (hr : ab_rm xs M (lay, m)) (h : ai_l2i lv st M k = true) : ab_ok xs lay (sm_p lv' m (sm_l1 (fun x => .int x.toInt32) st')) k := by
  cases st with
  | nil => cases h
  | cons a r =>
    replace hs := ab_gs_cons hs; obtain ⟨v, r', rfl, g, hs⟩ := hs
    rcases ab_bif h with ⟨h1, h⟩ | ⟨-, h⟩
    · obtain ⟨x, rfl, gx⟩ := ab_long_of (Or.inl (ab_beq h1)) g
      rw [ab_fi_eq, ← ab_cL (ab_beq h1) gx] at h
      exact ab_ok_p (s' := .int x.toInt32 :: r') (s := (0, x.toInt32.toInt) :: r) rfl hl ⟨ab_gi0 _, hs⟩ hr h
    · obtain ⟨h1, h⟩ := ab_bif0 h
      obtain ⟨x, rfl, gx⟩ := ab_long_of (Or.inr (ab_beq h1)) g
      exact ab_ok_p (s' := .int x.toInt32 :: r') (s := (3, 0) :: r) rfl hl ⟨ab_gi3 _ _, hs⟩ hr h
noncomputable def ai_ll (f : Int64 → Int64 → Int64) (lv : ab_L) (st : List ab_V) (M : ab_M) (k : ab_L → List ab_V → ab_M → Bool) : Bool := List.rec (motive := fun _ => Bool) false (fun b r_1 _ => List.rec (motive := fun _ => Bool) false (fun a r _ => ab_if (ab_an (Nat.beq a.1 4) (Nat.beq b.1 4)) (ab_fi (f (Int64.ofInt a.2) (Int64.ofInt b.2)).toInt (fun i => k lv ((4, i) :: r) M)) (ab_if (ab_an ((ab_oo (Nat.beq a.1 4) (Nat.beq a.1 5))) ((ab_oo (Nat.beq b.1 4) (Nat.beq b.1 5)))) (k lv ((5, 0) :: r) M) (false))) r_1) st
theorem ai_ll_ok {f : Int64 → Int64 → Int64} (hl : ab_gl xs lv lv') (hs : ab_gs xs st st') (hr : ab_rm xs M (lay, m)) (h : ai_ll f lv st M k = true) : ab_ok xs lay (sm_p lv' m (sm_ll f st')) k := by
  revert hs h
  refine ab_two (P := fun st => ab_gs xs st st' → ai_ll f lv st M k = true → _) (fun _ h => by cases h) (fun _ _ h => by cases h) (fun b a r hs h => ?_) st
  replace hs := ab_gs_cons hs; obtain ⟨u, r1, rfl, gb, hs⟩ := hs
  replace hs := ab_gs_cons hs; obtain ⟨v, r2, rfl, ga, hs⟩ := hs
  rcases ab_bif h with ⟨h1, h⟩ | ⟨-, h⟩
  · obtain ⟨h1, h2⟩ := ab_and2 h1
    obtain ⟨x, rfl, gx⟩ := ab_long_of (Or.inl (ab_beq h1)) ga
    obtain ⟨y, rfl, gy⟩ := ab_long_of (Or.inl (ab_beq h2)) gb
    rw [ab_fi_eq, ← ab_cL (ab_beq h1) gx, ← ab_cL (ab_beq h2) gy] at h
    exact ab_ok_p (s' := .long (f x y) :: r2) (s := (4, (f x y).toInt) :: r) rfl hl ⟨Or.inl ⟨rfl, rfl⟩, hs⟩ hr h
  · obtain ⟨h1, h⟩ := ab_bif0 h
    obtain ⟨h1, h2⟩ := ab_and2 h1
    obtain ⟨x, rfl, -⟩ := ab_long_of (ab_45 h1) ga
    obtain ⟨y, rfl, -⟩ := ab_long_of (ab_45 h2) gb
    exact ab_ok_p (s' := .long (f x y) :: r2) (s := (5, 0) :: r) rfl hl ⟨Or.inr rfl, hs⟩ hr h
noncomputable def ai_lc (lv : ab_L) (st : List ab_V) (M : ab_M) (k : ab_L → List ab_V → ab_M → Bool) : Bool := List.rec (motive := fun _ => Bool) false (fun b r_1 _ => List.rec (motive := fun _ => Bool) false (fun a r _ => ab_if (ab_an (Nat.beq a.1 4) (Nat.beq b.1 4)) (ab_fi (lg_cmp (Int64.ofInt a.2) (Int64.ofInt b.2)).toInt (fun i => k lv ((0, i) :: r) M)) (ab_if (ab_an ((ab_oo (Nat.beq a.1 4) (Nat.beq a.1 5))) ((ab_oo (Nat.beq b.1 4) (Nat.beq b.1 5)))) (k lv ((3, 0) :: r) M) (false))) r_1) st
theorem ai_lc_ok (hl : ab_gl xs lv lv') (hs : ab_gs xs st st') (hr : ab_rm xs M (lay, m)) (h : ai_lc lv st M k = true) : ab_ok xs lay (sm_p lv' m (sm_lc st')) k := by
  revert hs h
  refine ab_two (P := fun st => ab_gs xs st st' → ai_lc lv st M k = true → _) (fun _ h => by cases h) (fun _ _ h => by cases h) (fun b a r hs h => ?_) st
  replace hs := ab_gs_cons hs; obtain ⟨u, r1, rfl, gb, hs⟩ := hs
  replace hs := ab_gs_cons hs; obtain ⟨v, r2, rfl, ga, hs⟩ := hs
  rcases ab_bif h with ⟨h1, h⟩ | ⟨-, h⟩
  · obtain ⟨h1, h2⟩ := ab_and2 h1
    obtain ⟨x, rfl, gx⟩ := ab_long_of (Or.inl (ab_beq h1)) ga
    obtain ⟨y, rfl, gy⟩ := ab_long_of (Or.inl (ab_beq h2)) gb
    rw [ab_fi_eq, ← ab_cL (ab_beq h1) gx, ← ab_cL (ab_beq h2) gy] at h
    exact ab_ok_p (s' := .int (lg_cmp x y) :: r2) (s := (0, (lg_cmp x y).toInt) :: r) rfl hl ⟨ab_gi0 _, hs⟩ hr h
  · obtain ⟨h1, h⟩ := ab_bif0 h
    obtain ⟨h1, h2⟩ := ab_and2 h1
    obtain ⟨x, rfl, -⟩ := ab_long_of (ab_45 h1) ga
    obtain ⟨y, rfl, -⟩ := ab_long_of (ab_45 h2) gb
    exact ab_ok_p (s' := .int (lg_cmp x y) :: r2) (s := (3, 0) :: r) rfl hl ⟨ab_gi3 _ _, hs⟩ hr h
noncomputable def ai_li (f : Int64 → Int32 → Int64) (lv : ab_L) (st : List ab_V) (M : ab_M) (k : ab_L → List ab_V → ab_M → Bool) : Bool := List.rec (motive := fun _ => Bool) false (fun b r_1 _ => List.rec (motive := fun _ => Bool) false (fun a r _ => ab_if (ab_an (Nat.beq a.1 4) (Nat.beq b.1 0)) (ab_fi (f (Int64.ofInt a.2) (Int32.ofInt b.2)).toInt (fun i => k lv ((4, i) :: r) M)) (ab_if (ab_an ((ab_oo (Nat.beq a.1 4) (Nat.beq a.1 5))) (ab_isI b.1)) (k lv ((5, 0) :: r) M) (false))) r_1) st
theorem ai_li_ok {f : Int64 → Int32 → Int64} (hl : ab_gl xs lv lv') (hs : ab_gs xs st st') (hr : ab_rm xs M (lay, m)) (h : ai_li f lv st M k = true) : ab_ok xs lay (sm_p lv' m (sm_li f st')) k := by
  revert hs h
  refine ab_two (P := fun st => ab_gs xs st st' → ai_li f lv st M k = true → _) (fun _ h => by cases h) (fun _ _ h => by cases h) (fun b a r hs h => ?_) st
  replace hs := ab_gs_cons hs; obtain ⟨u, r1, rfl, gb, hs⟩ := hs
  replace hs := ab_gs_cons hs; obtain ⟨v, r2, rfl, ga, hs⟩ := hs
  rcases ab_bif h with ⟨h1, h⟩ | ⟨-, h⟩
  · obtain ⟨h1, h2⟩ := ab_and2 h1
    obtain ⟨x, rfl, gx⟩ := ab_long_of (Or.inl (ab_beq h1)) ga
    obtain ⟨y, rfl, gy⟩ := ab_isI_of (ab_isI0 (ab_beq h2)) gb
    rw [ab_fi_eq, ← ab_cL (ab_beq h1) gx, ← ab_cI (ab_beq h2) gy] at h
    exact ab_ok_p (s' := .long (f x y) :: r2) (s := (4, (f x y).toInt) :: r) rfl hl ⟨Or.inl ⟨rfl, rfl⟩, hs⟩ hr h
  · obtain ⟨h1, h⟩ := ab_bif0 h
    obtain ⟨h1, h2⟩ := ab_and2 h1
    obtain ⟨x, rfl, -⟩ := ab_long_of (ab_45 h1) ga
    obtain ⟨y, rfl, -⟩ := ab_isI_of h2 gb
    exact ab_ok_p (s' := .long (f x y) :: r2) (s := (5, 0) :: r) rfl hl ⟨Or.inr rfl, hs⟩ hr h
noncomputable def ab_c1 (a : ab_V) : Bool := Nat.beq (ab_cat a) 1
noncomputable def ai_dup (lv : ab_L) (st : List ab_V) (M : ab_M) (k : ab_L → List ab_V → ab_M → Bool) : Bool := List.rec (motive := fun _ => Bool) false (fun a r _ => ab_if (ab_c1 a) (k lv (a :: a :: r) M) (false)) st
theorem ai_dup_ok (hl : ab_gl xs lv lv') (hs : ab_gs xs st st') (hr : ab_rm xs M (lay, m)) (h : ai_dup lv st M k = true) : ab_ok xs lay (sm_p lv' m (sm_dup st')) k := by
  cases st with
  | nil => cases h
  | cons a r =>
    replace hs := ab_gs_cons hs; obtain ⟨v, r', rfl, g, hs⟩ := hs
    obtain ⟨h1, h⟩ := ab_bif0 h
    exact ab_ok_p (s' := v :: v :: r') (s := a :: a :: r) (by simp only [sm_dup]; rw [if_pos (by rw [ab_cat_of g]; exact ab_beq h1)]) hl ⟨g, g, hs⟩ hr h
noncomputable def ai_pop (lv : ab_L) (st : List ab_V) (M : ab_M) (k : ab_L → List ab_V → ab_M → Bool) : Bool := List.rec (motive := fun _ => Bool) false (fun a r _ => ab_if (ab_c1 a) (k lv r M) (false)) st
theorem ai_pop_ok (hl : ab_gl xs lv lv') (hs : ab_gs xs st st') (hr : ab_rm xs M (lay, m)) (h : ai_pop lv st M k = true) : ab_ok xs lay (sm_p lv' m (sm_pop st')) k := by
  cases st with
  | nil => cases h
  | cons a r =>
    replace hs := ab_gs_cons hs; obtain ⟨v, r', rfl, g, hs⟩ := hs
    obtain ⟨h1, h⟩ := ab_bif0 h
    exact ab_ok_p (s' := r') (s := r) (by simp only [sm_pop]; rw [if_pos (by rw [ab_cat_of g]; exact ab_beq h1)]) hl hs hr h
noncomputable def ai_dupx1 (lv : ab_L) (st : List ab_V) (M : ab_M) (k : ab_L → List ab_V → ab_M → Bool) : Bool := List.rec (motive := fun _ => Bool) false (fun a r_1 _ => List.rec (motive := fun _ => Bool) false (fun b r _ => ab_if (ab_an (ab_c1 a) (ab_c1 b)) (k lv (a :: b :: a :: r) M) (false)) r_1) st
theorem ai_dupx1_ok (hl : ab_gl xs lv lv') (hs : ab_gs xs st st') (hr : ab_rm xs M (lay, m)) (h : ai_dupx1 lv st M k = true) : ab_ok xs lay (sm_p lv' m (sm_dupx1 st')) k := by
  revert hs h
  refine ab_two (P := fun st => ab_gs xs st st' → ai_dupx1 lv st M k = true → _) (fun _ h => by cases h) (fun _ _ h => by cases h) (fun a b r hs h => ?_) st
  replace hs := ab_gs_cons hs; obtain ⟨u, r1, rfl, ga, hs⟩ := hs
  replace hs := ab_gs_cons hs; obtain ⟨v, r2, rfl, gb, hs⟩ := hs
  obtain ⟨h1, h⟩ := ab_bif0 h
  obtain ⟨h1, h2⟩ := ab_and2 h1
  exact ab_ok_p (s' := u :: v :: u :: r2) (s := a :: b :: a :: r) (by simp only [sm_dupx1]; rw [if_pos ⟨by rw [ab_cat_of ga]; exact ab_beq h1, by rw [ab_cat_of gb]; exact ab_beq h2⟩]) hl ⟨ga, gb, ga, hs⟩ hr h
noncomputable def ai_dup2 (lv : ab_L) (st : List ab_V) (M : ab_M) (k : ab_L → List ab_V → ab_M → Bool) : Bool := List.rec (motive := fun _ => Bool) false (fun a r_1 _ => List.rec (motive := fun _ => Bool) false (fun b r _ => ab_if (ab_an (ab_c1 a) (ab_c1 b)) (k lv (a :: b :: a :: b :: r) M) (false)) r_1) st
theorem ai_dup2_ok (hl : ab_gl xs lv lv') (hs : ab_gs xs st st') (hr : ab_rm xs M (lay, m)) (h : ai_dup2 lv st M k = true) : ab_ok xs lay (sm_p lv' m (sm_dup2 st')) k := by
  revert hs h
  refine ab_two (P := fun st => ab_gs xs st st' → ai_dup2 lv st M k = true → _) (fun _ h => by cases h) (fun _ _ h => by cases h) (fun a b r hs h => ?_) st
  replace hs := ab_gs_cons hs; obtain ⟨u, r1, rfl, ga, hs⟩ := hs
  replace hs := ab_gs_cons hs; obtain ⟨v, r2, rfl, gb, hs⟩ := hs
  obtain ⟨h1, h⟩ := ab_bif0 h
  obtain ⟨h1, h2⟩ := ab_and2 h1
  exact ab_ok_p (s' := u :: v :: u :: v :: r2) (s := a :: b :: a :: b :: r) (by simp only [sm_dup2]; rw [if_pos ⟨by rw [ab_cat_of ga]; exact ab_beq h1, by rw [ab_cat_of gb]; exact ab_beq h2⟩]) hl ⟨ga, gb, ga, gb, hs⟩ hr h
end AbI
end
section
/-! arrays and fields -/
noncomputable def ab_sI (L : Nat) (p : Nat) (c : Nat → (Nat → ab_V) → Bool) : Bool :=
  ab_if (Nat.beq p 1004) (false) (ab_if (Nat.beq p 1001) (c sm_steps.length (fun j => (0, (sm_steps.getD j 0).toInt))) (ab_if (Nat.beq p 1002) (c sm_room.length (fun j => (0, (sm_room.getD j 0).toInt))) (ab_if (Nat.beq p 1003) (c sm_withyes.length (fun j => (0, (sm_withyes.getD j 0).toInt))) (false))))
theorem ab_sI_ok {L NS p : Nat} {xs ys : Nat → Int32} {c : Nat → (Nat → ab_V) → Bool} (hy : ∀ j, j < L → ys j = xs j) (h : ab_sI L p c = true) : 1000 ≤ p ∧ ∃ n f g, sm_sI (NS, ys) p = some (n, f) ∧ (∀ j, j < n → ab_g xs (g j) (.int (f j))) ∧ c n g = true := by
  unfold ab_sI at h
  rcases ab_bif h with ⟨e, h⟩ | ⟨-, h⟩
  · replace e := ab_beq e
    subst e
    cases h
  · rcases ab_bif h with ⟨e, h⟩ | ⟨-, h⟩
    · replace e := ab_beq e
      subst e
      exact ⟨by decide, _, _, _, rfl, fun j _ => ab_gi0 _, h⟩
    · rcases ab_bif h with ⟨e, h⟩ | ⟨-, h⟩
      · replace e := ab_beq e
        subst e
        exact ⟨by decide, _, _, _, rfl, fun j _ => ab_gi0 _, h⟩
      · replace h := ab_bif0 h; obtain ⟨e, h⟩ := h
        replace e := ab_beq e
        subst e
        exact ⟨by decide, _, _, _, rfl, fun j _ => ab_gi0 _, h⟩
section AbA
variable {L NS : Nat} {xs ys : Nat → Int32} {E : ab_E} {lv : ab_L} {st : List ab_V} {M : ab_M} {lv' : sm_V} {st' : List Value} {lay : List (Nat × Nat)} {m : sm_Y} {k : ab_L → List ab_V → ab_M → Bool}
theorem ab_none {p : Nat} (hr : ab_rm xs M (lay, m)) (h : 1000 ≤ p) : lay[p]? = none := by
  have h1 : lay.length = M.1 := hr.1
  have h2 := hr.2.1
  exact List.getElem?_eq_none (by omega)
noncomputable def ai_ld (a : ab_V) (E : ab_E) (lv : ab_L) (st : List ab_V) (M : ab_M) (k : ab_L → List ab_V → ab_M → Bool) : Bool := ab_fv a (fun a => ab_if (ab_isI a.1) (ab_nrm E a (fun a => k lv (a :: st) M)) (false))
theorem ai_ld_ok {a : ab_V} {x : Int32} {o : Option (List Value)} (hE : ab_sat xs E) (hl : ab_gl xs lv lv') (hs : ab_gs xs st st') (hr : ab_rm xs M (lay, m)) (g : ab_g xs a (.int x)) (e : o = some (.int x :: st')) (h : ai_ld a E lv st M k = true) : ab_ok xs lay (sm_p lv' m o) k := by
  unfold ai_ld at h
  rw [ab_fv_eq] at h
  replace h := ab_bif0 h; obtain ⟨-, h⟩ := h
  obtain ⟨r, g1, g2⟩ := ab_nrm_ok h hE g
  exact ab_ok_p (s' := .int x :: st') (s := r :: st) e hl ⟨g1, hs⟩ hr g2
noncomputable def ai_gI (L : Nat) (E : ab_E) (lv : ab_L) (st : List ab_V) (M : ab_M) (k : ab_L → List ab_V → ab_M → Bool) : Bool := List.rec (motive := fun _ => Bool) false (fun i r_1 _ => List.rec (motive := fun _ => Bool) false (fun b r _ => ab_rf b (fun p => ab_if (Nat.blt p 1000) (ab_cell M p (fun kd n t => ab_if (Nat.beq kd 1) (ab_ix i n (fun j => ai_ld (ab_tg t j) E lv r M k)) (false))) (ab_sI L p (fun n g => ab_ix i n (fun j => ai_ld (g j) E lv r M k))))) r_1) st
theorem ai_gI_ok (hy : ∀ j, j < L → ys j = xs j) (hE : ab_sat xs E) (hl : ab_gl xs lv lv') (hs : ab_gs xs st st') (hr : ab_rm xs M (lay, m)) (h : ai_gI L E lv st M k = true) : ab_ok xs lay (sm_p lv' m (sm_gI (NS, ys) lay m st')) k := by
  revert hs h
  refine ab_two (P := fun st => ab_gs xs st st' → ai_gI L E lv st M k = true → _) (fun _ h => by cases h) (fun _ _ h => by cases h) (fun i b r hs h => ?_) st
  replace hs := ab_gs_cons hs; obtain ⟨u, r1, rfl, gi, hs⟩ := hs
  replace hs := ab_gs_cons hs; obtain ⟨v, r2, rfl, gb, hs⟩ := hs
  replace h := ab_rf_ok h gb; obtain ⟨p, rfl, h⟩ := h
  rcases ab_bif h with ⟨-, h⟩ | ⟨-, h⟩
  · replace h := ab_cell_ok h; obtain ⟨hp, kd, n, t, e, h⟩ := h
    replace h := ab_bif0 h; obtain ⟨hk, h⟩ := h
    replace hk := ab_beq hk
    subst hk
    replace h := ab_ix_ok h gi; obtain ⟨x, rfl, hx, hx2, h⟩ := h
    obtain ⟨c1, c2⟩ := ab_cell_at hr hp e
    have c1 : lay[p]? = some (1, n) := c1
    refine ai_ld_ok (x := m.1 p x.toNatClampNeg) hE hl hs hr (c2 _ hx2) ?_ h
    simp only [sm_gI, c1]
    rw [if_neg hx]
  · replace h := ab_sI_ok (NS := NS) (xs := xs) hy h; obtain ⟨hp, n, f, g, e, hg, h⟩ := h
    replace h := ab_ix_ok h gi; obtain ⟨x, rfl, hx, hx2, h⟩ := h
    refine ai_ld_ok (x := f x.toNatClampNeg) hE hl hs hr (hg _ hx2) ?_ h
    simp only [sm_gI, ab_none hr hp, e]
    rw [if_neg hx]
noncomputable def ai_gB (E : ab_E) (lv : ab_L) (st : List ab_V) (M : ab_M) (k : ab_L → List ab_V → ab_M → Bool) : Bool := List.rec (motive := fun _ => Bool) false (fun i r_1 _ => List.rec (motive := fun _ => Bool) false (fun b r _ => ab_rf b (fun p => ab_cell M p (fun kd n t => ab_if (ab_oo (Nat.beq kd 2) (Nat.beq kd 3)) (ab_ix i n (fun j => ai_ld (ab_tg t j) E lv r M k)) (false)))) r_1) st
theorem ai_gB_ok (hE : ab_sat xs E) (hl : ab_gl xs lv lv') (hs : ab_gs xs st st') (hr : ab_rm xs M (lay, m)) (h : ai_gB E lv st M k = true) : ab_ok xs lay (sm_p lv' m (sm_gB lay m st')) k := by
  revert hs h
  refine ab_two (P := fun st => ab_gs xs st st' → ai_gB E lv st M k = true → _) (fun _ h => by cases h) (fun _ _ h => by cases h) (fun i b r hs h => ?_) st
  replace hs := ab_gs_cons hs; obtain ⟨u, r1, rfl, gi, hs⟩ := hs
  replace hs := ab_gs_cons hs; obtain ⟨v, r2, rfl, gb, hs⟩ := hs
  replace h := ab_rf_ok h gb; obtain ⟨p, rfl, h⟩ := h
  replace h := ab_cell_ok h; obtain ⟨hp, kd, n, t, e, h⟩ := h
  replace h := ab_bif0 h; obtain ⟨hk, h⟩ := h
  replace h := ab_ix_ok h gi; obtain ⟨x, rfl, hx, hx2, h⟩ := h
  obtain ⟨c1, c2⟩ := ab_cell_at hr hp e
  rcases ab_or2 hk with hk | hk
  · replace hk := ab_beq hk
    subst hk
    have c1 : lay[p]? = some (2, n) := c1
    refine ai_ld_ok (x := m.1 p x.toNatClampNeg) hE hl hs hr (c2 _ hx2) ?_ h
    simp only [sm_gB, c1]
    rw [if_neg hx]
  · replace hk := ab_beq hk
    subst hk
    have c1 : lay[p]? = some (3, n) := c1
    refine ai_ld_ok (x := m.1 p x.toNatClampNeg) hE hl hs hr (c2 _ hx2) ?_ h
    simp only [sm_gB, c1]
    rw [if_neg hx]
noncomputable def ai_gL (lv : ab_L) (st : List ab_V) (M : ab_M) (k : ab_L → List ab_V → ab_M → Bool) : Bool := List.rec (motive := fun _ => Bool) false (fun i r_1 _ => List.rec (motive := fun _ => Bool) false (fun b r _ => ab_rf b (fun p => ab_if (Nat.blt p 1000) (ab_cell M p (fun kd n t => ab_if (Nat.beq kd 4) (ab_ix i n (fun j => ab_fv (ab_tg t j) (fun a => k lv (a :: r) M))) (false))) (ab_if (Nat.beq p 1000) (ab_ix i sm_words.length (fun j => ab_fi (sm_words.getD j 0).toInt (fun i => k lv ((4, i) :: r) M))) (false)))) r_1) st
set_option maxRecDepth 20000 in
theorem ai_gL_ok (hl : ab_gl xs lv lv') (hs : ab_gs xs st st') (hr : ab_rm xs M (lay, m)) (h : ai_gL lv st M k = true) : ab_ok xs lay (sm_p lv' m (sm_gL lay m st')) k := by
  revert hs h
  refine ab_two (P := fun st => ab_gs xs st st' → ai_gL lv st M k = true → _) (fun _ h => by cases h) (fun _ _ h => by cases h) (fun i b r hs h => ?_) st
  replace hs := ab_gs_cons hs; obtain ⟨u, r1, rfl, gi, hs⟩ := hs
  replace hs := ab_gs_cons hs; obtain ⟨v, r2, rfl, gb, hs⟩ := hs
  replace h := ab_rf_ok h gb; obtain ⟨p, rfl, h⟩ := h
  rcases ab_bif h with ⟨-, h⟩ | ⟨-, h⟩
  · replace h := ab_cell_ok h; obtain ⟨hp, kd, n, t, e, h⟩ := h
    replace h := ab_bif0 h; obtain ⟨hk, h⟩ := h
    replace hk := ab_beq hk
    subst hk
    replace h := ab_ix_ok h gi; obtain ⟨x, rfl, hx, hx2, h⟩ := h
    obtain ⟨c1, c2⟩ := ab_cell_at hr hp e
    have c1 : lay[p]? = some (4, n) := c1
    rw [ab_fv_eq] at h
    refine ab_ok_p (s' := .long (m.2.1 p x.toNatClampNeg) :: r2) (s := ab_tg t x.toNatClampNeg :: r) ?_ hl ⟨c2 _ hx2, hs⟩ hr h
    simp only [sm_gL, c1]
    rw [if_neg hx]
  · replace h := ab_bif0 h; obtain ⟨hp, h⟩ := h
    replace hp := ab_beq hp
    subst hp
    replace h := ab_ix_ok h gi; obtain ⟨x, rfl, hx, hx2, h⟩ := h
    rw [ab_fi_eq] at h
    refine ab_ok_p (s' := .long (sm_words.getD x.toNatClampNeg 0) :: r2) (s := (4, (sm_words.getD x.toNatClampNeg 0).toInt) :: r) ?_ hl ⟨Or.inl ⟨rfl, rfl⟩, hs⟩ hr h
    simp only [sm_gL, ab_none hr (Nat.le_refl 1000), sm_sL]
    rw [if_neg hx]
noncomputable def ai_len (L : Nat) (lv : ab_L) (st : List ab_V) (M : ab_M) (k : ab_L → List ab_V → ab_M → Bool) : Bool := List.rec (motive := fun _ => Bool) false (fun b r _ => ab_rf b (fun p => ab_if (Nat.blt p 1000) (ab_cell M p (fun kd n _ => ab_if (ab_an (Nat.ble 1 kd) (Nat.ble kd 4)) (ai_ci (Int32.ofNat n) lv r M k) (false))) (ab_if (Nat.beq p 1000) (ai_ci (Int32.ofNat sm_words.length) lv r M k) (ab_sI L p (fun n _ => ai_ci (Int32.ofNat n) lv r M k))))) st
theorem ai_len_ok (hy : ∀ j, j < L → ys j = xs j) (hl : ab_gl xs lv lv') (hs : ab_gs xs st st') (hr : ab_rm xs M (lay, m)) (h : ai_len L lv st M k = true) : ab_ok xs lay (sm_p lv' m (sm_len (NS, ys) lay st')) k := by
  cases st with
  | nil => cases h
  | cons b r =>
    replace hs := ab_gs_cons hs; obtain ⟨v, r2, rfl, gb, hs⟩ := hs
    replace h := ab_rf_ok h gb; obtain ⟨p, rfl, h⟩ := h
    rcases ab_bif h with ⟨-, h⟩ | ⟨-, h⟩
    · replace h := ab_cell_ok h; obtain ⟨hp, kd, n, t, e, h⟩ := h
      replace h := ab_bif0 h; obtain ⟨hk, h⟩ := h
      replace hk := ab_and2 hk; obtain ⟨hk, hk2⟩ := hk
      replace hk := ab_ble hk
      replace hk2 := ab_ble hk2
      obtain ⟨c1, -⟩ := ab_cell_at hr hp e
      have c1 : lay[p]? = some (kd, n) := c1
      obtain ⟨q, q1, q2⟩ := ai_ci_ok hl hs hr h
      refine ⟨q, ?_, q2⟩
      rw [← q1]
      cases kd with
      | zero => omega
      | succ kd =>
        simp only [sm_len, c1]
        rw [if_pos (by omega)]
        rfl
    · rcases ab_bif h with ⟨hp, h⟩ | ⟨-, h⟩
      · replace hp := ab_beq hp
        subst hp
        obtain ⟨q, q1, q2⟩ := ai_ci_ok hl hs hr h
        refine ⟨q, ?_, q2⟩
        rw [← q1]
        simp only [sm_len, ab_none hr (Nat.le_refl 1000), sm_sL, sm_sI]
        rfl
      · replace h := ab_sI_ok (NS := NS) (xs := xs) hy h; obtain ⟨hp, n, f, g, e, -, h⟩ := h
        obtain ⟨q, q1, q2⟩ := ai_ci_ok hl hs hr h
        refine ⟨q, ?_, q2⟩
        rw [← q1]
        simp only [sm_len, ab_none hr hp, e]
        rfl
theorem ab_three {P : List ab_V → Prop} (h0 : P []) (h1 : ∀ a, P [a]) (h2 : ∀ a b, P [a, b]) (h3 : ∀ a b c r, P (a :: b :: c :: r)) : ∀ st, P st
  | [] => h0
  | [a] => h1 a
  | [a, b] => h2 a b
  | a :: b :: c :: r => h3 a b c r
theorem ab_up_eq {α : Type} (f : Nat → Nat → α) (p j : Nat) (v : α) : sm_up f p j v p j = v := by simp [sm_up]
theorem ab_up_j {α : Type} (f : Nat → Nat → α) (p j : Nat) (v : α) {j' : Nat} (h : j' ≠ j) : sm_up f p j v p j' = f p j' := by simp [sm_up, h]
theorem ab_up_p {α : Type} (f : Nat → Nat → α) (p j : Nat) (v : α) {p' : Nat} (h : p' ≠ p) (j' : Nat) : sm_up f p j v p' j' = f p' j' := by simp [sm_up, h]
theorem ab_setI {c : ab_M → Bool} {p kd n : Nat} {t : ab_T} {j : Nat} {a : ab_V} {x : Int32} (hr : ab_rm xs M (lay, m)) (hp : p < M.1) (e : ab_tg M.2 p = (kd, n, t)) (h0 : kd ≠ 0) (h4 : kd ≠ 4) (hj : j < n) (ha : ab_g xs a (.int x)) (h : ab_mset M p kd n t j a c = true) : ∃ M', ab_rm xs M' (lay, (sm_up m.1 p j x, m.2)) ∧ c M' = true := by
  refine ab_mset_ok (w' := (lay, (sm_up m.1 p j x, m.2))) hr hp e (by rw [ab_bd, if_neg h0]; exact hj) ha rfl ?_ ?_ ?_ h
  · simp only [ab_val]; rw [if_neg h0, if_neg h4, ab_up_eq]
  · intro j' hj'
    simp only [ab_val]; rw [if_neg h0, if_neg h4, if_neg h0, if_neg h4, ab_up_j _ _ _ _ hj']
  · intro p' kd' j' hp'
    simp only [ab_val]
    rw [ab_up_p _ _ _ _ hp', ab_up_p _ _ _ _ hp']
noncomputable def ai_pI (lv : ab_L) (st : List ab_V) (M : ab_M) (k : ab_L → List ab_V → ab_M → Bool) : Bool := List.rec (motive := fun _ => Bool) false (fun a r_1 _ => List.rec (motive := fun _ => Bool) false (fun i r_2 _ => List.rec (motive := fun _ => Bool) false (fun b r _ => ab_rf b (fun p => ab_cell M p (fun kd n t => ab_if (ab_an (Nat.beq kd 1) (ab_isI a.1)) (ab_ix i n (fun j => ab_mset M p kd n t j a (fun M' => k lv r M'))) (false)))) r_2) r_1) st
theorem ai_pI_ok (hl : ab_gl xs lv lv') (hs : ab_gs xs st st') (hr : ab_rm xs M (lay, m)) (h : ai_pI lv st M k = true) : ab_ok xs lay (sm_pI lv' lay m st') k := by
  revert hs h
  refine ab_three (P := fun st => ab_gs xs st st' → ai_pI lv st M k = true → _) (fun _ h => by cases h) (fun _ _ h => by cases h) (fun _ _ _ h => by cases h) (fun a i b r hs h => ?_) st
  replace hs := ab_gs_cons hs; obtain ⟨y, r0, rfl, ga, hs⟩ := hs
  replace hs := ab_gs_cons hs; obtain ⟨u, r1, rfl, gi, hs⟩ := hs
  replace hs := ab_gs_cons hs; obtain ⟨v, r2, rfl, gb, hs⟩ := hs
  replace h := ab_rf_ok h gb; obtain ⟨p, rfl, h⟩ := h
  replace h := ab_cell_ok h; obtain ⟨hp, kd, n, t, e, h⟩ := h
  replace h := ab_bif0 h; obtain ⟨hk, h⟩ := h
  replace hk := ab_and2 hk; obtain ⟨hk, ha⟩ := hk
  replace hk := ab_beq hk
  subst hk
  obtain ⟨y, rfl, gy⟩ := ab_isI_of ha ga
  replace h := ab_ix_ok h gi; obtain ⟨x, rfl, hx, hx2, h⟩ := h
  obtain ⟨c1, -⟩ := ab_cell_at hr hp e
  have c1 : lay[p]? = some (1, n) := c1
  obtain ⟨M', q1, q2⟩ := ab_setI hr hp e (by decide) (by decide) hx2 ga h
  exact ⟨(lv', r2, (sm_up m.1 p x.toNatClampNeg y, m.2)), by simp only [sm_pI, c1]; rw [if_neg hx], lv, r, M', hl, hs, q1, q2⟩
noncomputable def ab_nar (f : Int32 → Int32) (a : ab_V) (c : ab_V → Bool) : Bool := ab_if (Nat.beq a.1 0) (ab_fi (f (Int32.ofInt a.2)).toInt (fun i => c (0, i))) (ab_if (ab_isI a.1) (c (3, 0)) (false))
theorem ab_nar_ok {f : Int32 → Int32} {a : ab_V} {v : Value} {c : ab_V → Bool} (h : ab_nar f a c = true) (g : ab_g xs a v) : ∃ (x : Int32) (r : ab_V), v = .int x ∧ ab_g xs r (.int (f x)) ∧ c r = true := by
  unfold ab_nar at h
  rcases ab_bif h with ⟨h1, h⟩ | ⟨-, h⟩
  · obtain ⟨x, rfl, gx⟩ := ab_isI_of (ab_isI0 (ab_beq h1)) g
    rw [ab_fi_eq, ← ab_cI (ab_beq h1) gx] at h
    exact ⟨x, _, rfl, ab_gi0 _, h⟩
  · replace h := ab_bif0 h; obtain ⟨h1, h⟩ := h
    obtain ⟨x, rfl, gx⟩ := ab_isI_of h1 g
    exact ⟨x, _, rfl, ab_gi3 _ _, h⟩
noncomputable def ai_pB (lv : ab_L) (st : List ab_V) (M : ab_M) (k : ab_L → List ab_V → ab_M → Bool) : Bool := List.rec (motive := fun _ => Bool) false (fun a r_1 _ => List.rec (motive := fun _ => Bool) false (fun i r_2 _ => List.rec (motive := fun _ => Bool) false (fun b r _ => ab_rf b (fun p => ab_cell M p (fun kd n t => ab_if (Nat.beq kd 2) (ab_ix i n (fun j => ab_nar (vp_nar .byte) a (fun a => ab_mset M p kd n t j a (fun M' => k lv r M')))) (ab_if (Nat.beq kd 3) (ab_ix i n (fun j => ab_nar (vp_nar .boolean) a (fun a => ab_mset M p kd n t j a (fun M' => k lv r M')))) (false))))) r_2) r_1) st
theorem ai_pB_ok (hl : ab_gl xs lv lv') (hs : ab_gs xs st st') (hr : ab_rm xs M (lay, m)) (h : ai_pB lv st M k = true) : ab_ok xs lay (sm_pB lv' lay m st') k := by
  revert hs h
  refine ab_three (P := fun st => ab_gs xs st st' → ai_pB lv st M k = true → _) (fun _ h => by cases h) (fun _ _ h => by cases h) (fun _ _ _ h => by cases h) (fun a i b r hs h => ?_) st
  replace hs := ab_gs_cons hs; obtain ⟨y, r0, rfl, ga, hs⟩ := hs
  replace hs := ab_gs_cons hs; obtain ⟨u, r1, rfl, gi, hs⟩ := hs
  replace hs := ab_gs_cons hs; obtain ⟨v, r2, rfl, gb, hs⟩ := hs
  replace h := ab_rf_ok h gb; obtain ⟨p, rfl, h⟩ := h
  replace h := ab_cell_ok h; obtain ⟨hp, kd, n, t, e, h⟩ := h
  obtain ⟨c1, -⟩ := ab_cell_at hr hp e
  rcases ab_bif h with ⟨hk, h⟩ | ⟨-, h⟩
  · replace hk := ab_beq hk
    subst hk
    replace h := ab_ix_ok h gi; obtain ⟨x, rfl, hx, hx2, h⟩ := h
    replace h := ab_nar_ok h ga; obtain ⟨y, a', rfl, g', h⟩ := h
    have c1 : lay[p]? = some (2, n) := c1
    obtain ⟨M', q1, q2⟩ := ab_setI hr hp e (by decide) (by decide) hx2 g' h
    exact ⟨(lv', r2, (sm_up m.1 p x.toNatClampNeg (vp_nar .byte y), m.2)), by simp only [sm_pB, c1]; rw [if_neg hx], lv, r, M', hl, hs, q1, q2⟩
  · replace h := ab_bif0 h; obtain ⟨hk, h⟩ := h
    replace hk := ab_beq hk
    subst hk
    replace h := ab_ix_ok h gi; obtain ⟨x, rfl, hx, hx2, h⟩ := h
    replace h := ab_nar_ok h ga; obtain ⟨y, a', rfl, g', h⟩ := h
    have c1 : lay[p]? = some (3, n) := c1
    obtain ⟨M', q1, q2⟩ := ab_setI hr hp e (by decide) (by decide) hx2 g' h
    exact ⟨(lv', r2, (sm_up m.1 p x.toNatClampNeg (vp_nar .boolean y), m.2)), by simp only [sm_pB, c1]; rw [if_neg hx], lv, r, M', hl, hs, q1, q2⟩
noncomputable def ai_pL (lv : ab_L) (st : List ab_V) (M : ab_M) (k : ab_L → List ab_V → ab_M → Bool) : Bool := List.rec (motive := fun _ => Bool) false (fun a r_1 _ => List.rec (motive := fun _ => Bool) false (fun i r_2 _ => List.rec (motive := fun _ => Bool) false (fun b r _ => ab_rf b (fun p => ab_cell M p (fun kd n t => ab_if (ab_an (Nat.beq kd 4) ((ab_oo (Nat.beq a.1 4) (Nat.beq a.1 5)))) (ab_ix i n (fun j => ab_mset M p kd n t j a (fun M' => k lv r M'))) (false)))) r_2) r_1) st
theorem ai_pL_ok (hl : ab_gl xs lv lv') (hs : ab_gs xs st st') (hr : ab_rm xs M (lay, m)) (h : ai_pL lv st M k = true) : ab_ok xs lay (sm_pL lv' lay m st') k := by
  revert hs h
  refine ab_three (P := fun st => ab_gs xs st st' → ai_pL lv st M k = true → _) (fun _ h => by cases h) (fun _ _ h => by cases h) (fun _ _ _ h => by cases h) (fun a i b r hs h => ?_) st
  replace hs := ab_gs_cons hs; obtain ⟨y, r0, rfl, ga, hs⟩ := hs
  replace hs := ab_gs_cons hs; obtain ⟨u, r1, rfl, gi, hs⟩ := hs
  replace hs := ab_gs_cons hs; obtain ⟨v, r2, rfl, gb, hs⟩ := hs
  replace h := ab_rf_ok h gb; obtain ⟨p, rfl, h⟩ := h
  replace h := ab_cell_ok h; obtain ⟨hp, kd, n, t, e, h⟩ := h
  replace h := ab_bif0 h; obtain ⟨hk, h⟩ := h
  replace hk := ab_and2 hk; obtain ⟨hk, ha⟩ := hk
  replace hk := ab_beq hk
  subst hk
  obtain ⟨y, rfl, gy⟩ := ab_long_of (ab_45 ha) ga
  replace h := ab_ix_ok h gi; obtain ⟨x, rfl, hx, hx2, h⟩ := h
  obtain ⟨c1, -⟩ := ab_cell_at hr hp e
  have c1 : lay[p]? = some (4, n) := c1
  obtain ⟨M', q1, q2⟩ := ab_mset_ok (w' := (lay, (m.1, sm_up m.2.1 p x.toNatClampNeg y, m.2.2))) hr hp e (by rw [ab_bd, if_neg (by decide)]; exact hx2) ga rfl (by simp only [ab_val]; rw [if_neg (by decide), if_pos trivial, ab_up_eq]) (by
    intro j' hj'
    simp only [ab_val]; rw [if_neg (by decide), if_pos trivial, if_neg (by decide), if_pos trivial, ab_up_j _ _ _ _ hj']) (by
    intro p' kd' j' hp'
    simp only [ab_val]
    rw [ab_up_p _ _ _ _ hp']) h
  exact ⟨(lv', r2, (m.1, sm_up m.2.1 p x.toNatClampNeg y, m.2.2)), by simp only [sm_pL, c1]; rw [if_neg hx], lv, r, M', hl, hs, q1, q2⟩
/-! fields -/
noncomputable def ai_get (E : ab_E) (c f : Nat) (lv : ab_L) (st : List ab_V) (M : ab_M) (k : ab_L → List ab_V → ab_M → Bool) : Bool := List.rec (motive := fun _ => Bool) false (fun b r _ => ab_rf b (fun p => ab_cell M p (fun kd n t => ab_if (ab_an ((ab_an (Nat.beq kd 0) (Nat.beq n c))) (Nat.blt f 128)) ((ab_if (Nat.beq (sm_cd c f) 1) (ab_fv (ab_tg t (Nat.succ (Nat.mul 2 f))) (fun a => k lv (a :: r) M)) (ai_ld (ab_tg t (Nat.mul 2 f)) E lv r M k))) (false)))) st
theorem ai_get_ok {c f : Nat} (hE : ab_sat xs E) (hl : ab_gl xs lv lv') (hs : ab_gs xs st st') (hr : ab_rm xs M (lay, m)) (h : ai_get E c f lv st M k = true) : ab_ok xs lay (sm_p lv' m (sm_get lay m c f st')) k := by
  cases st with
  | nil => cases h
  | cons b r =>
    replace hs := ab_gs_cons hs; obtain ⟨v, r2, rfl, gb, hs⟩ := hs
    replace h := ab_rf_ok h gb; obtain ⟨p, rfl, h⟩ := h
    replace h := ab_cell_ok h; obtain ⟨hp, kd, n, t, e, h⟩ := h
    replace h := ab_bif0 h; obtain ⟨hk, h⟩ := h
    replace hk := ab_and2 hk; obtain ⟨hk, hf⟩ := hk
    replace hk := ab_and2 hk; obtain ⟨hk, hn⟩ := hk
    replace hk := ab_beq hk
    replace hn := ab_beq hn
    replace hf := ab_blt hf
    subst hk
    subst hn
    obtain ⟨c1, c2⟩ := ab_cell_at hr hp e
    have c1 : lay[p]? = some (0, n) := c1
    rcases ab_bif h with ⟨hc, h⟩ | ⟨hc, h⟩
    · replace hc := ab_beq hc
      rw [ab_fv_eq] at h
      have c3 := c2 (Nat.succ (Nat.mul 2 f)) (by show Nat.succ (2 * f) < 256; omega)
      have e3 : ab_val (lay, m) p 0 (Nat.succ (Nat.mul 2 f)) = sm_rv (m.2.2 p f) := by
        have e1 : Nat.succ (Nat.mul 2 f) = 2 * f + 1 := rfl
        simp only [ab_val]
        rw [if_pos trivial, e1, if_pos (by omega)]
        have : (2 * f + 1) / 2 = f := by omega
        rw [this]
      rw [e3] at c3
      refine ab_ok_p (s' := sm_rv (m.2.2 p f) :: r2) (s := ab_tg t (Nat.succ (Nat.mul 2 f)) :: r) ?_ hl ⟨c3, hs⟩ hr h
      simp only [sm_get, c1]
      rw [if_pos trivial, if_pos hc]
    · replace hc := ab_bne hc
      have c3 := c2 (Nat.mul 2 f) (by show 2 * f < 256; omega)
      have e3 : ab_val (lay, m) p 0 (Nat.mul 2 f) = .int (m.1 p f) := by
        have e1 : Nat.mul 2 f = 2 * f := rfl
        simp only [ab_val]
        rw [if_pos trivial, e1, if_neg (by omega)]
        have : (2 * f) / 2 = f := by omega
        rw [this]
      rw [e3] at c3
      refine ai_ld_ok (x := m.1 p f) hE hl hs hr c3 ?_ h
      simp only [sm_get, c1]
      rw [if_pos trivial, if_neg hc]
noncomputable def ai_put (c f : Nat) (lv : ab_L) (st : List ab_V) (M : ab_M) (k : ab_L → List ab_V → ab_M → Bool) : Bool := List.rec (motive := fun _ => Bool) false (fun a r_1 _ => List.rec (motive := fun _ => Bool) false (fun b r _ => ab_rf b (fun p => ab_cell M p (fun kd n t => ab_if (ab_an ((ab_an (Nat.beq kd 0) (Nat.beq n c))) (Nat.blt f 128)) ((ab_if (ab_an (Nat.beq (sm_cd c f) 1) ((ab_oo (Nat.beq a.1 2) (Nat.beq a.1 1)))) (ab_mset M p kd n t (Nat.succ (Nat.mul 2 f)) a (fun M' => k lv r M')) (ab_if (ab_oo ((ab_an (Nat.beq (sm_cd c f) 0) (ab_isI a.1))) ((ab_an (Nat.beq (sm_cd c f) 2) ((ab_oo (ab_is a 0) (ab_is a 1)))))) (ab_mset M p kd n t (Nat.mul 2 f) a (fun M' => k lv r M')) (false)))) (false)))) r_1) st
theorem ab_setF {c : ab_M → Bool} {p n : Nat} {t : ab_T} {f : Nat} {a : ab_V} {x : Int32} (hr : ab_rm xs M (lay, m)) (hp : p < M.1) (e : ab_tg M.2 p = (0, n, t)) (hf : f < 128) (ha : ab_g xs a (.int x)) (h : ab_mset M p 0 n t (Nat.mul 2 f) a c = true) : ∃ M', ab_rm xs M' (lay, (sm_up m.1 p f x, m.2)) ∧ c M' = true := by
  have e1 : Nat.mul 2 f = 2 * f := rfl
  have e2 : (2 * f) / 2 = f := by omega
  refine ab_mset_ok (w' := (lay, (sm_up m.1 p f x, m.2))) hr hp e (by show 2 * f < 256; omega) ha rfl ?_ ?_ ?_ h
  · simp only [ab_val]; rw [if_pos trivial, e1, if_neg (by omega), e2, ab_up_eq]
  · intro j' hj'
    simp only [ab_val]
    rw [if_pos trivial, if_pos trivial]
    by_cases q : j' % 2 = 1
    · rw [if_pos q, if_pos q]
    · rw [if_neg q, if_neg q, ab_up_j _ _ _ _ (by rw [e1] at hj'; omega)]
  · intro p' kd' j' hp'
    simp only [ab_val]
    rw [ab_up_p _ _ _ _ hp', ab_up_p _ _ _ _ hp']
theorem ab_setR {c : ab_M → Bool} {p n : Nat} {t : ab_T} {f : Nat} {a : ab_V} {x : Option Nat} (hr : ab_rm xs M (lay, m)) (hp : p < M.1) (e : ab_tg M.2 p = (0, n, t)) (hf : f < 128) (ha : ab_g xs a (sm_rv x)) (h : ab_mset M p 0 n t (Nat.succ (Nat.mul 2 f)) a c = true) : ∃ M', ab_rm xs M' (lay, (m.1, m.2.1, sm_up m.2.2 p f x)) ∧ c M' = true := by
  have e1 : Nat.succ (Nat.mul 2 f) = 2 * f + 1 := rfl
  have e2 : (2 * f + 1) / 2 = f := by omega
  refine ab_mset_ok (w' := (lay, (m.1, m.2.1, sm_up m.2.2 p f x))) hr hp e (by show Nat.succ (2 * f) < 256; omega) ha rfl ?_ ?_ ?_ h
  · simp only [ab_val]; rw [if_pos trivial, e1, if_pos (by omega), e2, ab_up_eq]
  · intro j' hj'
    simp only [ab_val]
    rw [if_pos trivial, if_pos trivial]
    by_cases q : j' % 2 = 1
    · rw [if_pos q, if_pos q, ab_up_j _ _ _ _ (by rw [e1] at hj'; omega)]
    · rw [if_neg q, if_neg q]
  · intro p' kd' j' hp'
    simp only [ab_val]
    rw [ab_up_p _ _ _ _ hp']
theorem ai_put_ok {c f : Nat} (hl : ab_gl xs lv lv') (hs : ab_gs xs st st') (hr : ab_rm xs M (lay, m)) (h : ai_put c f lv st M k = true) : ab_ok xs lay (sm_put lv' lay m c f st') k := by
  revert hs h
  refine ab_two (P := fun st => ab_gs xs st st' → ai_put c f lv st M k = true → _) (fun _ h => by cases h) (fun _ _ h => by cases h) (fun a b r hs h => ?_) st
  replace hs := ab_gs_cons hs; obtain ⟨u, r1, rfl, ga, hs⟩ := hs
  replace hs := ab_gs_cons hs; obtain ⟨v, r2, rfl, gb, hs⟩ := hs
  replace h := ab_rf_ok h gb; obtain ⟨p, rfl, h⟩ := h
  replace h := ab_cell_ok h; obtain ⟨hp, kd, n, t, e, h⟩ := h
  replace h := ab_bif0 h; obtain ⟨hk, h⟩ := h
  replace hk := ab_and2 hk; obtain ⟨hk, hf⟩ := hk
  replace hk := ab_and2 hk; obtain ⟨hk, hn⟩ := hk
  replace hk := ab_beq hk
  replace hn := ab_beq hn
  replace hf := ab_blt hf
  subst hk
  subst hn
  obtain ⟨c1, -⟩ := ab_cell_at hr hp e
  have c1 : lay[p]? = some (0, n) := c1
  rcases ab_bif h with ⟨hc, h⟩ | ⟨-, h⟩
  · replace hc := ab_and2 hc; obtain ⟨hc, hq⟩ := hc
    replace hc := ab_beq hc
    rcases ab_or2 hq with hq | hq
    · obtain ⟨q, rfl, -⟩ := ab_ref_of (ab_beq hq) ga
      obtain ⟨M', q1, q2⟩ := ab_setR (x := some q) hr hp e hf ga h
      exact ⟨(lv', r2, (m.1, m.2.1, sm_up m.2.2 p f (some q))), by simp only [sm_put, c1, hc]; rfl, lv, r, M', hl, hs, q1, q2⟩
    · have := ab_null_of (ab_beq hq) ga
      subst this
      obtain ⟨M', q1, q2⟩ := ab_setR (x := none) hr hp e hf ga h
      exact ⟨(lv', r2, (m.1, m.2.1, sm_up m.2.2 p f none)), by simp only [sm_put, c1, hc]; rfl, lv, r, M', hl, hs, q1, q2⟩
  · replace h := ab_bif0 h; obtain ⟨hc, h⟩ := h
    rcases ab_or2 hc with hc | hc
    · replace hc := ab_and2 hc; obtain ⟨hc, hq⟩ := hc
      replace hc := ab_beq hc
      obtain ⟨x, rfl, -⟩ := ab_isI_of hq ga
      obtain ⟨M', q1, q2⟩ := ab_setF hr hp e hf ga h
      exact ⟨(lv', r2, (sm_up m.1 p f x, m.2)), by simp only [sm_put, c1, hc]; rfl, lv, r, M', hl, hs, q1, q2⟩
    · replace hc := ab_and2 hc; obtain ⟨hc, hq⟩ := hc
      replace hc := ab_beq hc
      have hx : ∃ x : Int32, u = .int x ∧ (x = 0 ∨ x = 1) := by
        rcases ab_or2 hq with hq | hq
        · obtain ⟨x, rfl, ex⟩ := ab_is_of (x := 0) hq ga
          exact ⟨x, rfl, Or.inl (ab_ofI (by rw [ex]; decide))⟩
        · obtain ⟨x, rfl, ex⟩ := ab_is_of (x := 0) hq ga
          exact ⟨x, rfl, Or.inr (ab_ofI (by rw [ex]; decide))⟩
      obtain ⟨x, rfl, hx⟩ := hx
      obtain ⟨M', q1, q2⟩ := ab_setF hr hp e hf ga h
      exact ⟨(lv', r2, (sm_up m.1 p f x, m.2)), by simp only [sm_put, c1, hc]; rw [if_pos trivial, if_pos hx], lv, r, M', hl, hs, q1, q2⟩
/-! Object's constructor, Math, arraycopy -/
noncomputable def ab_sum (st : List ab_V) : Nat := List.rec (motive := fun _ => Nat) 0 (fun a _ ih => Nat.add (ab_cat a) ih) st
theorem ab_sum_ok : ∀ {st : List ab_V} {st' : List Value}, ab_gs xs st st' → (st'.map fun v => v.category).sum = ab_sum st
  | [], [], _ => rfl
  | a :: r, v :: r', h => by
    simp only [List.map_cons, List.sum_cons]
    rw [ab_sum_ok h.2, ab_cat_of h.1]
    rfl
  | [], _ :: _, h => h.elim
  | _ :: _, [], h => h.elim
noncomputable def ai_oin (lv : ab_L) (st : List ab_V) (M : ab_M) (k : ab_L → List ab_V → ab_M → Bool) : Bool := List.rec (motive := fun _ => Bool) false (fun b r _ => ab_if (ab_an (Nat.beq b.1 2) (Nat.ble (ab_sum r) 8)) (k lv r M) (false)) st
theorem ai_oin_ok (hl : ab_gl xs lv lv') (hs : ab_gs xs st st') (hr : ab_rm xs M (lay, m)) (h : ai_oin lv st M k = true) : ab_ok xs lay (sm_p lv' m (sm_oin st')) k := by
  cases st with
  | nil => cases h
  | cons b r =>
    replace hs := ab_gs_cons hs; obtain ⟨v, r2, rfl, gb, hs⟩ := hs
    replace h := ab_bif0 h; obtain ⟨h1, h⟩ := h
    replace h1 := ab_and2 h1; obtain ⟨h1, h2⟩ := h1
    obtain ⟨p, rfl, -⟩ := ab_ref_of (ab_beq h1) gb
    refine ab_ok_p (s' := r2) (s := r) ?_ hl hs hr h
    simp only [sm_oin]
    rw [if_pos (by rw [ab_sum_ok hs]; exact ab_ble h2)]
noncomputable def ai_ma (f : Int32 → Int32 → Int32) (lv : ab_L) (st : List ab_V) (M : ab_M) (k : ab_L → List ab_V → ab_M → Bool) : Bool := List.rec (motive := fun _ => Bool) false (fun b r_1 _ => List.rec (motive := fun _ => Bool) false (fun a r _ => ab_if (Nat.ble (ab_sum r) 8) (ab_bin f a b (fun v => k lv (v :: r) M)) (false)) r_1) st
theorem ai_ma_ok {f : Int32 → Int32 → Int32} (hl : ab_gl xs lv lv') (hs : ab_gs xs st st') (hr : ab_rm xs M (lay, m)) (h : ai_ma f lv st M k = true) : ab_ok xs lay (sm_p lv' m (sm_ma f st')) k := by
  revert hs h
  refine ab_two (P := fun st => ab_gs xs st st' → ai_ma f lv st M k = true → _) (fun _ h => by cases h) (fun _ _ h => by cases h) (fun b a r hs h => ?_) st
  replace hs := ab_gs_cons hs; obtain ⟨u, r1, rfl, gb, hs⟩ := hs
  replace hs := ab_gs_cons hs; obtain ⟨v, r2, rfl, ga, hs⟩ := hs
  replace h := ab_bif0 h; obtain ⟨h1, h⟩ := h
  obtain ⟨x, y, z, rfl, rfl, g1, g2⟩ := ab_bin_ok f _ _ _ _ _ h ga gb
  refine ab_ok_p (s' := .int (f x y) :: r2) (s := z :: r) ?_ hl ⟨g1, hs⟩ hr g2
  simp only [sm_ma]
  rw [if_pos (by rw [ab_sum_ok hs]; exact ab_ble h1)]
noncomputable def ai_mb (f : Int32 → Int32) (lv : ab_L) (st : List ab_V) (M : ab_M) (k : ab_L → List ab_V → ab_M → Bool) : Bool := List.rec (motive := fun _ => Bool) false (fun a r _ => ab_if (Nat.ble (ab_sum r) 8) (ab_nar f a (fun v => k lv (v :: r) M)) (false)) st
theorem ai_mb_ok {f : Int32 → Int32} (hl : ab_gl xs lv lv') (hs : ab_gs xs st st') (hr : ab_rm xs M (lay, m)) (h : ai_mb f lv st M k = true) : ab_ok xs lay (sm_p lv' m (sm_mb f st')) k := by
  cases st with
  | nil => cases h
  | cons a r =>
    replace hs := ab_gs_cons hs; obtain ⟨v, r2, rfl, ga, hs⟩ := hs
    replace h := ab_bif0 h; obtain ⟨h1, h⟩ := h
    obtain ⟨x, z, rfl, g1, g2⟩ := ab_nar_ok h ga
    refine ab_ok_p (s' := .int (f x) :: r2) (s := z :: r) ?_ hl ⟨g1, hs⟩ hr g2
    simp only [sm_mb]
    rw [if_pos (by rw [ab_sum_ok hs]; exact ab_ble h1)]
end AbA
noncomputable def ab_nt (a : ab_V) (c : Nat → Bool) : Bool := ab_if (Nat.beq a.1 0) (Int.rec (motive := fun _ => Bool) (fun j => c j) (fun _ => false) a.2) (false)
theorem ab_nt_ok {xs : Nat → Int32} {a : ab_V} {v : Value} {c : Nat → Bool} (h : ab_nt a c = true) (hg : ab_g xs a v) : ∃ x : Int32, v = .int x ∧ ¬ x < 0 ∧ c x.toNatClampNeg = true := by
  obtain ⟨h1, h2⟩ := ab_bif0 h
  obtain ⟨x, rfl, e⟩ := ab_0_of (ab_beq h1) hg
  have e0 : (0 : Int32).toInt = 0 := by decide
  cases q : a.2 with
  | negSucc j => rw [q] at h2; cases h2
  | ofNat j =>
    rw [q] at h2 e
    have ex : x.toNatClampNeg = j := by show x.toInt.toNat = j; rw [e]; rfl
    refine ⟨x, rfl, ?_, by rw [ex]; exact h2⟩
    intro c
    rw [Int32.lt_iff_toInt_lt, e, e0] at c
    have : (Int.ofNat j : Int) = (j : Int) := rfl
    omega
noncomputable def ab_cpl (t0 : ab_T) (d sp dp n : Nat) : ab_T → (ab_T → Bool) → Bool := Nat.rec (motive := fun _ => ab_T → (ab_T → Bool) → Bool) (fun t c => c t) (fun i r t c => ab_fv (ab_tg t0 (Nat.add sp i)) (fun a => ab_ts a t d (Nat.add dp i) (fun t' => r t' c))) n
theorem ab_cpl_ok {t0 : ab_T} {d sp dp : Nat} : ∀ (n : Nat) (t : ab_T) (c : ab_T → Bool), ab_cpl t0 d sp dp n t c = true → dp + n ≤ 2 ^ d → ∃ t', c t' = true ∧ ∀ k, k < 2 ^ d → ab_tg t' k = if dp ≤ k ∧ k < dp + n then ab_tg t0 (sp + (k - dp)) else ab_tg t k := by
  intro n
  induction n with
  | zero =>
    intro t c h _
    exact ⟨t, h, fun k _ => by rw [if_neg (by omega)]⟩
  | succ n ih =>
    intro t c h hn
    have h : ab_fv (ab_tg t0 (Nat.add sp n)) (fun a => ab_ts a t d (Nat.add dp n) (fun t' => ab_cpl t0 d sp dp n t' c)) = true := h
    rw [ab_fv_eq] at h
    obtain ⟨t1, q1, q2⟩ := ab_ts_ok _ _ _ _ h (show dp + n < 2 ^ d by omega)
    obtain ⟨t', q3, q4⟩ := ih _ _ q1 (by omega)
    refine ⟨t', q3, fun k hk => ?_⟩
    rw [q4 k hk, q2 k hk]
    have e1 : Nat.add dp n = dp + n := rfl
    have e2 : Nat.add sp n = sp + n := rfl
    rw [e1, e2]
    by_cases c1 : dp ≤ k ∧ k < dp + n
    · rw [if_pos c1, if_pos (by omega)]
    · rw [if_neg c1]
      by_cases c2 : k = dp + n
      · rw [if_pos c2, if_pos (by omega)]
        have : k - dp = n := by omega
        rw [this]
      · rw [if_neg c2, if_neg (by omega)]
noncomputable def ai_cpy (lv : ab_L) (st : List ab_V) (M : ab_M) (k : ab_L → List ab_V → ab_M → Bool) : Bool := match st with
  | n :: dp :: a :: sp :: a0 :: r => ab_if (Nat.ble (ab_sum r) 8) (ab_nt n (fun n => ab_nt dp (fun dp => ab_nt sp (fun sp => ab_rf a (fun p => ab_rf a0 (fun p0 => ab_cell M p (fun kd n1 t => ab_cell M p0 (fun kd0 n0 t0 =>
      ab_if (ab_an ((ab_an (Nat.beq kd 1) (Nat.beq kd0 1))) ((ab_an (Nat.ble (Nat.add sp n) n0) (Nat.ble (Nat.add dp n) n1)))) (ab_cpl t0 (ab_dp 1 n1) sp dp n t (fun t' => ab_ts ((1, n1, t') : ab_Q) M.2 8 p (fun m => k lv r (M.1, m)))) (false))))))))) (false)
  | _ => false
theorem ai_cpy_ok {xs : Nat → Int32} {lv : ab_L} {st : List ab_V} {M : ab_M} {lv' : sm_V} {st' : List Value} {lay : List (Nat × Nat)} {m : sm_Y} {k : ab_L → List ab_V → ab_M → Bool} (hl : ab_gl xs lv lv') (hs : ab_gs xs st st') (hr : ab_rm xs M (lay, m)) (h : ai_cpy lv st M k = true) : ab_ok xs lay (sm_cpy lv' lay m st') k := by
  unfold ai_cpy at h
  split at h
  · next n dp a sp a0 r =>
    replace hs := ab_gs_cons hs; obtain ⟨vn, r0, rfl, gn, hs⟩ := hs
    replace hs := ab_gs_cons hs; obtain ⟨vd, r1, rfl, gd, hs⟩ := hs
    replace hs := ab_gs_cons hs; obtain ⟨va, r2, rfl, ga, hs⟩ := hs
    replace hs := ab_gs_cons hs; obtain ⟨vs, r3, rfl, gs, hs⟩ := hs
    replace hs := ab_gs_cons hs; obtain ⟨v0, r4, rfl, g0, hs⟩ := hs
    replace h := ab_bif0 h; obtain ⟨h8, h⟩ := h
    replace h := ab_nt_ok h gn; obtain ⟨xn, rfl, en, h⟩ := h
    replace h := ab_nt_ok h gd; obtain ⟨xd, rfl, ed, h⟩ := h
    replace h := ab_nt_ok h gs; obtain ⟨xp, rfl, es, h⟩ := h
    replace h := ab_rf_ok h ga; obtain ⟨p, rfl, h⟩ := h
    replace h := ab_rf_ok h g0; obtain ⟨p0, rfl, h⟩ := h
    replace h := ab_cell_ok h; obtain ⟨hp, kd, n1, t, e, h⟩ := h
    replace h := ab_cell_ok h; obtain ⟨hp0, kd0, n0, t0, e0, h⟩ := h
    replace h := ab_bif0 h; obtain ⟨hk, h⟩ := h
    replace hk := ab_and2 hk; obtain ⟨hk, hb⟩ := hk
    replace hk := ab_and2 hk; obtain ⟨hk, hk0⟩ := hk
    obtain ⟨b0, b1⟩ := ab_and2 hb
    replace hk := ab_beq hk
    replace hk0 := ab_beq hk0
    have b0 : xp.toNatClampNeg + xn.toNatClampNeg ≤ n0 := ab_ble b0
    have b1 : xd.toNatClampNeg + xn.toNatClampNeg ≤ n1 := ab_ble b1
    subst hk
    subst hk0
    obtain ⟨c1, c2⟩ := ab_cell_at hr hp e
    obtain ⟨c3, c4⟩ := ab_cell_at hr hp0 e0
    have c1 : lay[p]? = some (1, n1) := c1
    have c3 : lay[p0]? = some (1, n0) := c3
    have hd : n1 < 2 ^ ab_dp 1 n1 := Nat.lt_log2_self
    obtain ⟨t', q1, q2⟩ := ab_cpl_ok _ _ _ h (by omega)
    obtain ⟨r1', r2', r3'⟩ := hr
    have hp8 : p < 2 ^ 8 := Nat.lt_of_lt_of_le hp r2'
    obtain ⟨mm, q3, q4⟩ := ab_ts_ok _ _ _ _ q1 hp8
    refine ⟨(lv', r4, (sm_row m.1 p (va_cpy (m.1 p0) (m.1 p) xp.toNatClampNeg xd.toNatClampNeg xn.toNatClampNeg), m.2)), ?_, lv, r, (M.1, mm), hl, hs, ⟨r1', r2', fun p' hp' => ?_⟩, q3⟩
    · simp only [sm_cpy, c1, c3]
      rw [if_neg]
      rw [ab_sum_ok hs]
      have := ab_ble h8
      rintro (q | q | q | q | q | q)
      · exact es q
      · exact ed q
      · exact en q
      · omega
      · omega
      · omega
    · have q5 := q4 p' (show p' < 2 ^ 8 by have : p' < M.1 := hp'; show p' < 256; omega)
      have r4 := r3' p' hp'
      show lay[p']? = some ((ab_tg mm p').1, (ab_tg mm p').2.1) ∧ ∀ j', j' < ab_bd (ab_tg mm p').1 (ab_tg mm p').2.1 → ab_g xs (ab_tg (ab_tg mm p').2.2 j') (ab_val (lay, (sm_row m.1 p (va_cpy (m.1 p0) (m.1 p) xp.toNatClampNeg xd.toNatClampNeg xn.toNatClampNeg), m.2)) p' (ab_tg mm p').1 j')
      by_cases cc : p' = p
      · rw [if_pos cc] at q5
        rw [q5]
        rw [cc]
        refine ⟨c1, fun j hj => ?_⟩
        have hj : j < n1 := hj
        show ab_g xs (ab_tg t' j) (.int (sm_row m.1 p _ p j))
        rw [q2 j (by omega)]
        have e5 : sm_row m.1 p (va_cpy (m.1 p0) (m.1 p) xp.toNatClampNeg xd.toNatClampNeg xn.toNatClampNeg) p j = va_cpy (m.1 p0) (m.1 p) xp.toNatClampNeg xd.toNatClampNeg xn.toNatClampNeg j := by simp [sm_row]
        rw [e5]
        unfold va_cpy
        by_cases c5 : xd.toNatClampNeg ≤ j ∧ j < xd.toNatClampNeg + xn.toNatClampNeg
        · rw [if_pos c5, if_pos c5]
          exact c4 _ (by show _ < n0; omega)
        · rw [if_neg c5, if_neg c5]
          exact c2 _ hj
      · rw [if_neg cc] at q5
        rw [q5]
        refine ⟨r4.1, fun j hj => ?_⟩
        have := r4.2 j hj
        have e6 : ∀ j, sm_row m.1 p (va_cpy (m.1 p0) (m.1 p) xp.toNatClampNeg xd.toNatClampNeg xn.toNatClampNeg) p' j = m.1 p' j := fun j => by simp [sm_row, cc]
        simp only [ab_val] at this ⊢
        rw [e6, e6]
        exact this
  · cases h
end
section
/-! one instruction, blocks, methods -/
noncomputable def ab_one (L nL : Nat) (i : Instr) (ops : List Nat) (lv : ab_L) (st : List ab_V) (M : ab_M) (E : ab_E) (k : ab_L → List ab_V → ab_M → Bool) : Bool := match i with
  | .iconst n => ai_ci (Int32.ofInt n) lv st M k
  | .bipush n => ai_ci (Int8.ofInt n).toInt32 lv st M k
  | .sipush n => ai_ci (Int16.ofInt n).toInt32 lv st M k
  | .lconst n => ai_cl (Int64.ofNat n) lv st M k
  | .ldc _ => ai_ci (Int32.ofNat (ops.getD 0 0)) lv st M k
  | .ldc_w _ => ai_ci (Int32.ofNat (ops.getD 0 0)) lv st M k
  | .ldc2_w _ => ai_cl (Int64.ofNat (ops.getD 0 0)) lv st M k
  | .aconst_null => k lv ((1, 0) :: st) M
  | .iload j => ai_ldi j E lv st M k
  | .iload_n j => ai_ldi j E lv st M k
  | .lload j => ai_ldl j lv st M k
  | .lload_n j => ai_ldl j lv st M k
  | .aload j => ai_lda j lv st M k
  | .aload_n j => ai_lda j lv st M k
  | .istore j => ai_sti j nL lv st M k
  | .istore_n j => ai_sti j nL lv st M k
  | .lstore j => ai_stl j nL lv st M k
  | .lstore_n j => ai_stl j nL lv st M k
  | .astore j => ai_sta j nL lv st M k
  | .astore_n j => ai_sta j nL lv st M k
  | .iinc j n => ai_inc j n nL E lv st M k
  | .iadd => ai_ii (ab_add E) lv st M k
  | .isub => ai_ii (ab_sub E) lv st M k
  | .imul => ai_ii (ab_bin (fun x y => x * y)) lv st M k
  | .iand => ai_ii (ab_and E) lv st M k
  | .ior => ai_ii (ab_or E) lv st M k
  | .ixor => ai_ii (ab_bin (fun x y => x ^^^ y)) lv st M k
  | .ishl => ai_ii (ab_bin (fun x y => x <<< (y &&& 31))) lv st M k
  | .ishr => ai_ii (ab_bin (fun x y => x >>> (y &&& 31))) lv st M k
  | .iushr => ai_ii (ab_bin (fun x y => (x.toUInt32 >>> (y.toUInt32 &&& Int32.toUInt32 31)).toInt32)) lv st M k
  | .idiv => ai_iq (fun x y => x / y) lv st M k
  | .irem => ai_iq (fun x y => x - x / y * y) lv st M k
  | .ineg => ai_i1 (fun x => -x) lv st M k
  | .i2b => ai_i1 (fun x => x.toInt8.toInt32) lv st M k
  | .i2l => ai_i2l lv st M k
  | .l2i => ai_l2i lv st M k
  | .ladd => ai_ll (fun x y => x + y) lv st M k
  | .lsub => ai_ll (fun x y => x - y) lv st M k
  | .lmul => ai_ll (fun x y => x * y) lv st M k
  | .land => ai_ll (fun x y => x &&& y) lv st M k
  | .lor => ai_ll (fun x y => x ||| y) lv st M k
  | .lshl => ai_li (fun x y => x <<< (y.toInt64 &&& 63)) lv st M k
  | .lshr => ai_li (fun x y => x >>> (y.toInt64 &&& 63)) lv st M k
  | .lcmp => ai_lc lv st M k
  | .dup => ai_dup lv st M k
  | .dup_x1 => ai_dupx1 lv st M k
  | .dup2 => ai_dup2 lv st M k
  | .pop => ai_pop lv st M k
  | .iaload => ai_gI L E lv st M k
  | .baload => ai_gB E lv st M k
  | .laload => ai_gL lv st M k
  | .arraylength => ai_len L lv st M k
  | .iastore => ai_pI lv st M k
  | .bastore => ai_pB lv st M k
  | .lastore => ai_pL lv st M k
  | .getfield _ => ai_get E (ops.getD 0 0) (ops.getD 1 0) lv st M k
  | .putfield _ => ai_put (ops.getD 0 0) (ops.getD 1 0) lv st M k
  | .getstatic _ => ab_fn (ops.getD 0 0) (fun p => k lv ((2, Int.ofNat p) :: st) M)
  | .invokestatic _ => match ops with
    | 0 :: _ => ai_cpy lv st M k
    | 1 :: _ => ai_ma (fun x y => if x < y then y else x) lv st M k
    | 2 :: _ => ai_ma (fun x y => if y < x then y else x) lv st M k
    | 3 :: _ => ai_mb (fun x => if 0 ≤ x then x else 0 - x) lv st M k
    | _ => false
  | .invokespecial _ => ai_oin lv st M k
  | _ => false
set_option maxHeartbeats 4000000 in
theorem ab_one_ok {L NS nL : Nat} {xs ys : Nat → Int32} {i : Instr} {ops : List Nat} {E : ab_E} {lv : ab_L} {st : List ab_V} {M : ab_M} {lv' : sm_V} {st' : List Value} {lay : List (Nat × Nat)} {m : sm_Y} {k : ab_L → List ab_V → ab_M → Bool} (hy : ∀ j, j < L → ys j = xs j) (h6 : xs 6 = xs 0 &&& 63) (hE : ab_sat xs E) (hl : ab_gl xs lv lv') (hs : ab_gs xs st st') (hr : ab_rm xs M (lay, m)) (h : ab_one L nL i ops lv st M E k = true) : ab_ok xs lay (sm_one (NS, ys) nL i ops lv' st' lay m) k := by
  cases i with
  | iconst n => exact ai_ci_ok hl hs hr h
  | bipush n => exact ai_ci_ok hl hs hr h
  | sipush n => exact ai_ci_ok hl hs hr h
  | lconst n => exact ai_cl_ok hl hs hr h
  | ldc n => exact ai_ci_ok hl hs hr h
  | ldc_w n => exact ai_ci_ok hl hs hr h
  | ldc2_w n => exact ai_cl_ok hl hs hr h
  | aconst_null => exact ⟨_, rfl, lv, (1, 0) :: st, M, hl, ⟨rfl, hs⟩, hr, h⟩
  | iload j => exact ai_ldi_ok hE hl hs hr h
  | iload_n j => exact ai_ldi_ok hE hl hs hr h
  | lload j => exact ai_ldl_ok hl hs hr h
  | lload_n j => exact ai_ldl_ok hl hs hr h
  | aload j => exact ai_lda_ok hl hs hr h
  | aload_n j => exact ai_lda_ok hl hs hr h
  | istore j => exact ai_sti_ok hl hs hr h
  | istore_n j => exact ai_sti_ok hl hs hr h
  | lstore j => exact ai_stl_ok hl hs hr h
  | lstore_n j => exact ai_stl_ok hl hs hr h
  | astore j => exact ai_sta_ok hl hs hr h
  | astore_n j => exact ai_sta_ok hl hs hr h
  | iinc j n => exact ai_inc_ok hE hl hs hr h
  | iadd => exact ai_ii_ok (ab_add_ok hE) hl hs hr h
  | isub => exact ai_ii_ok (ab_sub_ok hE) hl hs hr h
  | imul => exact ai_ii_ok (ab_bin_ok _) hl hs hr h
  | iand => exact ai_ii_ok (ab_and_ok hE h6) hl hs hr h
  | ior => exact ai_ii_ok (ab_or_ok hE) hl hs hr h
  | ixor => exact ai_ii_ok (ab_bin_ok _) hl hs hr h
  | ishl => exact ai_ii_ok (ab_bin_ok _) hl hs hr h
  | ishr => exact ai_ii_ok (ab_bin_ok _) hl hs hr h
  | iushr => exact ai_ii_ok (ab_bin_ok _) hl hs hr h
  | idiv => exact ai_iq_ok hl hs hr h
  | irem => exact ai_iq_ok hl hs hr h
  | ineg => exact ai_i1_ok hl hs hr h
  | i2b => exact ai_i1_ok hl hs hr h
  | i2l => exact ai_i2l_ok hl hs hr h
  | l2i => exact ai_l2i_ok hl hs hr h
  | ladd => exact ai_ll_ok hl hs hr h
  | lsub => exact ai_ll_ok hl hs hr h
  | lmul => exact ai_ll_ok hl hs hr h
  | land => exact ai_ll_ok hl hs hr h
  | lor => exact ai_ll_ok hl hs hr h
  | lshl => exact ai_li_ok hl hs hr h
  | lshr => exact ai_li_ok hl hs hr h
  | lcmp => exact ai_lc_ok hl hs hr h
  | dup => exact ai_dup_ok hl hs hr h
  | dup_x1 => exact ai_dupx1_ok hl hs hr h
  | dup2 => exact ai_dup2_ok hl hs hr h
  | pop => exact ai_pop_ok hl hs hr h
  | iaload => exact ai_gI_ok hy hE hl hs hr h
  | baload => exact ai_gB_ok hE hl hs hr h
  | laload => exact ai_gL_ok hl hs hr h
  | arraylength => exact ai_len_ok hy hl hs hr h
  | iastore => exact ai_pI_ok hl hs hr h
  | bastore => exact ai_pB_ok hl hs hr h
  | lastore => exact ai_pL_ok hl hs hr h
  | getfield x => exact ai_get_ok hE hl hs hr h
  | putfield x => exact ai_put_ok hl hs hr h
  | getstatic x =>
    have h : ab_fn (ops.getD 0 0) (fun p => k lv ((2, Int.ofNat p) :: st) M) = true := h
    rw [ab_fn_eq] at h
    exact ⟨_, rfl, lv, (2, Int.ofNat (ops.getD 0 0)) :: st, M, hl, ⟨⟨rfl, rfl⟩, hs⟩, hr, h⟩
  | invokestatic x =>
    show ab_ok xs lay (sm_st4 ops lv' lay m st') k
    match ops, h with
    | 0 :: r, h => exact ai_cpy_ok hl hs hr h
    | 1 :: r, h => exact ai_ma_ok hl hs hr h
    | 2 :: r, h => exact ai_ma_ok hl hs hr h
    | 3 :: r, h => exact ai_mb_ok hl hs hr h
  | invokespecial x => exact ai_oin_ok hl hs hr h
  | _ => cases h
/-! branches -/
noncomputable def ab_tt (c : ClassFile.Cond) : ab_E → ab_V → ab_V → (ab_E → Bool) → (ab_E → Bool) → Bool := match c with
  | .eq => fun E a b ka kb => ab_teq E a b ka kb
  | .ne => fun E a b ka kb => ab_teq E a b kb ka
  | .lt => fun E a b ka kb => ab_tlt E a b ka kb
  | .ge => fun E a b ka kb => ab_tlt E a b kb ka
  | .gt => fun E a b ka kb => ab_tlt E b a ka kb
  | .le => fun E a b ka kb => ab_tlt E b a kb ka
noncomputable def ab_b1 (c : ClassFile.Cond) (E : ab_E) (st : List ab_V) (ka kb : List ab_V → ab_E → Bool) : Bool := List.rec (motive := fun _ => Bool) false (fun a r _ => ab_if (ab_isI a.1) (ab_tt c E a (0, 0) (ka r) (kb r)) false) st
noncomputable def ab_b2 (c : ClassFile.Cond) (E : ab_E) (st : List ab_V) (ka kb : List ab_V → ab_E → Bool) : Bool := List.rec (motive := fun _ => Bool) false (fun b r_1 _ => List.rec (motive := fun _ => Bool) false (fun a r _ => ab_if (ab_an (ab_isI a.1) (ab_isI b.1)) (ab_tt c E a b (ka r) (kb r)) false) r_1) st
noncomputable def ab_bn (st : List ab_V) (ka kb : List ab_V → Bool) : Bool := List.rec (motive := fun _ => Bool) false (fun a r _ => ab_if (Nat.beq a.1 1) (ka r) (ab_if (Nat.beq a.1 2) (kb r) (false))) st
noncomputable def ab_sw (a : ab_V) (k : Nat → ab_E → Bool) (d : Nat) : Int → List Nat → ab_E → Bool
  | _, [], E => k d E
  | v, b :: r, E => ab_teq E a (0, v) (k b) (fun E => ab_sw a k d (v + 1) r E)
noncomputable def ab_lo (a : ab_V) (k : Nat → ab_E → Bool) (d : Nat) : List (Int × Int) → List Nat → ab_E → Bool
  | [], _, E => k d E
  | _ :: _, [], _ => false
  | v :: vs, b :: r, E => ab_teq E a (0, v.1) (k b) (fun E => ab_lo a k d vs r E)
section AbBr
variable {xs : Nat → Int32} {E : ab_E} {Φ : sm_Z → Prop}
theorem ab_ite {p : Prop} [Decidable p] {X Y : Nat → Option sm_Z} (h : (p ∧ sm_ev X Φ) ∨ (¬ p ∧ sm_ev Y Φ)) : sm_ev (fun n => if p then X n else Y n) Φ := by
  rcases h with ⟨hp, h⟩ | ⟨hp, h⟩
  · simp only [if_pos hp]; exact h
  · simp only [if_neg hp]; exact h
theorem ab_eqz {x y : Int32} : x.toInt = y.toInt ↔ x = y := Int32.toInt_inj
theorem ab_b1_ok {c : ClassFile.Cond} {st : List ab_V} {st' : List Value} {ka kb : List ab_V → ab_E → Bool} {A B : List Value → Nat → Option sm_Z} (hE : ab_sat xs E) (hs : ab_gs xs st st') (ha : ∀ r r' E', ab_gs xs r r' → ab_sat xs E' → ka r E' = true → sm_ev (A r') Φ) (hb : ∀ r r' E', ab_gs xs r r' → ab_sat xs E' → kb r E' = true → sm_ev (B r') Φ) (h : ab_b1 c E st ka kb = true) : sm_ev (fun n => sm_b1 c st' (fun r => A r n) (fun r => B r n)) Φ := by
  cases st with
  | nil => cases h
  | cons a r =>
    replace hs := ab_gs_cons hs; obtain ⟨v, r', rfl, g, hs⟩ := hs
    replace h := ab_bif0 h; obtain ⟨h1, h⟩ := h
    obtain ⟨x, rfl, gx⟩ := ab_isI_of h1 g
    have e0 : (0 : Int32).toInt = 0 := by decide
    cases c with
    | eq =>
      obtain ⟨E', s1, s2⟩ := ab_teq_ok h hE gx (ab_gi0 0)
      refine ab_ite (p := x = 0) ?_
      rcases s2 with ⟨q, s⟩ | ⟨q, s⟩
      · exact Or.inl ⟨ab_eqz.mp (by rw [e0]; exact q), ha _ _ _ hs s1 s⟩
      · exact Or.inr ⟨fun e => q (by rw [e]; exact e0), hb _ _ _ hs s1 s⟩
    | ne =>
      obtain ⟨E', s1, s2⟩ := ab_teq_ok h hE gx (ab_gi0 0)
      refine ab_ite (p := x = 0) ?_
      rcases s2 with ⟨q, s⟩ | ⟨q, s⟩
      · exact Or.inl ⟨ab_eqz.mp (by rw [e0]; exact q), hb _ _ _ hs s1 s⟩
      · exact Or.inr ⟨fun e => q (by rw [e]; exact e0), ha _ _ _ hs s1 s⟩
    | lt =>
      obtain ⟨E', s1, s2⟩ := ab_tlt_ok h hE gx (ab_gi0 0)
      refine ab_ite (p := x < 0) ?_
      rw [Int32.lt_iff_toInt_lt, e0]
      rcases s2 with ⟨q, s⟩ | ⟨q, s⟩
      · exact Or.inl ⟨q, ha _ _ _ hs s1 s⟩
      · exact Or.inr ⟨q, hb _ _ _ hs s1 s⟩
    | ge =>
      obtain ⟨E', s1, s2⟩ := ab_tlt_ok h hE gx (ab_gi0 0)
      refine ab_ite (p := 0 ≤ x) ?_
      rw [Int32.le_iff_toInt_le, e0]
      rcases s2 with ⟨q, s⟩ | ⟨q, s⟩
      · exact Or.inr ⟨by omega, hb _ _ _ hs s1 s⟩
      · exact Or.inl ⟨by omega, ha _ _ _ hs s1 s⟩
    | gt =>
      obtain ⟨E', s1, s2⟩ := ab_tlt_ok h hE (ab_gi0 0) gx
      refine ab_ite (p := 0 < x) ?_
      rw [Int32.lt_iff_toInt_lt, e0]
      rcases s2 with ⟨q, s⟩ | ⟨q, s⟩
      · exact Or.inl ⟨q, ha _ _ _ hs s1 s⟩
      · exact Or.inr ⟨q, hb _ _ _ hs s1 s⟩
    | le =>
      obtain ⟨E', s1, s2⟩ := ab_tlt_ok h hE (ab_gi0 0) gx
      refine ab_ite (p := x ≤ 0) ?_
      rw [Int32.le_iff_toInt_le, e0]
      rcases s2 with ⟨q, s⟩ | ⟨q, s⟩
      · exact Or.inr ⟨by omega, hb _ _ _ hs s1 s⟩
      · exact Or.inl ⟨by omega, ha _ _ _ hs s1 s⟩
theorem ab_b2_ok {c : ClassFile.Cond} {st : List ab_V} {st' : List Value} {ka kb : List ab_V → ab_E → Bool} {A B : List Value → Nat → Option sm_Z} (hE : ab_sat xs E) (hs : ab_gs xs st st') (ha : ∀ r r' E', ab_gs xs r r' → ab_sat xs E' → ka r E' = true → sm_ev (A r') Φ) (hb : ∀ r r' E', ab_gs xs r r' → ab_sat xs E' → kb r E' = true → sm_ev (B r') Φ) (h : ab_b2 c E st ka kb = true) : sm_ev (fun n => sm_b2 c st' (fun r => A r n) (fun r => B r n)) Φ := by
  revert hs h
  refine ab_two (P := fun st => ab_gs xs st st' → ab_b2 c E st ka kb = true → _) (fun _ h => by cases h) (fun _ _ h => by cases h) (fun b a r hs h => ?_) st
  replace hs := ab_gs_cons hs; obtain ⟨u, r1, rfl, gb, hs⟩ := hs
  replace hs := ab_gs_cons hs; obtain ⟨v, r', rfl, ga, hs⟩ := hs
  replace h := ab_bif0 h; obtain ⟨h1, h⟩ := h
  replace h1 := ab_and2 h1; obtain ⟨h1, h2⟩ := h1
  obtain ⟨x, rfl, gx⟩ := ab_isI_of h1 ga
  obtain ⟨y, rfl, gy⟩ := ab_isI_of h2 gb
  cases c with
  | eq =>
    obtain ⟨E', s1, s2⟩ := ab_teq_ok h hE gx gy
    refine ab_ite (p := x = y) ?_
    rcases s2 with ⟨q, s⟩ | ⟨q, s⟩
    · exact Or.inl ⟨ab_eqz.mp q, ha _ _ _ hs s1 s⟩
    · exact Or.inr ⟨fun e => q (by rw [e]), hb _ _ _ hs s1 s⟩
  | ne =>
    obtain ⟨E', s1, s2⟩ := ab_teq_ok h hE gx gy
    refine ab_ite (p := x = y) ?_
    rcases s2 with ⟨q, s⟩ | ⟨q, s⟩
    · exact Or.inl ⟨ab_eqz.mp q, hb _ _ _ hs s1 s⟩
    · exact Or.inr ⟨fun e => q (by rw [e]), ha _ _ _ hs s1 s⟩
  | lt =>
    obtain ⟨E', s1, s2⟩ := ab_tlt_ok h hE gx gy
    refine ab_ite (p := x < y) ?_
    rw [Int32.lt_iff_toInt_lt]
    rcases s2 with ⟨q, s⟩ | ⟨q, s⟩
    · exact Or.inl ⟨q, ha _ _ _ hs s1 s⟩
    · exact Or.inr ⟨q, hb _ _ _ hs s1 s⟩
  | ge =>
    obtain ⟨E', s1, s2⟩ := ab_tlt_ok h hE gx gy
    refine ab_ite (p := y ≤ x) ?_
    rw [Int32.le_iff_toInt_le]
    rcases s2 with ⟨q, s⟩ | ⟨q, s⟩
    · exact Or.inr ⟨by omega, hb _ _ _ hs s1 s⟩
    · exact Or.inl ⟨by omega, ha _ _ _ hs s1 s⟩
  | gt =>
    obtain ⟨E', s1, s2⟩ := ab_tlt_ok h hE gy gx
    refine ab_ite (p := y < x) ?_
    rw [Int32.lt_iff_toInt_lt]
    rcases s2 with ⟨q, s⟩ | ⟨q, s⟩
    · exact Or.inl ⟨q, ha _ _ _ hs s1 s⟩
    · exact Or.inr ⟨q, hb _ _ _ hs s1 s⟩
  | le =>
    obtain ⟨E', s1, s2⟩ := ab_tlt_ok h hE gy gx
    refine ab_ite (p := x ≤ y) ?_
    rw [Int32.le_iff_toInt_le]
    rcases s2 with ⟨q, s⟩ | ⟨q, s⟩
    · exact Or.inr ⟨by omega, hb _ _ _ hs s1 s⟩
    · exact Or.inl ⟨by omega, ha _ _ _ hs s1 s⟩
theorem ab_bn_ok {st : List ab_V} {st' : List Value} {ka kb : List ab_V → Bool} {A B : List Value → Nat → Option sm_Z} (hs : ab_gs xs st st') (ha : ∀ r r', ab_gs xs r r' → ka r = true → sm_ev (A r') Φ) (hb : ∀ r r', ab_gs xs r r' → kb r = true → sm_ev (B r') Φ) (h : ab_bn st ka kb = true) : sm_ev (fun n => sm_bn st' (fun r => A r n) (fun r => B r n)) Φ := by
  cases st with
  | nil => cases h
  | cons a r =>
    replace hs := ab_gs_cons hs; obtain ⟨v, r', rfl, g, hs⟩ := hs
    rcases ab_bif h with ⟨h1, h⟩ | ⟨-, h⟩
    · have := ab_null_of (ab_beq h1) g
      subst this
      exact ha _ _ hs h
    · replace h := ab_bif0 h; obtain ⟨h1, h⟩ := h
      obtain ⟨p, rfl, -⟩ := ab_ref_of (ab_beq h1) g
      exact hb _ _ hs h
theorem ab_sw_ok {a : ab_V} {x : Int32} {k : Nat → ab_E → Bool} {K : Nat → Nat → Option sm_Z} {d : Nat} (gx : ab_gi xs a x.toInt) (hk : ∀ b E', ab_sat xs E' → k b E' = true → sm_ev (K b) Φ) : ∀ (bs : List Nat) (v : Int) (E : ab_E), ab_sat xs E → ab_sw a k d v bs E = true → sm_ev (fun n => sm_sw x (fun b => K b n) d v bs) Φ
  | [], v, E, hE, h => hk _ _ hE h
  | b :: r, v, E, hE, h => by
    have h : ab_teq E a (0, v) (k b) (fun E => ab_sw a k d (v + 1) r E) = true := h
    obtain ⟨E', s1, s2⟩ := ab_teq_ok h hE gx (ab_gi0 v)
    refine ab_ite (p := x.toInt = v) ?_
    rcases s2 with ⟨q, s⟩ | ⟨q, s⟩
    · exact Or.inl ⟨q, hk _ _ s1 s⟩
    · exact Or.inr ⟨q, ab_sw_ok gx hk r (v + 1) E' s1 s⟩
theorem ab_lo_ok {a : ab_V} {x : Int32} {k : Nat → ab_E → Bool} {K : Nat → Nat → Option sm_Z} {d : Nat} (gx : ab_gi xs a x.toInt) (hk : ∀ b E', ab_sat xs E' → k b E' = true → sm_ev (K b) Φ) : ∀ (vs : List (Int × Int)) (bs : List Nat) (E : ab_E), ab_sat xs E → ab_lo a k d vs bs E = true → sm_ev (fun n => sm_lo x (fun b => K b n) d vs bs) Φ
  | [], bs, E, hE, h => by cases bs <;> exact hk _ _ hE h
  | v :: vs, [], E, hE, h => by cases h
  | v :: vs, b :: r, E, hE, h => by
    have h : ab_teq E a (0, v.1) (k b) (fun E => ab_lo a k d vs r E) = true := h
    obtain ⟨E', s1, s2⟩ := ab_teq_ok h hE gx (ab_gi0 v.1)
    refine ab_ite (p := x.toInt = v.1) ?_
    rcases s2 with ⟨q, s⟩ | ⟨q, s⟩
    · exact Or.inl ⟨q, hk _ _ s1 s⟩
    · exact Or.inr ⟨q, ab_lo_ok gx hk vs r E' s1 s⟩
end AbBr
end
