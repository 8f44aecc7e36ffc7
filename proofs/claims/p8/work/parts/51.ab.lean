/-! what the instructions do over intervals -/
noncomputable def ab_nrm (E : ab_E) (a : ab_V) (c : ab_V → Bool) : Bool := ab_if (Nat.ble 7 a.1) ((ab_if (ab_eq (E.getD (Nat.sub a.1 7) ab_full).1 (E.getD (Nat.sub a.1 7) ab_full).2) (ab_fi (Int.add (E.getD (Nat.sub a.1 7) ab_full).1 a.2) (fun i => c (0, i))) (c a))) (c a)
noncomputable def ab_c (a : ab_V) : Bool := Nat.beq a.1 0
noncomputable def ab_bin (f : Int32 → Int32 → Int32) (a b : ab_V) (c : ab_V → Bool) : Bool := ab_if (ab_an (Nat.beq a.1 0) (Nat.beq b.1 0)) (ab_fi (f (Int32.ofInt a.2) (Int32.ofInt b.2)).toInt (fun i => c (0, i))) (ab_if (ab_an (ab_isI a.1) (ab_isI b.1)) (c (3, 0)) (false))
noncomputable def ab_binok (xs : Nat → Int32) (bin : ab_V → ab_V → (ab_V → Bool) → Bool) (f : Int32 → Int32 → Int32) : Prop := ∀ (a b : ab_V) (v u : Value) (c : ab_V → Bool), bin a b c = true → ab_g xs a v → ab_g xs b u → ∃ (x y : Int32) (r : ab_V), v = .int x ∧ u = .int y ∧ ab_g xs r (.int (f x y)) ∧ c r = true
noncomputable def ab_in32 (s : Int) : Bool := ab_an (ab_le (Int.negSucc 2147483647) s) (ab_le s (Int.ofNat 2147483647))
noncomputable def ab_off (E : ab_E) (a : ab_V) (z : Int) (c : ab_V → Bool) : Bool :=
  ab_if (ab_an (ab_le (Int.negSucc 2147483647) (Int.add (Int.add (E.getD (Nat.sub a.1 7) ab_full).1 a.2) z)) (ab_le (Int.add (Int.add (E.getD (Nat.sub a.1 7) ab_full).2 a.2) z) (Int.ofNat 2147483647))) (ab_fi (Int.add a.2 z) (fun i => c (a.1, i))) (ab_if (ab_le (Int.add (Int.add (E.getD (Nat.sub a.1 7) ab_full).2 a.2) z) (Int.negSucc 2147483648)) (ab_fi (Int.add (Int.add a.2 z) (Int.ofNat 4294967296)) (fun i => c (a.1, i))) (c (3, 0)))
noncomputable def ab_add (E : ab_E) (a b : ab_V) (c : ab_V → Bool) : Bool :=
  ab_if (ab_an (Nat.beq a.1 0) (Nat.beq b.1 0)) ((ab_if (ab_in32 (Int.add a.2 b.2)) (ab_fi (Int.add a.2 b.2) (fun i => c (0, i))) (ab_bin (fun x y => x + y) a b c))) (ab_if (ab_an (Nat.ble 7 a.1) (Nat.beq b.1 0)) (ab_off E a b.2 c) (ab_if (ab_an (Nat.ble 7 b.1) (Nat.beq a.1 0)) (ab_off E b a.2 c) (ab_bin (fun x y => x + y) a b c)))
noncomputable def ab_sub (E : ab_E) (a b : ab_V) (c : ab_V → Bool) : Bool :=
  ab_if (ab_an (Nat.beq a.1 0) (Nat.beq b.1 0)) ((ab_if (ab_in32 (Int.sub a.2 b.2)) (ab_fi (Int.sub a.2 b.2) (fun i => c (0, i))) (ab_bin (fun x y => x - y) a b c))) (ab_if (ab_an (Nat.ble 7 a.1) (Nat.beq b.1 0)) (ab_off E a (Int.neg b.2) c) (ab_bin (fun x y => x - y) a b c))
noncomputable def ab_is (a : ab_V) (n : Int) : Bool := ab_an (Nat.beq a.1 0) (decide (a.2 = n))
noncomputable def ab_and (E : ab_E) (a b : ab_V) (c : ab_V → Bool) : Bool :=
  ab_if (ab_an (Nat.beq a.1 0) (Nat.beq b.1 0)) (ab_bin (fun x y => x &&& y) a b c) (ab_if (ab_an (Nat.beq a.1 7) ((ab_an (decide (a.2 = 0)) (ab_is b 63)))) (ab_nrm E (13, 0) c) (ab_if (ab_an (ab_is b (-1)) (ab_isI a.1)) (c a) (ab_if (ab_an (ab_is a (-1)) (ab_isI b.1)) (c b) (ab_if (ab_oo ((ab_an (ab_is a 0) (ab_isI b.1))) ((ab_an (ab_is b 0) (ab_isI a.1)))) (c (0, 0)) (ab_bin (fun x y => x &&& y) a b c)))))
noncomputable def ab_nz (E : ab_E) (a : ab_V) : Bool := ab_if (Nat.ble 7 a.1) ((ab_oo (ab_le 1 (Int.add (E.getD (Nat.sub a.1 7) ab_full).1 a.2)) (ab_le (Int.add (E.getD (Nat.sub a.1 7) ab_full).2 a.2) (-1)))) (Nat.beq a.1 6)
noncomputable def ab_or (E : ab_E) (a b : ab_V) (c : ab_V → Bool) : Bool :=
  ab_if (ab_an (Nat.beq a.1 0) (Nat.beq b.1 0)) (ab_bin (fun x y => x ||| y) a b c) (ab_if (ab_an (ab_is b 0) (ab_isI a.1)) (c a) (ab_if (ab_an (ab_is a 0) (ab_isI b.1)) (c b) (ab_if (ab_oo ((ab_an (ab_nz E a) (ab_isI b.1))) ((ab_an (ab_nz E b) (ab_isI a.1)))) (c (6, 0)) (ab_bin (fun x y => x ||| y) a b c))))
section AbB
variable {xs : Nat → Int32} {E : ab_E} {a b : ab_V} {c : ab_V → Bool} {v u : Value} {n : Int}
theorem ab_bif {p : Bool} {x y : Bool} (h : (ab_if p x y) = true) : (p = true ∧ x = true) ∨ (p = false ∧ y = true) := by
  cases p
  · exact Or.inr ⟨rfl, h⟩
  · exact Or.inl ⟨rfl, h⟩
theorem ab_bif0 {p : Bool} {x : Bool} (h : (ab_if (p) (x) (false)) = true) : p = true ∧ x = true := by
  rcases ab_bif h with q | ⟨-, q⟩
  · exact q
  · cases q
theorem ab_and2 {p q : Bool} (h : ab_an p q = true) : p = true ∧ q = true := by
  cases p
  · cases h
  · exact ⟨rfl, h⟩
theorem ab_sym_of (h : 7 ≤ a.1) (hg : ab_gi xs a n) : n = (xs (a.1 - 7)).toInt + a.2 := by
  rcases hg with ⟨q, -⟩ | q | ⟨q, -⟩ | ⟨-, q⟩
  · omega
  · omega
  · omega
  · exact q
theorem ab_nrm_ok (h : ab_nrm E a c = true) (hE : ab_sat xs E) (hg : ab_gi xs a n) : ∃ r, ab_gi xs r n ∧ c r = true := by
  unfold ab_nrm at h
  rcases ab_bif h with ⟨h7, h⟩ | ⟨-, h⟩
  · have h7 := ab_ble h7
    rcases ab_bif h with ⟨he, h⟩ | ⟨-, h⟩
    · rw [ab_fi_eq] at h
      refine ⟨_, ?_, h⟩
      have h1 := ab_sym_of h7 hg
      have h2 := hE (a.1 - 7)
      have h3 := ab_eq_iff.mp he
      have e : Nat.sub a.1 7 = a.1 - 7 := rfl
      rw [e] at h3 ⊢
      refine Or.inl ⟨rfl, ?_⟩
      show n = (E.getD (a.1 - 7) ab_full).1 + a.2
      omega
    · exact ⟨a, hg, h⟩
  · exact ⟨a, hg, h⟩
theorem ab_cI {x : Int32} (h : a.1 = 0) (hg : ab_gi xs a x.toInt) : x = Int32.ofInt a.2 := by
  have : x.toInt = a.2 := by
    rcases hg with ⟨-, q⟩ | q | ⟨q, -⟩ | ⟨q, -⟩
    · exact q
    · omega
    · omega
    · omega
  rw [← this, Int32.ofInt_toInt]
theorem ab_cI2 {x : Int32} (h : a.1 = 0) (hg : ab_gi xs a x.toInt) : x.toInt = a.2 := by
  rcases hg with ⟨-, q⟩ | q | ⟨q, -⟩ | ⟨q, -⟩
  · exact q
  · omega
  · omega
  · omega
theorem ab_isI0 (h : a.1 = 0) : ab_isI a.1 = true := by rw [h]; rfl
theorem ab_isI7 (h : 7 ≤ a.1) : ab_isI a.1 = true := by
  have : Nat.ble 6 a.1 = true := Nat.ble_eq_true_of_le (by omega)
  exact ab_oo_r (ab_oo_r this)
theorem ab_bin_ok (f : Int32 → Int32 → Int32) : ab_binok xs (ab_bin f) f := by
  intro a b v u c h ha hb
  unfold ab_bin at h
  rcases ab_bif h with ⟨q, h⟩ | ⟨-, h⟩
  · obtain ⟨q1, q2⟩ := ab_and2 q
    have q1 := ab_beq q1
    have q2 := ab_beq q2
    obtain ⟨x, rfl, gx⟩ := ab_isI_of (ab_isI0 q1) ha
    obtain ⟨y, rfl, gy⟩ := ab_isI_of (ab_isI0 q2) hb
    rw [ab_fi_eq] at h
    refine ⟨x, y, _, rfl, rfl, ?_, h⟩
    rw [← ab_cI q1 gx, ← ab_cI q2 gy]
    exact ab_gi0 _
  · obtain ⟨q, h⟩ := ab_bif0 h
    obtain ⟨q1, q2⟩ := ab_and2 q
    obtain ⟨x, rfl, -⟩ := ab_isI_of q1 ha
    obtain ⟨y, rfl, -⟩ := ab_isI_of q2 hb
    exact ⟨x, y, _, rfl, rfl, ab_gi3 _ _, h⟩
theorem ab_bmod {s r : Int} (h1 : -2147483648 ≤ r) (h2 : r ≤ 2147483647) (h : s = r ∨ s + 4294967296 = r ∨ s - 4294967296 = r) : s.bmod (2 ^ 32) = r := by
  have e : (2 ^ 32 : Nat) = 4294967296 := by decide
  rw [e, Int.bmod_def]
  split <;> omega
theorem ab_off_ok {z : Int} {x w : Int32} (h : ab_off E a z c = true) (h7 : 7 ≤ a.1) (hE : ab_sat xs E) (hg : ab_gi xs a x.toInt) (hz : -2147483648 ≤ z ∧ z ≤ 2147483648) (hw : w.toInt = (x.toInt + z).bmod (2 ^ 32)) : ∃ r, ab_gi xs r w.toInt ∧ c r = true := by
  unfold ab_off at h
  have h1 := ab_sym_of h7 hg
  have h2 := hE (a.1 - 7)
  have e : Nat.sub a.1 7 = a.1 - 7 := rfl
  rw [e] at h
  have l1 := Int32.le_toInt x
  have l2 := Int32.toInt_lt x
  have e31 : (2 : Int) ^ 31 = 2147483648 := by decide
  rw [e31] at l1 l2
  have m1 : Int.negSucc 2147483647 = -2147483648 := by decide
  have m2 : Int.ofNat 2147483647 = 2147483647 := by decide
  have m3 : Int.negSucc 2147483648 = -2147483649 := by decide
  have m4 : Int.ofNat 4294967296 = 4294967296 := by decide
  have ad : ∀ p q : Int, Int.add p q = p + q := fun _ _ => rfl
  rcases ab_bif h with ⟨q, h⟩ | ⟨-, h⟩
  · obtain ⟨q1, q2⟩ := ab_and2 q
    have q1 := ab_le_iff.mp q1
    have q2 := ab_le_iff.mp q2
    simp only [ad, m1, m2] at q1 q2
    rw [ab_fi_eq] at h
    refine ⟨(a.1, Int.add a.2 z), Or.inr (Or.inr (Or.inr ⟨h7, ?_⟩)), h⟩
    rw [hw, ab_bmod (r := x.toInt + z) (by omega) (by omega) (Or.inl rfl)]
    show x.toInt + z = (xs (a.1 - 7)).toInt + (a.2 + z)
    omega
  · rcases ab_bif h with ⟨q, h⟩ | ⟨-, h⟩
    · have q := ab_le_iff.mp q
      simp only [ad, m3] at q
      rw [ab_fi_eq] at h
      refine ⟨(a.1, Int.add (Int.add a.2 z) (Int.ofNat 4294967296)), Or.inr (Or.inr (Or.inr ⟨h7, ?_⟩)), h⟩
      rw [hw, ab_bmod (r := x.toInt + z + 4294967296) (by omega) (by omega) (Or.inr (Or.inl rfl))]
      show x.toInt + z + 4294967296 = (xs (a.1 - 7)).toInt + (a.2 + z + 4294967296)
      omega
    · exact ⟨_, ab_gi3 _ _, h⟩
theorem ab_crange {x : Int32} : -2147483648 ≤ x.toInt ∧ x.toInt ≤ 2147483647 := by
  have l1 := Int32.le_toInt x
  have l2 := Int32.toInt_lt x
  have e31 : (2 : Int) ^ 31 = 2147483648 := by decide
  rw [e31] at l1 l2
  omega
theorem ab_in32_of {s : Int} (h : ab_in32 s = true) : -2147483648 ≤ s ∧ s ≤ 2147483647 := by
  obtain ⟨q1, q2⟩ := ab_and2 h
  exact ⟨ab_le_iff.mp q1, ab_le_iff.mp q2⟩
theorem ab_add_ok (hE : ab_sat xs E) : ab_binok xs (ab_add E) (fun x y => x + y) := by
  intro a b v u c h ha hb
  unfold ab_add at h
  rcases ab_bif h with ⟨q, h⟩ | ⟨-, h⟩
  · obtain ⟨q1, q2⟩ := ab_and2 q
    have q1 := ab_beq q1
    have q2 := ab_beq q2
    rcases ab_bif h with ⟨q, h⟩ | ⟨-, h⟩
    · obtain ⟨x, rfl, gx⟩ := ab_isI_of (ab_isI0 q1) ha
      obtain ⟨y, rfl, gy⟩ := ab_isI_of (ab_isI0 q2) hb
      rw [ab_fi_eq] at h
      have r := ab_in32_of q
      have e : Int.add a.2 b.2 = x.toInt + y.toInt := by rw [ab_cI2 q1 gx, ab_cI2 q2 gy]; rfl
      rw [e] at r h
      refine ⟨x, y, _, rfl, rfl, Or.inl ⟨rfl, ?_⟩, h⟩
      show (x + y).toInt = _
      rw [Int32.toInt_add]
      exact ab_bmod r.1 r.2 (Or.inl rfl)
    · exact ab_bin_ok _ a b v u c h ha hb
  · rcases ab_bif h with ⟨q, h⟩ | ⟨-, h⟩
    · obtain ⟨q1, q2⟩ := ab_and2 q
      have q1 := ab_ble q1
      have q2 := ab_beq q2
      obtain ⟨x, rfl, gx⟩ := ab_isI_of (ab_isI7 q1) ha
      obtain ⟨y, rfl, gy⟩ := ab_isI_of (ab_isI0 q2) hb
      have e := ab_cI2 q2 gy
      have hr := ab_crange (x := y)
      obtain ⟨r, g1, g2⟩ := ab_off_ok (w := x + y) h q1 hE gx (by rw [← e]; omega) (by rw [← e, Int32.toInt_add])
      exact ⟨x, y, r, rfl, rfl, g1, g2⟩
    · rcases ab_bif h with ⟨q, h⟩ | ⟨-, h⟩
      · obtain ⟨q1, q2⟩ := ab_and2 q
        have q1 := ab_ble q1
        have q2 := ab_beq q2
        obtain ⟨y, rfl, gy⟩ := ab_isI_of (ab_isI7 q1) hb
        obtain ⟨x, rfl, gx⟩ := ab_isI_of (ab_isI0 q2) ha
        have e := ab_cI2 q2 gx
        have hr := ab_crange (x := x)
        obtain ⟨r, g1, g2⟩ := ab_off_ok (w := x + y) h q1 hE gy (by rw [← e]; omega) (by rw [← e, Int32.toInt_add, Int.add_comm])
        exact ⟨x, y, r, rfl, rfl, g1, g2⟩
      · exact ab_bin_ok _ a b v u c h ha hb
theorem ab_sub_ok (hE : ab_sat xs E) : ab_binok xs (ab_sub E) (fun x y => x - y) := by
  intro a b v u c h ha hb
  unfold ab_sub at h
  rcases ab_bif h with ⟨q, h⟩ | ⟨-, h⟩
  · obtain ⟨q1, q2⟩ := ab_and2 q
    have q1 := ab_beq q1
    have q2 := ab_beq q2
    rcases ab_bif h with ⟨q, h⟩ | ⟨-, h⟩
    · obtain ⟨x, rfl, gx⟩ := ab_isI_of (ab_isI0 q1) ha
      obtain ⟨y, rfl, gy⟩ := ab_isI_of (ab_isI0 q2) hb
      rw [ab_fi_eq] at h
      have r := ab_in32_of q
      have e : Int.sub a.2 b.2 = x.toInt - y.toInt := by rw [ab_cI2 q1 gx, ab_cI2 q2 gy]; rfl
      rw [e] at r h
      refine ⟨x, y, _, rfl, rfl, Or.inl ⟨rfl, ?_⟩, h⟩
      show (x - y).toInt = _
      rw [Int32.toInt_sub]
      exact ab_bmod r.1 r.2 (Or.inl rfl)
    · exact ab_bin_ok _ a b v u c h ha hb
  · rcases ab_bif h with ⟨q, h⟩ | ⟨-, h⟩
    · obtain ⟨q1, q2⟩ := ab_and2 q
      have q1 := ab_ble q1
      have q2 := ab_beq q2
      obtain ⟨x, rfl, gx⟩ := ab_isI_of (ab_isI7 q1) ha
      obtain ⟨y, rfl, gy⟩ := ab_isI_of (ab_isI0 q2) hb
      have e := ab_cI2 q2 gy
      have hr := ab_crange (x := y)
      have en : Int.neg b.2 = -y.toInt := by rw [e]; rfl
      obtain ⟨r, g1, g2⟩ := ab_off_ok (w := x - y) h q1 hE gx (by rw [en]; omega) (by rw [en, Int32.toInt_sub, Int.sub_eq_add_neg])
      exact ⟨x, y, r, rfl, rfl, g1, g2⟩
    · exact ab_bin_ok _ a b v u c h ha hb
theorem ab_is_of {x : Int32} {n : Int} (h : ab_is a n = true) (hg : ab_g xs a v) : ∃ x : Int32, v = .int x ∧ x.toInt = n := by
  obtain ⟨h1, h2⟩ := ab_and2 h
  have h1 := ab_beq h1
  obtain ⟨x, rfl, gx⟩ := ab_isI_of (ab_isI0 h1) hg
  exact ⟨x, rfl, by rw [ab_cI2 h1 gx]; exact of_decide_eq_true h2⟩
theorem ab_ofI {x : Int32} {y : Int32} (h : x.toInt = y.toInt) : x = y := Int32.toInt_inj.mp h
theorem ab_and_ok (hE : ab_sat xs E) (h6 : xs 6 = xs 0 &&& 63) : ab_binok xs (ab_and E) (fun x y => x &&& y) := by
  intro a b v u c h ha hb
  unfold ab_and at h
  rcases ab_bif h with ⟨-, h⟩ | ⟨-, h⟩
  · exact ab_bin_ok _ a b v u c h ha hb
  · rcases ab_bif h with ⟨q, h⟩ | ⟨-, h⟩
    · obtain ⟨q1, q⟩ := ab_and2 q
      obtain ⟨q2, q3⟩ := ab_and2 q
      have q1 := ab_beq q1
      have q2 := of_decide_eq_true q2
      obtain ⟨y, rfl, ey⟩ := ab_is_of (x := 0) q3 hb
      obtain ⟨x, rfl, gx⟩ := ab_isI_of (ab_isI7 (by omega)) ha
      have e := ab_sym_of (by omega) gx
      rw [q1, q2] at e
      have ex : x = xs 0 := ab_ofI (by rw [e]; show (xs 0).toInt + 0 = _; omega)
      have e63 : (63 : Int32).toInt = 63 := by decide
      have ey : y = 63 := ab_ofI (by rw [ey, e63])
      subst ex
      subst ey
      obtain ⟨r, g1, g2⟩ := ab_nrm_ok (n := (xs 0 &&& 63).toInt) h hE (Or.inr (Or.inr (Or.inr ⟨by decide, by show _ = (xs 6).toInt + 0; rw [h6]; omega⟩)))
      exact ⟨_, _, r, rfl, rfl, g1, g2⟩
    · rcases ab_bif h with ⟨q, h⟩ | ⟨-, h⟩
      · obtain ⟨q1, q2⟩ := ab_and2 q
        obtain ⟨y, rfl, ey⟩ := ab_is_of (x := 0) q1 hb
        obtain ⟨x, rfl, gx⟩ := ab_isI_of q2 ha
        have e1 : (-1 : Int32).toInt = -1 := by decide
        have ey : y = -1 := ab_ofI (by rw [ey, e1])
        subst ey
        refine ⟨_, _, a, rfl, rfl, ?_, h⟩
        show ab_gi xs a (x &&& -1).toInt
        rw [Int32.and_neg_one]
        exact gx
      · rcases ab_bif h with ⟨q, h⟩ | ⟨-, h⟩
        · obtain ⟨q1, q2⟩ := ab_and2 q
          obtain ⟨x, rfl, ex⟩ := ab_is_of (x := 0) q1 ha
          obtain ⟨y, rfl, gy⟩ := ab_isI_of q2 hb
          have e1 : (-1 : Int32).toInt = -1 := by decide
          have ex : x = -1 := ab_ofI (by rw [ex, e1])
          subst ex
          refine ⟨_, _, b, rfl, rfl, ?_, h⟩
          show ab_gi xs b (-1 &&& y).toInt
          rw [Int32.neg_one_and]
          exact gy
        · rcases ab_bif h with ⟨q, h⟩ | ⟨-, h⟩
          · have e0 : (0 : Int32).toInt = 0 := by decide
            rcases ab_or2 q with q | q
            · obtain ⟨q1, q2⟩ := ab_and2 q
              obtain ⟨x, rfl, ex⟩ := ab_is_of (x := 0) q1 ha
              obtain ⟨y, rfl, gy⟩ := ab_isI_of q2 hb
              have ex : x = 0 := ab_ofI (by rw [ex, e0])
              subst ex
              refine ⟨_, _, _, rfl, rfl, Or.inl ⟨rfl, ?_⟩, h⟩
              show (0 &&& y).toInt = 0
              rw [Int32.zero_and]
              exact e0
            · obtain ⟨q1, q2⟩ := ab_and2 q
              obtain ⟨y, rfl, ey⟩ := ab_is_of (x := 0) q1 hb
              obtain ⟨x, rfl, gx⟩ := ab_isI_of q2 ha
              have ey : y = 0 := ab_ofI (by rw [ey, e0])
              subst ey
              refine ⟨_, _, _, rfl, rfl, Or.inl ⟨rfl, ?_⟩, h⟩
              show (x &&& 0).toInt = 0
              rw [Int32.and_zero]
              exact e0
          · exact ab_bin_ok _ a b v u c h ha hb
theorem ab_nz_of {x : Int32} (h : ab_nz E a = true) (hE : ab_sat xs E) (hg : ab_g xs a v) : ∃ x, v = .int x ∧ x ≠ 0 := by
  unfold ab_nz at h
  have ad : ∀ p q : Int, Int.add p q = p + q := fun _ _ => rfl
  have e0 : (0 : Int32).toInt = 0 := by decide
  rcases ab_bif h with ⟨q, h⟩ | ⟨-, h⟩
  · have q := ab_ble q
    obtain ⟨x, rfl, gx⟩ := ab_isI_of (ab_isI7 q) hg
    refine ⟨x, rfl, fun e => ?_⟩
    have h1 := ab_sym_of q gx
    have h2 := hE (a.1 - 7)
    have e' : Nat.sub a.1 7 = a.1 - 7 := rfl
    rw [e'] at h
    rw [e, e0] at h1
    rcases ab_or2 h with h | h
    · have h := ab_le_iff.mp h; rw [ad] at h; omega
    · have h := ab_le_iff.mp h; rw [ad] at h; omega
  · have h := ab_beq h
    obtain ⟨x, rfl, gx⟩ := ab_isI_of (by rw [h]; rfl) hg
    refine ⟨x, rfl, fun e => ?_⟩
    subst e
    rw [e0] at gx
    rcases gx with ⟨q, -⟩ | q | ⟨-, q⟩ | ⟨q, -⟩
    · omega
    · omega
    · exact q rfl
    · omega
theorem ab_or_ok (hE : ab_sat xs E) : ab_binok xs (ab_or E) (fun x y => x ||| y) := by
  intro a b v u c h ha hb
  unfold ab_or at h
  have e0 : (0 : Int32).toInt = 0 := by decide
  rcases ab_bif h with ⟨-, h⟩ | ⟨-, h⟩
  · exact ab_bin_ok _ a b v u c h ha hb
  · rcases ab_bif h with ⟨q, h⟩ | ⟨-, h⟩
    · obtain ⟨q1, q2⟩ := ab_and2 q
      obtain ⟨y, rfl, ey⟩ := ab_is_of (x := 0) q1 hb
      obtain ⟨x, rfl, gx⟩ := ab_isI_of q2 ha
      have ey : y = 0 := ab_ofI (by rw [ey, e0])
      subst ey
      refine ⟨_, _, a, rfl, rfl, ?_, h⟩
      show ab_gi xs a (x ||| 0).toInt
      rw [Int32.or_zero]
      exact gx
    · rcases ab_bif h with ⟨q, h⟩ | ⟨-, h⟩
      · obtain ⟨q1, q2⟩ := ab_and2 q
        obtain ⟨x, rfl, ex⟩ := ab_is_of (x := 0) q1 ha
        obtain ⟨y, rfl, gy⟩ := ab_isI_of q2 hb
        have ex : x = 0 := ab_ofI (by rw [ex, e0])
        subst ex
        refine ⟨_, _, b, rfl, rfl, ?_, h⟩
        show ab_gi xs b (0 ||| y).toInt
        rw [Int32.zero_or]
        exact gy
      · rcases ab_bif h with ⟨q, h⟩ | ⟨-, h⟩
        · rcases ab_or2 q with q | q
          · obtain ⟨q1, q2⟩ := ab_and2 q
            obtain ⟨x, rfl, ex⟩ := ab_nz_of (x := 0) q1 hE ha
            obtain ⟨y, rfl, gy⟩ := ab_isI_of q2 hb
            refine ⟨_, _, _, rfl, rfl, Or.inr (Or.inr (Or.inl ⟨rfl, fun e => ?_⟩)), h⟩
            have e2 : (x ||| y) = 0 := ab_ofI (by rw [e0]; exact e)
            exact ex (Int32.or_eq_zero_iff.mp e2).1
          · obtain ⟨q1, q2⟩ := ab_and2 q
            obtain ⟨y, rfl, ey⟩ := ab_nz_of (x := 0) q1 hE hb
            obtain ⟨x, rfl, gx⟩ := ab_isI_of q2 ha
            refine ⟨_, _, _, rfl, rfl, Or.inr (Or.inr (Or.inl ⟨rfl, fun e => ?_⟩)), h⟩
            have e2 : (x ||| y) = 0 := ab_ofI (by rw [e0]; exact e)
            exact ey (Int32.or_eq_zero_iff.mp e2).2
        · exact ab_bin_ok _ a b v u c h ha hb
end AbB
/-! tests -/
noncomputable def ab_br (E : ab_E) (k : Nat) (lo hi : Int) (K : ab_E → Bool) : Bool :=
  ab_fi (ab_if (ab_le (E.getD k ab_full).1 lo) (lo) ((E.getD k ab_full).1)) (fun l => ab_fi (ab_if (ab_le hi (E.getD k ab_full).2) (hi) ((E.getD k ab_full).2)) (fun h => ab_if (ab_le l h) (K (E.set k (l, h))) (true)))
noncomputable def ab_tlt (E : ab_E) (a b : ab_V) (kt kf : ab_E → Bool) : Bool :=
  ab_if (ab_an (Nat.beq a.1 0) (Nat.beq b.1 0)) ((ab_if (ab_le b.2 a.2) (kf E) (kt E))) (ab_if (ab_an (Nat.ble 7 a.1) (Nat.beq b.1 0)) (ab_an (ab_br E (Nat.sub a.1 7) ab_full.1 (Int.sub (Int.sub b.2 a.2) 1) kt) (ab_br E (Nat.sub a.1 7) (Int.sub b.2 a.2) ab_full.2 kf)) (ab_if (ab_an (Nat.ble 7 b.1) (Nat.beq a.1 0)) (ab_an (ab_br E (Nat.sub b.1 7) (Int.add (Int.sub a.2 b.2) 1) ab_full.2 kt) (ab_br E (Nat.sub b.1 7) ab_full.1 (Int.sub a.2 b.2) kf)) (ab_if (ab_an (ab_isI a.1) (ab_isI b.1)) (ab_an (kt E) (kf E)) (false))))
noncomputable def ab_tes (E : ab_E) (a : ab_V) (y : Int) (kt kf : ab_E → Bool) : Bool :=
  ab_an (ab_br E (Nat.sub a.1 7) (Int.sub y a.2) (Int.sub y a.2) kt) (ab_br E (Nat.sub a.1 7) (ab_if (ab_eq (E.getD (Nat.sub a.1 7) ab_full).1 (Int.sub y a.2)) (Int.add (Int.sub y a.2) 1) ((E.getD (Nat.sub a.1 7) ab_full).1)) (ab_if (ab_eq (E.getD (Nat.sub a.1 7) ab_full).2 (Int.sub y a.2)) (Int.sub (Int.sub y a.2) 1) ((E.getD (Nat.sub a.1 7) ab_full).2)) kf)
noncomputable def ab_teq (E : ab_E) (a b : ab_V) (kt kf : ab_E → Bool) : Bool :=
  ab_if (ab_an (Nat.beq a.1 0) (Nat.beq b.1 0)) ((ab_if (ab_eq a.2 b.2) (kt E) (kf E))) (ab_if (ab_an (Nat.ble 7 a.1) (Nat.beq b.1 0)) (ab_tes E a b.2 kt kf) (ab_if (ab_an (Nat.ble 7 b.1) (Nat.beq a.1 0)) (ab_tes E b a.2 kt kf) (ab_if (ab_an (Nat.beq a.1 6) (ab_is b 0)) (kf E) (ab_if (ab_an (ab_isI a.1) (ab_isI b.1)) (ab_an (kt E) (kf E)) (false)))))
section AbTests
variable {xs : Nat → Int32} {E : ab_E} {a b : ab_V} {kt kf : ab_E → Bool} {n m : Int}
theorem ab_sat_set {k : Nat} {l h : Int} (hE : ab_sat xs E) (h1 : l ≤ (xs k).toInt) (h2 : (xs k).toInt ≤ h) : ab_sat xs (E.set k (l, h)) := by
  intro j
  have := hE j
  rw [List.getD_eq_getElem?_getD, List.getElem?_set]
  by_cases e : k = j
  · subst e
    rw [if_pos rfl]
    split
    · exact ⟨h1, h2⟩
    · have r := ab_crange (x := xs k)
      exact ⟨r.1, r.2⟩
  · rw [if_neg e, ← List.getD_eq_getElem?_getD]
    exact this
theorem ab_br_ok {k : Nat} {lo hi : Int} {K : ab_E → Bool} (h : ab_br E k lo hi K = true) (hE : ab_sat xs E) (h1 : lo ≤ (xs k).toInt) (h2 : (xs k).toInt ≤ hi) : ∃ E', ab_sat xs E' ∧ K E' = true := by
  unfold ab_br at h
  rw [ab_fi_eq, ab_fi_eq] at h
  have h3 := hE k
  have hl : (ab_if (ab_le (E.getD k ab_full).1 lo) (lo) ((E.getD k ab_full).1)) ≤ (xs k).toInt := by
    cases ab_le (E.getD k ab_full).1 lo
    · exact h3.1
    · exact h1
  have hh : (xs k).toInt ≤ (ab_if (ab_le hi (E.getD k ab_full).2) (hi) ((E.getD k ab_full).2)) := by
    cases ab_le hi (E.getD k ab_full).2
    · exact h3.2
    · exact h2
  rcases ab_bif h with ⟨-, h⟩ | ⟨q, -⟩
  · exact ⟨_, ab_sat_set hE hl hh, h⟩
  · have := ab_le_no q
    omega
theorem ab_tlt_ok (h : ab_tlt E a b kt kf = true) (hE : ab_sat xs E) (ha : ab_gi xs a n) (hb : ab_gi xs b m) : ∃ E', ab_sat xs E' ∧ ((n < m ∧ kt E' = true) ∨ (¬ n < m ∧ kf E' = true)) := by
  unfold ab_tlt at h
  have sb : ∀ p q : Int, Int.sub p q = p - q := fun _ _ => rfl
  have ad : ∀ p q : Int, Int.add p q = p + q := fun _ _ => rfl
  have f1 : ab_full.1 = -2147483648 := by decide
  have f2 : ab_full.2 = 2147483647 := by decide
  have c0 : ∀ {a : ab_V} {n : Int}, a.1 = 0 → ab_gi xs a n → n = a.2 := by
    intro a n h g
    rcases g with ⟨-, q⟩ | q | ⟨q, -⟩ | ⟨q, -⟩
    · exact q
    · omega
    · omega
    · omega
  rcases ab_bif h with ⟨q, h⟩ | ⟨-, h⟩
  · obtain ⟨q1, q2⟩ := ab_and2 q
    have e1 := c0 (ab_beq q1) ha
    have e2 := c0 (ab_beq q2) hb
    rcases ab_bif h with ⟨q, h⟩ | ⟨q, h⟩
    · have q := ab_le_iff.mp q
      exact ⟨E, hE, Or.inr ⟨by omega, h⟩⟩
    · have q := ab_le_no q
      exact ⟨E, hE, Or.inl ⟨by omega, h⟩⟩
  · rcases ab_bif h with ⟨q, h⟩ | ⟨-, h⟩
    · obtain ⟨q1, q2⟩ := ab_and2 q
      have q1 := ab_ble q1
      have e2 := c0 (ab_beq q2) hb
      have e1 := ab_sym_of q1 ha
      have r := ab_crange (x := xs (a.1 - 7))
      obtain ⟨h1, h2⟩ := ab_and2 h
      have e' : Nat.sub a.1 7 = a.1 - 7 := rfl
      rw [e'] at h1 h2
      by_cases c : n < m
      · obtain ⟨E', s1, s2⟩ := ab_br_ok h1 hE (by rw [f1]; omega) (by rw [sb, sb]; omega)
        exact ⟨E', s1, Or.inl ⟨c, s2⟩⟩
      · obtain ⟨E', s1, s2⟩ := ab_br_ok h2 hE (by rw [sb]; omega) (by rw [f2]; omega)
        exact ⟨E', s1, Or.inr ⟨c, s2⟩⟩
    · rcases ab_bif h with ⟨q, h⟩ | ⟨-, h⟩
      · obtain ⟨q1, q2⟩ := ab_and2 q
        have q1 := ab_ble q1
        have e2 := c0 (ab_beq q2) ha
        have e1 := ab_sym_of q1 hb
        have r := ab_crange (x := xs (b.1 - 7))
        obtain ⟨h1, h2⟩ := ab_and2 h
        have e' : Nat.sub b.1 7 = b.1 - 7 := rfl
        rw [e'] at h1 h2
        by_cases c : n < m
        · obtain ⟨E', s1, s2⟩ := ab_br_ok h1 hE (by rw [ad, sb]; omega) (by rw [f2]; omega)
          exact ⟨E', s1, Or.inl ⟨c, s2⟩⟩
        · obtain ⟨E', s1, s2⟩ := ab_br_ok h2 hE (by rw [f1]; omega) (by rw [sb]; omega)
          exact ⟨E', s1, Or.inr ⟨c, s2⟩⟩
      · obtain ⟨-, h⟩ := ab_bif0 h
        obtain ⟨h1, h2⟩ := ab_and2 h
        by_cases c : n < m
        · exact ⟨E, hE, Or.inl ⟨c, h1⟩⟩
        · exact ⟨E, hE, Or.inr ⟨c, h2⟩⟩
theorem ab_tes_ok {y : Int} (h : ab_tes E a y kt kf = true) (h7 : 7 ≤ a.1) (hE : ab_sat xs E) (ha : ab_gi xs a n) : ∃ E', ab_sat xs E' ∧ ((n = y ∧ kt E' = true) ∨ (¬ n = y ∧ kf E' = true)) := by
  unfold ab_tes at h
  have sb : ∀ p q : Int, Int.sub p q = p - q := fun _ _ => rfl
  have ad : ∀ p q : Int, Int.add p q = p + q := fun _ _ => rfl
  have e1 := ab_sym_of h7 ha
  obtain ⟨h1, h2⟩ := ab_and2 h
  have e' : Nat.sub a.1 7 = a.1 - 7 := rfl
  rw [e'] at h1 h2
  have r := hE (a.1 - 7)
  by_cases c : n = y
  · obtain ⟨E', s1, s2⟩ := ab_br_ok h1 hE (by rw [sb]; omega) (by rw [sb]; omega)
    exact ⟨E', s1, Or.inl ⟨c, s2⟩⟩
  · obtain ⟨E', s1, s2⟩ := ab_br_ok h2 hE (by
      cases q : ab_eq (E.getD (a.1 - 7) ab_full).1 (Int.sub y a.2) with
      | false => exact r.1
      | true => have q := ab_eq_iff.mp q; rw [sb] at q; show Int.add (Int.sub y a.2) 1 ≤ _; rw [ad, sb]; omega) (by
      cases q : ab_eq (E.getD (a.1 - 7) ab_full).2 (Int.sub y a.2) with
      | false => exact r.2
      | true => have q := ab_eq_iff.mp q; rw [sb] at q; show _ ≤ Int.sub (Int.sub y a.2) 1; rw [sb, sb]; omega)
    exact ⟨E', s1, Or.inr ⟨c, s2⟩⟩
theorem ab_teq_ok (h : ab_teq E a b kt kf = true) (hE : ab_sat xs E) (ha : ab_gi xs a n) (hb : ab_gi xs b m) : ∃ E', ab_sat xs E' ∧ ((n = m ∧ kt E' = true) ∨ (¬ n = m ∧ kf E' = true)) := by
  unfold ab_teq at h
  have c0 : ∀ {a : ab_V} {n : Int}, a.1 = 0 → ab_gi xs a n → n = a.2 := by
    intro a n h g
    rcases g with ⟨-, q⟩ | q | ⟨q, -⟩ | ⟨q, -⟩
    · exact q
    · omega
    · omega
    · omega
  rcases ab_bif h with ⟨q, h⟩ | ⟨-, h⟩
  · obtain ⟨q1, q2⟩ := ab_and2 q
    have e1 := c0 (ab_beq q1) ha
    have e2 := c0 (ab_beq q2) hb
    rcases ab_bif h with ⟨q, h⟩ | ⟨q, h⟩
    · have q := ab_eq_iff.mp q
      exact ⟨E, hE, Or.inl ⟨by omega, h⟩⟩
    · have q := ab_eq_no q
      exact ⟨E, hE, Or.inr ⟨by omega, h⟩⟩
  · rcases ab_bif h with ⟨q, h⟩ | ⟨-, h⟩
    · obtain ⟨q1, q2⟩ := ab_and2 q
      rw [c0 (ab_beq q2) hb]
      exact ab_tes_ok h (ab_ble q1) hE ha
    · rcases ab_bif h with ⟨q, h⟩ | ⟨-, h⟩
      · obtain ⟨q1, q2⟩ := ab_and2 q
        rw [c0 (ab_beq q2) ha]
        obtain ⟨E', s1, s2⟩ := ab_tes_ok h (ab_ble q1) hE hb
        refine ⟨E', s1, ?_⟩
        rcases s2 with ⟨e, s⟩ | ⟨e, s⟩
        · exact Or.inl ⟨e.symm, s⟩
        · exact Or.inr ⟨fun q => e q.symm, s⟩
      · rcases ab_bif h with ⟨q, h⟩ | ⟨-, h⟩
        · obtain ⟨q1, q2⟩ := ab_and2 q
          have q1 := ab_beq q1
          obtain ⟨q3, q4⟩ := ab_and2 q2
          have e := c0 (ab_beq q3) hb
          have e2 := of_decide_eq_true q4
          refine ⟨E, hE, Or.inr ⟨fun e3 => ?_, h⟩⟩
          rcases ha with ⟨q, -⟩ | q | ⟨-, q⟩ | ⟨q, -⟩
          · omega
          · omega
          · omega
          · omega
        · obtain ⟨-, h⟩ := ab_bif0 h
          obtain ⟨h1, h2⟩ := ab_and2 h
          by_cases c : n = m
          · exact ⟨E, hE, Or.inl ⟨c, h1⟩⟩
          · exact ⟨E, hE, Or.inr ⟨c, h2⟩⟩
end AbTests
