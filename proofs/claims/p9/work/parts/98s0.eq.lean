/-! the same problem on both sides -/
/-- what is told of spans is of TIMES told and within a day; MORE spans too -/
def TW (l : Nat) (I : sm_I) : Prop := (∀ s c i : Nat, (s : Int) < (I 125 l).toInt → (c : Int) < (I 128 (10 * l + s)).toInt → (i : Int) < (I 129 (4 * (10 * l + s) + c)).toInt → sspk I ((I 122 l).toNatClampNeg + 1) (3 * (4 * (10 * l + s) + c) + i)) ∧ (∀ k : Nat, (k : Int) < (I 134 l).toInt → sspk I ((I 122 l).toNatClampNeg + 1) (240 + 4 * l + k)) ∧ (∀ q : Nat, (q : Int) < (I 136 l).toInt → sspk I ((I 122 l).toNatClampNeg + 1) (248 + 6 * l + q)) ∧ ∀ k : Nat, (k : Int) < (I 107 54).toInt → mook I ((I 122 l).toNatClampNeg + 1) k
section
variable {I : sm_I} {L : sm_L} {R : sm_R} {qt l : Nat}
theorem rwf_of (l1 : l ≤ 1) (hl : (I 107 18).toInt = l) (mm : en_mem ml_tb mlX (xLay, I, L, R)) (wm : wmE qt l I) (tw : TW l I) (yb : ∀ i : Nat, (i : Int) < (I 125 l).toInt → ∀ q : Nat, (q : Int) < (I 128 (10 * l + i)).toInt → 1 ≤ (I 129 (4 * (10 * l + i) + q)).toInt ∧ (I 129 (4 * (10 * l + i) + q)).toInt ≤ 3) : rwf I l := by
  obtain ⟨-, -, w3⟩ := wm
  obtain ⟨t1, t2, -, t4⟩ := tw
  have b := ml_cs l1 mm
  have b134 : 0 ≤ (I 134 l).toInt ∧ (I 134 l).toInt ≤ 4 := ml_row mm (p := 134) (n := 2) (q := (0, 4)) (fun _ => rfl) l (by omega)
  have b54 : 0 ≤ (I 107 54).toInt ∧ (I 107 54).toInt ≤ 6 := mm.2.1 107 54 (0, 6) (by decide +kernel)
  have b46 : 0 ≤ (I 107 46).toInt ∧ (I 107 46).toInt ≤ 45 := mm.2.1 107 46 (0, 45) (by decide +kernel)
  have b128 : ∀ j, j < 20 → 0 ≤ (I 128 j).toInt ∧ (I 128 j).toInt ≤ 4 := fun j hj => ml_row mm (p := 128) (n := 20) (q := (0, 4)) (fun _ => rfl) j hj
  have nt := kl_nat b.2.2.1.1
  have ns := kl_nat b.2.2.2.1.1
  have no := kl_nat b134.1
  have nm := kl_nat b54.1
  have nv := kl_nat b46.1
  refine ⟨⟨hl, l1⟩, b.2.2.1, b134, fun k hk => t2 k (by omega), b54, fun k hk => t4 k (by omega), b.2.2.2.1, b46, b128, fun s hs => ?_⟩
  rcases hs with hs | ⟨hs1, hs2⟩
  · refine Or.inl ⟨by omega, fun c hc => ?_⟩
    have nb := kl_nat (b128 (10 * l + s) (by omega)).1
    have y := yb s (by omega) c (by omega)
    have ny := kl_nat (i := I 129 (4 * (10 * l + s) + c)) (by omega)
    exact ⟨⟨by omega, by omega⟩, fun i hi => t1 s c i (by omega) (by omega) (by omega)⟩
  · refine Or.inr (Or.inl ⟨by omega, fun w => ?_⟩)
    obtain ⟨-, -, v3, v4, v5, v6⟩ := w3 (s - 10) (by omega)
    rcases v3 with ⟨-, e⟩ | ⟨e1, e2, -⟩
    · exact absurd e w
    · exact ⟨⟨v4, by omega⟩, ⟨by omega, by omega⟩, by omega, by omega⟩
/-- a reference's code as the class's -/
def cdm (x : Nat) : Nat := if x < 10 then x else x + 90
theorem sL_cg {a b : Int32} : ∀ k, (∀ j, j < k → isb a j = isb b j) → sL a k = sL b k := by
  intro k
  induction k with
  | zero => intro _; rfl
  | succ k ih =>
    intro h
    show sL a k ++ (if isb a k = true then [k] else []) = sL b k ++ (if isb b k = true then [k] else [])
    rw [ih (fun j hj => h j (by omega)), h k (by omega)]
theorem ab_bit : ∀ n : Nat, n ≤ 10 → ∀ k, k < n → (((1 : Int32) <<< ((Int32.ofNat n) &&& 31)) - (1 : Int32)).toBitVec.getLsbD k = true := by decide +kernel
theorem isb_t (x : Int32) {k : Nat} (hk : k < 10) : isb x k = x.toBitVec.getLsbD k := by
  have t := sb_test x (Int32.ofNat k) k hk (Int32.toInt_ofNat_of_lt (by omega))
  unfold isb
  cases c : x.toBitVec.getLsbD k with
  | false => rw [decide_eq_true (t.mpr c)]; rfl
  | true => rw [decide_eq_false (fun q => by rw [t.mp q] at c; cases c)]; rfl
theorem m1_bit : ∀ k : Nat, k < 10 → (-1 : Int32).toBitVec.getLsbD k = true := by decide +kernel
/-- the undoubted SAYINGS, by their bits -/
theorem set_eq (h3 : I qt 3 = I 125 l) (b : 0 ≤ (I 125 l).toInt ∧ (I 125 l).toInt ≤ 10) (hd : ∀ k, k < 10 → (I 37 0).toBitVec.getLsbD k = !decide (I 137 k = 0)) : ∀ k, k < (I 125 l).toNatClampNeg → isb (kdb qt I) k = isb (rdb I (I 125 l).toNatClampNeg) k := fun k hk => by
  have nb := kl_nat b.1
  rw [isb_t _ (by omega), isb_t _ (by omega)]
  unfold kdb rdb
  have e : I qt 3 = Int32.ofNat (I 125 l).toNatClampNeg := by rw [h3]; exact en_ofI (by rw [Int32.toInt_ofNat_of_lt (by omega)]; omega)
  rw [Int32.toBitVec_and, BitVec.getLsbD_and, Int32.toBitVec_xor, BitVec.getLsbD_xor, e, ab_bit _ (by omega) k hk, hd k (by omega), m1_bit k (by omega), sb_bit _ (by omega) k (by omega)]
  by_cases c : I 137 k = 0
  · rw [if_pos c]; simp [c, hk]
  · rw [if_neg c]; simp [c]
theorem items_eq (hd : ∀ k, k < 10 → (I 37 0).toBitVec.getLsbD k = !decide (I 137 k = 0)) (h3 : I qt 3 = I 125 l) (h5 : I qt 5 = I 107 46) (b : 0 ≤ (I 125 l).toInt ∧ (I 125 l).toInt ≤ 10) : (kys qt I).length = (rxs I l).length ∧ ∀ k, k < (rxs I l).length → (kys qt I).getD k 0 = cdm ((rxs I l).getD k 0) := by
  have e : sL (kdb qt I) (I 125 l).toNatClampNeg = sL (rdb I (I 125 l).toNatClampNeg) (I 125 l).toNatClampNeg := sL_cg _ (set_eq h3 b hd)
  have nb := kl_nat b.1
  unfold kys rxs kitL itL
  rw [h3, h5, e]
  have z : mL 60 0 = [] := rfl
  rw [z, List.append_nil]
  refine ⟨by rw [List.length_append, List.length_append, mL_len, mL_len], fun k hk => ?_⟩
  rw [List.length_append, mL_len] at hk
  by_cases c : k < (sL (rdb I (I 125 l).toNatClampNeg) (I 125 l).toNatClampNeg).length
  · rw [nG_l c, nG_l c]
    have g : (sL (rdb I (I 125 l).toNatClampNeg) (I 125 l).toNatClampNeg).getD k 0 = (sL (rdb I (I 125 l).toNatClampNeg) (I 125 l).toNatClampNeg)[k] := by rw [List.getD_eq_getElem?_getD, List.getElem?_eq_getElem c]; rfl
    have i := sL_in _ _ _ (List.getElem_mem c)
    rw [← g] at i
    exact (if_pos (by omega)).symm
  · obtain ⟨t, rfl⟩ : ∃ t, k = (sL (rdb I (I 125 l).toNatClampNeg) (I 125 l).toNatClampNeg).length + t := ⟨k - (sL (rdb I (I 125 l).toNatClampNeg) (I 125 l).toNatClampNeg).length, by omega⟩
    rw [nG_r, nG_r, mL_at 100 _ t (by omega), mL_at 10 _ t (by omega)]
    unfold cdm
    rw [if_neg (by omega)]
    omega
theorem rst_d (l : Nat) (c : tC) : rhd (rst I) l c = c := if_pos (Or.inl (if_pos ⟨rfl, Or.inl rfl⟩))
theorem rst_0 (p j : Nat) (h : p ≠ 107) : rst I p j = I p j := if_neg (fun q => h q.1)
theorem kst_0 (p j : Nat) (h : p ≠ 74) : kst I p j = I p j := if_neg (fun q => h q.1)
theorem kst_g (s : Nat) : kgv 74 (kst I) s = 0 := by
  unfold kgv
  have e : kst I 74 8 = 0 := if_pos ⟨rfl, Or.inr rfl⟩
  rw [e, Int32.mul_zero]; rfl
/-- what is told, row by row -/
def rwE (qt l : Nat) (I : sm_I) : Prop := (∀ s : Nat, (s : Int) < (I 125 l).toInt → I (qt + 10) s = I 128 (10 * l + s) ∧ ∀ c : Nat, (c : Int) < (I 128 (10 * l + s)).toInt → I (qt + 11) (4 * s + c) = I 129 (4 * (10 * l + s) + c) ∧ (1 ≤ (I 129 (4 * (10 * l + s) + c)).toInt ∧ (I 129 (4 * (10 * l + s) + c)).toInt ≤ 3) ∧ ∀ i : Nat, (i : Int) < (I 129 (4 * (10 * l + s) + c)).toInt → I (qt + 13) (3 * (4 * s + c) + i) = I 130 (3 * (4 * (10 * l + s) + c) + i) ∧ I (qt + 14) (3 * (4 * s + c) + i) = I 131 (3 * (4 * (10 * l + s) + c) + i) ∧ I (qt + 15) (3 * (4 * s + c) + i) = I 132 (3 * (4 * (10 * l + s) + c) + i) ∧ I (qt + 16) (3 * (4 * s + c) + i) = I 133 (3 * (4 * (10 * l + s) + c) + i)) ∧ (∀ i : Nat, (i : Int) < (I 122 l).toInt → I (qt + 6) i = -1 ∨ ∃ k : Nat, (k : Int) < (I 134 l).toInt ∧ I 130 (240 + 4 * l + k) = Int32.ofNat i ∧ I (qt + 6) i = I 131 (240 + 4 * l + k) ∧ I (qt + 6) i ≠ -1 ∧ I (qt + 7) i = I 132 (240 + 4 * l + k) ∧ I (qt + 8) i = I 133 (240 + 4 * l + k)) ∧ (∀ k : Nat, (k : Int) < (I 134 l).toInt → ∃ i : Nat, (i : Int) < (I 122 l).toInt ∧ I 130 (240 + 4 * l + k) = Int32.ofNat i ∧ I (qt + 6) i = I 131 (240 + 4 * l + k) ∧ I (qt + 6) i ≠ -1 ∧ I (qt + 7) i = I 132 (240 + 4 * l + k) ∧ I (qt + 8) i = I 133 (240 + 4 * l + k))
theorem rwE_of (hq : qt = 12 ∨ qt = 49) (l1 : l ≤ 1) (mm : en_mem ml_tb mlX (xLay, I, L, R)) (td : tdE qt l I) : rwE qt l I := by
  obtain ⟨⟨a, k1, -, -, ⟨o1, o2⟩, ⟨y1, -⟩, -⟩, -⟩ := td
  have b := ml_cs l1 mm
  have row : ∀ c j, 14 ≤ c → c < 34 → I (qt + (c - 12)) j = a.1 c j := fun c j p1 p2 => by
    have h := k1 c j (by omega) (by omega) (by omega) (by omega)
    rw [show qt + (c - 12) = c + (qt - 12) by omega]; exact h
  refine ⟨fun s hs => ?_, fun i hi => ?_, fun k hk => ?_⟩
  · obtain ⟨-, y2, y3, y4, y5⟩ := y1 s (by omega) hs
    refine ⟨(row 22 s (by decide) (by decide)).trans y2, fun c hc => ?_⟩
    obtain ⟨z1, z2, z3, z4⟩ := y5 c hc
    refine ⟨(row 23 _ (by decide) (by decide)).trans z1, ⟨z2, z3⟩, fun i hi => ?_⟩
    obtain ⟨s1, s2, s3, s4⟩ := z4 i hi
    have ix : 120 * l + 12 * s + 3 * c + i = 3 * (4 * (10 * l + s) + c) + i := by omega
    have iy : 12 * s + 3 * c + i = 3 * (4 * s + c) + i := by omega
    rw [ix, iy] at s1 s2 s3 s4
    exact ⟨(row 25 _ (by decide) (by decide)).trans s1, (row 26 _ (by decide) (by decide)).trans s2, (row 27 _ (by decide) (by decide)).trans s3, (row 28 _ (by decide) (by decide)).trans s4⟩
  · rcases o1 i (by omega) hi with ⟨-, e⟩ | ⟨k, q1, q2, q3, q4, q5, q6, q7, q8, q9⟩
    · exact Or.inl ((row 18 i (by decide) (by decide)).trans e)
    · have e18 := row 18 i (by decide) (by decide)
      exact Or.inr ⟨k, q1, q4, e18.trans q6, fun q => q7 (e18.symm.trans q), (row 19 i (by decide) (by decide)).trans q8, (row 20 i (by decide) (by decide)).trans q9⟩
  · obtain ⟨i, -, q1, q2, q3, q4, q5, q6, q7, q8, q9⟩ := o2 k hk
    have e18 := row 18 i (by decide) (by decide)
    exact ⟨i, q2, q4, e18.trans q6, fun q => q7 (e18.symm.trans q), (row 19 i (by decide) (by decide)).trans q8, (row 20 i (by decide) (by decide)).trans q9⟩
/-- the class's bounds -/
theorem kW_of (hq : qt = 12 ∨ qt = 49) (l1 : l ≤ 1) (mm : en_mem ml_tb mlX (xLay, I, L, R)) (td : tdE qt l I) (hd : hdE I) (tw : TW l I) : kW qt I := by
  have e := rwE_of hq l1 mm td
  obtain ⟨e1, e2, e3⟩ := e
  obtain ⟨-, c1, c2, c3, -, -⟩ := (⟨by
      obtain ⟨⟨a, k1, k2, -⟩, -⟩ := td
      have row : ∀ j, j < 5 → I qt j = a.1 12 j := fun j hj => by
        have h := k1 12 j (by omega) (by omega) (by omega) (by omega)
        rw [show 12 + (qt - 12) = qt by omega] at h; exact h
      exact ⟨trivial, (row 1 (by omega)).trans k2.2.1, (row 2 (by omega)).trans k2.2.2.1, (row 3 (by omega)).trans k2.2.2.2.1, trivial, trivial⟩⟩ : PLift (True ∧ I qt 1 = I 119 l ∧ I qt 2 = I 122 l ∧ I qt 3 = I 125 l ∧ True ∧ True)).down
  obtain ⟨-, c5, w3⟩ := td.2
  obtain ⟨t1, t2, -, t4⟩ := tw
  obtain ⟨-, -, h3, h4, -⟩ := hd
  have b := ml_cs l1 mm
  have b54 : 0 ≤ (I 107 54).toInt ∧ (I 107 54).toInt ≤ 6 := mm.2.1 107 54 (0, 6) (by decide +kernel)
  have b46 : 0 ≤ (I 107 46).toInt ∧ (I 107 46).toInt ≤ 45 := mm.2.1 107 46 (0, 45) (by decide +kernel)
  have b128 : ∀ j, j < 20 → 0 ≤ (I 128 j).toInt ∧ (I 128 j).toInt ≤ 4 := fun j hj => ml_row mm (p := 128) (n := 20) (q := (0, 4)) (fun _ => rfl) j hj
  have nt := kl_nat b.2.2.1.1
  have ns := kl_nat b.2.2.2.1.1
  have nm := kl_nat b54.1
  have nv := kl_nat b46.1
  unfold kW
  rw [c2, c3, c5, h3]
  refine ⟨b.2.2.1, b.2.2.2.1, b46, b54, fun k hk => ?_, fun k hk e => ?_, fun s hs => ?_⟩
  · have a := t4 k (by omega)
    obtain ⟨g1, g2, g3, g4⟩ := h4 k (by omega) (by rw [h3]; omega)
    unfold kmok
    rw [g1, g2, g3, g4]; exact a
  · rcases e2 k (by omega) with q | ⟨k', q1, q2, q3, q4, q5, q6⟩
    · exact absurd q e
    · obtain ⟨-, a1, a2, a3, a4⟩ := t2 k' q1
      rw [q3, q5, q6]
      refine ⟨⟨?_, a2.2⟩, a3, a4⟩
      rcases Int.lt_or_le (I 131 (240 + 4 * l + k')).toInt 0 with u | u
      · exfalso
        refine q4 (q3.trans (en_ofI ?_))
        rw [show (-1 : Int32).toInt = -1 from by decide]
        omega
      · exact u
  · rcases hs with hs | ⟨hs1, hs2⟩
    · obtain ⟨y1, y2⟩ := e1 s (by omega)
      have b4 := b128 (10 * l + s) (by omega)
      have nb := kl_nat b4.1
      refine Or.inl ⟨by omega, ?_, ?_, fun c hc => ?_⟩
      · rw [kst_0 _ _ (by omega), y1]; exact b128 _ (by omega)
      · rw [kst_g]; decide
      · rw [kst_0 _ _ (by omega), y1] at hc
        obtain ⟨z1, z2, z3⟩ := y2 c (by omega)
        have nz := kl_nat (i := I 129 (4 * (10 * l + s) + c)) (by omega)
        rw [kst_0 _ _ (by omega), z1]
        refine ⟨⟨by omega, z2.2⟩, fun i hi => ?_⟩
        obtain ⟨s1, s2, s3, s4⟩ := z3 i (by omega)
        obtain ⟨-, a1, a2, a3, a4⟩ := t1 s c i (by omega) (by omega) (by omega)
        refine ⟨by omega, ?_, ?_, ?_, ?_⟩
        · rw [kst_0 _ _ (by omega), s1]; exact a1
        · rw [kst_0 _ _ (by omega), s2]; exact a2
        · rw [kst_0 _ _ (by omega), s3]; exact a3
        · rw [kst_0 _ _ (by omega), s4]; exact a4
    · refine Or.inr ⟨by omega, fun w => ?_⟩
      obtain ⟨v1, v2, v3, v4, v5, v6⟩ := w3 (s - 100) (by omega)
      rw [kst_0 _ _ (by omega)] at w
      rw [kst_0 _ _ (by omega), kst_0 _ _ (by omega), kst_0 _ _ (by omega), v1, v2]
      refine ⟨⟨v4, by omega⟩, ⟨by omega, by omega⟩, ?_⟩
      rcases v3 with ⟨e, -⟩ | ⟨e1, e2, e3⟩
      · rw [e] at w; exact absurd w (by decide)
      · rw [e3]; exact e2
/-- the same constraints -/
theorem ba_eq (hq : qt = 12 ∨ qt = 49) (rw_ : rwE qt l I) (hd : hdE I) (c2 : I qt 2 = I 122 l) (b2 : 0 ≤ (I 122 l).toInt ∧ (I 122 l).toInt ≤ 10) (b134 : 0 ≤ (I 134 l).toInt ∧ (I 134 l).toInt ≤ 4) (b54 : 0 ≤ (I 107 54).toInt ∧ (I 107 54).toInt ≤ 6) (l1 : l ≤ 1) (c : tC) : c ∈ kbaC qt (kst I) id ↔ c ∈ baC (rst I) l := by
  obtain ⟨-, e2, e3⟩ := rw_
  obtain ⟨-, -, h3, h4, -⟩ := hd
  have n2 := kl_nat b2.1
  have n134 := kl_nat b134.1
  have n54 := kl_nat b54.1
  have f : rhd (rst I) l = id := funext (fun c => rst_d l c)
  have ml : ∀ m, m ≤ (I 107 54).toNatClampNeg → kmoL (kst I) id m = moL (rst I) id m := fun m => by
    induction m with
    | zero => intro _; rfl
    | succ m ih =>
      intro hm
      obtain ⟨g1, g2, g3, g4⟩ := h4 m (by omega) (by rw [h3]; omega)
      show bC id (nd (kst I 41 m)) (nd (kst I 42 m)) (kst I 43 m).toInt (kst I 44 m).toInt ++ kmoL (kst I) id m = bC id (nd (rst I 144 m)) (nd (rst I 145 m)) (rst I 146 m).toInt (rst I 147 m).toInt ++ moL (rst I) id m
      rw [ih (by omega), kst_0 _ _ (by omega), kst_0 _ _ (by omega), kst_0 _ _ (by omega), kst_0 _ _ (by omega), rst_0 _ _ (by omega), rst_0 _ _ (by omega), rst_0 _ _ (by omega), rst_0 _ _ (by omega), g1, g2, g3, g4]
  have e54 : rst I 107 54 = I 107 54 := if_neg (by omega)
  have e53 : rst I 107 53 = 0 := if_pos ⟨rfl, Or.inl rfl⟩
  -- one open TIME
  have one : ∀ i k : Nat, (i : Int) < (I 122 l).toInt → I 130 (240 + 4 * l + k) = Int32.ofNat i → I (qt + 6) i = I 131 (240 + 4 * l + k) → I (qt + 6) i ≠ -1 → I (qt + 7) i = I 132 (240 + 4 * l + k) → I (qt + 8) i = I 133 (240 + 4 * l + k) → kopC qt (kst I) id i = opC (rst I) l (240 + 4 * l + k) := fun i k q0 q1 q2 q3 q4 q5 => by
    unfold kopC opC spC
    rw [if_pos e53, f, kst_0 _ _ (by omega), if_neg q3, kst_0 _ _ (by omega), kst_0 _ _ (by omega), rst_0 _ _ (by omega), rst_0 _ _ (by omega), rst_0 _ _ (by omega), rst_0 _ _ (by omega), q1, q2, q4, q5]
    have z : nd (Int32.ofNat i) = i + 1 := by
      unfold nd
      rw [Int32.toInt_ofNat_of_lt (by omega)]
      omega
    rw [z, Int.sub_zero, Int.add_zero]
  have inK : ∀ m, c ∈ kopL qt (kst I) id m ↔ ∃ i, i < m ∧ c ∈ kopC qt (kst I) id i := fun m => by
    induction m with
    | zero => exact ⟨fun h => absurd h List.not_mem_nil, fun ⟨i, hi, _⟩ => absurd hi (Nat.not_lt_zero i)⟩
    | succ m ih =>
      show c ∈ kopC qt (kst I) id m ++ kopL qt (kst I) id m ↔ _
      rw [List.mem_append, ih]
      constructor
      · rintro (h | ⟨i, hi, h⟩)
        · exact ⟨m, by omega, h⟩
        · exact ⟨i, by omega, h⟩
      · rintro ⟨i, hi, h⟩
        by_cases e : i = m
        · rw [e] at h; exact Or.inl h
        · exact Or.inr ⟨i, by omega, h⟩
  have inR : ∀ p m, c ∈ opL (rst I) l p m ↔ ∃ k, k < m ∧ c ∈ opC (rst I) l (p + k) := fun p m => by
    induction m with
    | zero => exact ⟨fun h => absurd h List.not_mem_nil, fun ⟨i, hi, _⟩ => absurd hi (Nat.not_lt_zero i)⟩
    | succ m ih =>
      show c ∈ opC (rst I) l (p + m) ++ opL (rst I) l p m ↔ _
      rw [List.mem_append, ih]
      constructor
      · rintro (h | ⟨i, hi, h⟩)
        · exact ⟨m, by omega, h⟩
        · exact ⟨i, by omega, h⟩
      · rintro ⟨i, hi, h⟩
        by_cases e : i = m
        · rw [e] at h; exact Or.inl h
        · exact Or.inr ⟨i, by omega, h⟩
  unfold kbaC baC
  rw [List.mem_append, List.mem_append, f, e54, kst_0 _ _ (by omega), kst_0 _ _ (by omega), rst_0 _ _ (by omega), h3, c2, ml _ (Nat.le_refl _), inK, inR]
  refine or_congr Iff.rfl ⟨?_, ?_⟩
  · rintro ⟨i, hi, h⟩
    rcases e2 i (by omega) with q | ⟨k, q1, q2, q3, q4, q5, q6⟩
    · exfalso
      have z : kopC qt (kst I) id i = [] := if_pos (by rw [kst_0 _ _ (by omega)]; exact q)
      rw [z] at h
      exact absurd h List.not_mem_nil
    · exact ⟨k, by omega, by rw [← one i k (by omega) q2 q3 q4 q5 q6]; exact h⟩
  · rintro ⟨k, hk, h⟩
    obtain ⟨i, q1, q2, q3, q4, q5, q6⟩ := e3 k (by omega)
    exact ⟨i, by omega, by rw [one i k q1 q2 q3 q4 q5 q6]; exact h⟩
theorem kl_eq : ∀ {A B : List tC} {A' B' : List tC}, A = A' → B = B' → A ++ B = A' ++ B' := fun h g => by rw [h, g]
theorem ch_eq (hq : qt = 12 ∨ qt = 49) (rw_ : rwE qt l I) (wm : wmE qt l I) (b3 : 0 ≤ (I 125 l).toInt ∧ (I 125 l).toInt ≤ 10) (b46 : 0 ≤ (I 107 46).toInt ∧ (I 107 46).toInt ≤ 45) (b128 : ∀ j, j < 20 → 0 ≤ (I 128 j).toInt ∧ (I 128 j).toInt ≤ 4) (l1 : l ≤ 1) {x : Nat} (hx : x < (I 125 l).toNatClampNeg ∨ (10 ≤ x ∧ x < 10 + (I 107 46).toNatClampNeg)) : kcd qt (kst I) (cdm x) = icd (rst I) l x ∧ ∀ c, kcv qt 74 (kst I) id (cdm x) c = icv (rst I) l x c := by
  obtain ⟨e1, -, -⟩ := rw_
  obtain ⟨-, -, w3⟩ := wm
  have n3 := kl_nat b3.1
  have n46 := kl_nat b46.1
  have f : rhd (rst I) l = id := funext (fun c => rst_d l c)
  have z68 : rst I 107 68 = 0 := if_pos ⟨rfl, Or.inr rfl⟩
  unfold kcv icv
  rcases hx with hx | ⟨hx1, hx2⟩
  · have x10 : x < 10 := by omega
    have cx : cdm x = x := if_pos x10
    obtain ⟨y1, y2⟩ := e1 x (by omega)
    have ecd : kcd qt (kst I) (cdm x) = icd (rst I) l x := by
      unfold kcd icd
      rw [cx, if_pos x10, if_pos x10, kst_0 _ _ (by omega), rst_0 _ _ (by omega), y1]
    refine ⟨ecd, fun c => ?_⟩
    rw [ecd]
    by_cases q : c < icd (rst I) l x
    · rw [if_pos q, if_pos q]
      unfold icd at q
      rw [if_pos x10, rst_0 _ _ (by omega)] at q
      have nb := kl_nat (b128 (10 * l + x) (by omega)).1
      obtain ⟨z1, z2, z3⟩ := y2 c (by omega)
      have nz := kl_nat (i := I 129 (4 * (10 * l + x) + c)) (by omega)
      unfold kcc icc
      rw [cx, if_pos x10, if_pos x10, kst_g, gv_0 z68 x10, f, kst_0 _ _ (by omega), rst_0 _ _ (by omega), z1]
      have lp : ∀ m, m ≤ (I 129 (4 * (10 * l + x) + c)).toNatClampNeg → ksL qt (kst I) id 0 (3 * (4 * x + c)) m = spL (rst I) id 0 (3 * (4 * (10 * l + x) + c)) m := fun m => by
        induction m with
        | zero => intro _; rfl
        | succ m ih =>
          intro hm
          obtain ⟨s1, s2, s3, s4⟩ := z3 m (by omega)
          show ksC qt (kst I) id (3 * (4 * x + c) + m) 0 ++ ksL qt (kst I) id 0 (3 * (4 * x + c)) m = spC (rst I) id (3 * (4 * (10 * l + x) + c) + m) 0 ++ spL (rst I) id 0 (3 * (4 * (10 * l + x) + c)) m
          refine kl_eq ?_ (ih (by omega))
          unfold ksC spC
          rw [kst_0 _ _ (by omega), kst_0 _ _ (by omega), kst_0 _ _ (by omega), kst_0 _ _ (by omega), rst_0 _ _ (by omega), rst_0 _ _ (by omega), rst_0 _ _ (by omega), rst_0 _ _ (by omega), s1, s2, s3, s4]
      exact lp _ (Nat.le_refl _)
    · rw [if_neg q, if_neg q]
  · have x10 : ¬ x < 10 := by omega
    have cx : cdm x = x + 90 := if_neg x10
    obtain ⟨v1, v2, v3, -, -, -⟩ := w3 (x - 10) (by omega)
    have ix : x + 90 - 100 = x - 10 := by omega
    have wz : ((I (qt + 24) (x - 10)).toInt < 0) ↔ I 142 (x - 10) = -1 := by
      rcases v3 with ⟨e, e'⟩ | ⟨e, -, e'⟩
      · rw [e, e']; decide
      · rw [e']
        exact ⟨fun q => by omega, fun q => by rw [q] at e; exact absurd e (by decide)⟩
    have ecd : kcd qt (kst I) (cdm x) = icd (rst I) l x := by
      unfold kcd icd
      rw [cx, if_neg (show ¬ x + 90 < 10 by omega), if_neg x10, if_pos (show x < 60 by omega), ix, kst_0 _ _ (by omega), rst_0 _ _ (by omega)]
      by_cases q : I 142 (x - 10) = -1
      · rw [if_pos q, if_pos (wz.mpr q)]
      · rw [if_neg q, if_neg (fun u => q (wz.mp u))]
    refine ⟨ecd, fun c => ?_⟩
    rw [ecd]
    by_cases q : c < icd (rst I) l x
    · rw [if_pos q, if_pos q]
      unfold icd at q
      rw [if_neg x10, if_pos (show x < 60 by omega), rst_0 _ _ (by omega)] at q
      have nw : I 142 (x - 10) ≠ -1 := fun u => by rw [if_pos u] at q; exact absurd q (Nat.not_lt_zero c)
      have ew : I (qt + 24) (x - 10) = I 142 (x - 10) := by
        rcases v3 with ⟨-, e'⟩ | ⟨-, -, e'⟩
        · exact absurd e' nw
        · exact e'
      unfold kcc icc
      rw [cx, if_neg (show ¬ x + 90 < 10 by omega), if_neg x10, if_pos (show x < 60 by omega), ix, f, kst_0 _ _ (by omega), kst_0 _ _ (by omega), kst_0 _ _ (by omega), rst_0 _ _ (by omega), rst_0 _ _ (by omega), rst_0 _ _ (by omega), v1, v2, ew]
    · rw [if_neg q, if_neg q]
/-- GOING THROUGH all comes out alike -/
theorem KR (hq : qt = 12 ∨ qt = 49) (l1 : l ≤ 1) (mm : en_mem ml_tb mlX (xLay, I, L, R)) (td : tdE qt l I) (hd : hdE I) : KF qt I = RF I l := by
  have rw_ := rwE_of hq l1 mm td
  have wm := td.2
  obtain ⟨c2, c3⟩ : I qt 2 = I 122 l ∧ I qt 3 = I 125 l := by
    obtain ⟨⟨a, k1, k2, -⟩, -⟩ := td
    have row : ∀ j, j < 5 → I qt j = a.1 12 j := fun j hj => by
      have h := k1 12 j (by omega) (by omega) (by omega) (by omega)
      rw [show 12 + (qt - 12) = qt by omega] at h; exact h
    exact ⟨(row 2 (by omega)).trans k2.2.2.1, (row 3 (by omega)).trans k2.2.2.2.1⟩
  have c5 := wm.2.1
  have b := ml_cs l1 mm
  have b134 : 0 ≤ (I 134 l).toInt ∧ (I 134 l).toInt ≤ 4 := ml_row mm (p := 134) (n := 2) (q := (0, 4)) (fun _ => rfl) l (by omega)
  have b54 : 0 ≤ (I 107 54).toInt ∧ (I 107 54).toInt ≤ 6 := mm.2.1 107 54 (0, 6) (by decide +kernel)
  have b46 : 0 ≤ (I 107 46).toInt ∧ (I 107 46).toInt ≤ 45 := mm.2.1 107 46 (0, 45) (by decide +kernel)
  have b128 : ∀ j, j < 20 → 0 ≤ (I 128 j).toInt ∧ (I 128 j).toInt ≤ 4 := fun j hj => ml_row mm (p := 128) (n := 20) (q := (0, 4)) (fun _ => rfl) j hj
  obtain ⟨len, it⟩ := items_eq (qt := qt) hd.1 c3 c5 b.2.2.2.1
  have inx : ∀ k, k < (rxs I l).length → (rxs I l).getD k 0 < (I 125 l).toNatClampNeg ∨ (10 ≤ (rxs I l).getD k 0 ∧ (rxs I l).getD k 0 < 10 + (I 107 46).toNatClampNeg) := fun k hk => itL_in hk
  unfold KF RF
  rw [len, c2]
  refine GT_cg (ba_eq hq rw_ hd c2 b.2.2.1 b134 b54 l1) (fun k hk => ?_) (fun j hj c x => ?_)
  · rw [it k hk]
    exact (ch_eq hq rw_ wm b.2.2.2.1 b46 b128 l1 (inx k hk)).1
  · rw [it j hj, (ch_eq hq rw_ wm b.2.2.2.1 b46 b128 l1 (inx j hj)).2 c]
end
