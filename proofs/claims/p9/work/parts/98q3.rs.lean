/-! the reference: a choice, the list of ITEMS, the beginning -/
section
variable {S : sm_C} {d : Nat} {Φ : sm_Z → Prop} {I : sm_I} {L : sm_L} {R : sm_R}
def gv (I : sm_I) (s : Nat) : Int := if ((I 107 68) >>> (Int32.ofNat s &&& 31)) &&& (1 : Int32) = (1 : Int32) then (I 107 69).toInt else 0
theorem rx_chS {pg n l s c N : Nat} {x1 x2 : Int32} {C : List tC} (B : rB0 I pg n l) (hs : x1.toInt = s) (s10 : s < 10) (hc : x2.toInt = c) (c4 : c < 4) (hN : (I 129 (4 * (10 * l + s) + c)).toInt = N) (N3 : N ≤ 3) (g0 : 0 ≤ (I 107 69).toInt) (g1 : (I 107 69).toInt ≤ 5000) (ok : ∀ i, i < N → sspk I n (3 * (4 * (10 * l + s) + c) + i)) (T : ttop n C (mT I pg)) (h : ∀ r J, rR pg n (spL I (rhd I l) (gv I s) (3 * (4 * (10 * l + s) + c)) N ++ C) I r J → Φ (some (.int r), (xLay, J, L, kM R))) : sm_wp sm_P S (d + 4) 115 0 [.ref 107, .int x1, .int x2] [] (xLay, I, L, kM R) (0, 0) Φ := by
  have hl := B.2.2.2.2.1
  have l1 := B.2.2.2.2.2.1
  have c10 : (10 : Int32).toInt = 10 := by decide
  have c4' : (4 : Int32).toInt = 4 := by decide
  have c3 : (3 : Int32).toInt = 3 := by decide
  have ex : x1 = Int32.ofNat s := en_ofI (by rw [hs, Int32.toInt_ofNat_of_lt (by omega)])
  have m1 : ((10 : Int32) * I 107 18).toInt = 10 * (l : Int) := ml_mu c10 hl (by omega) (by omega)
  have m2 : ((10 : Int32) * I 107 18 + x1).toInt = ((10 * l + s : Nat) : Int) := (ml_ad m1 hs (by omega) (by omega)).trans (by omega)
  have m3 : ((4 : Int32) * ((10 : Int32) * I 107 18 + x1)).toInt = 4 * ((10 * l + s : Nat) : Int) := ml_mu c4' m2 (by omega) (by omega)
  refine p_X12_chooses_0 ⟨fun a => ?_, fun _ n14 e14 => ?_⟩
  · have a := kl_le.mp a
    omega
  have s14 : n14.toInt = ((4 * (10 * l + s) + c : Nat) : Int) := by rw [e14]; exact (ml_ad m3 hc (by omega) (by omega)).trans (by omega)
  have s3 : ((3 : Int32) * n14).toInt = ((3 * (4 * (10 * l + s) + c) + 0 : Nat) : Int) := (ml_mu c3 s14 (by omega) (by omega)).trans (by omega)
  rw [ex]
  unfold gv at h
  refine ⟨fun e => ?_, fun e => ?_⟩
  · rw [if_pos e] at h
    exact rx_ch5 B s14 (by omega) hN N3 g0 g1 ok h N 0 _ I s3 (Nat.zero_add _) chg_0 T
  · rw [if_neg e] at h
    exact rx_ch5 (x4 := 0) B s14 (by omega) hN N3 (by decide) (by decide) ok (by rw [kl_0]; exact h) N 0 _ I s3 (Nat.zero_add _) chg_0 T
def mvC (f : tC → tC) (le gr : Nat) (w : Int) (c : Nat) : List tC := [if c = 0 then f (le, gr, -w) else f (gr, le, -w)]
theorem rx_ch19 {pg n l c le gr : Nat} {x2 x3 x4 s0 : Int32} {C : List tC} (B : rB0 I pg n l) (hc : x2.toInt = c) (w0 : -105000 ≤ x3.toInt) (w1 : x3.toInt ≤ 105000) (h4 : x4.toInt = le) (h0 : s0.toInt = gr) (ln : le < n) (gn : gr < n) (T : ttop n C (mT I pg)) (h : ∀ r J, rR pg n (mvC (rhd I l) le gr x3.toInt c ++ C) I r J → Φ (some (.int r), (xLay, J, L, kM R))) : sm_wp sm_P S (d + 2) 115 19 [.ref 107, .int x2, .int x3, .int x4] [.int s0] (xLay, I, L, kM R) (0, 0) Φ := by
  have nw : (-x3).toInt = -x3.toInt := by rw [Int32.toInt_neg]; exact en_bmod (by omega) (by omega) (Or.inl rfl)
  refine p_X12_chooses_19 ⟨fun e => ?_, fun e => ?_⟩
  · have c0 : c = 0 := by rw [e, kl_0] at hc; omega
    unfold mvC at h
    rw [if_pos c0] at h
    refine rx_atMost B h0 h4 gn ln (by omega) (by omega) T (fun r J q => ⟨r, J, L, rfl, p_X12_chooses_22 ⟨?_, h r J ?_⟩⟩)
    · rcases q.2 with ⟨e, -⟩ | ⟨e, -⟩
      · exact Or.inl e
      · exact Or.inr e
    · rw [nw] at q; exact q
  · have c0 : c ≠ 0 := fun q => e (en_ofI (by rw [hc, q]; decide))
    unfold mvC at h
    rw [if_neg c0] at h
    refine rx_atMost B h4 h0 ln gn (by omega) (by omega) T (fun r J q => ⟨r, J, L, rfl, p_X12_chooses_22 ⟨?_, h r J ?_⟩⟩)
    · rcases q.2 with ⟨e, -⟩ | ⟨e, -⟩
      · exact Or.inl e
      · exact Or.inr e
    · rw [nw] at q; exact q
theorem rx_chM {pg n l m c : Nat} {x1 x2 : Int32} {C : List tC} (B : rB0 I pg n l) (hm : x1.toInt = ((10 + m : Nat) : Int)) (m45 : m < 45) (hc : x2.toInt = c) (a0 : 0 ≤ (I 140 m).toInt) (an : (I 140 m).toInt + 1 < n) (b0 : 0 ≤ (I 141 m).toInt) (bn : (I 141 m).toInt + 1 < n) (w0 : -105000 ≤ (I 142 m).toInt) (w1 : (I 142 m).toInt ≤ 105000) (T : ttop n C (mT I pg)) (h : ∀ r J, rR pg n (mvC (rhd I l) (nd (I 140 m)) (nd (I 141 m)) (I 142 m).toInt c ++ C) I r J → Φ (some (.int r), (xLay, J, L, kM R))) : sm_wp sm_P S (d + 2) 115 0 [.ref 107, .int x1, .int x2] [] (xLay, I, L, kM R) (0, 0) Φ := by
  have c10 : (10 : Int32).toInt = 10 := by decide
  have c60 : (60 : Int32).toInt = 60 := by decide
  have n12 := B.2.2.2.1
  have s1 : (x1 - 10).toInt = (m : Int) := by
    rw [Int32.toInt_sub, c10]
    exact en_bmod (by omega) (by omega) (Or.inl (by omega))
  have p1 := tk_nat s1
  have v : vp_in (x1 - 10) 45 := kl_in (by omega) (by omega)
  have n60 : ¬ (60 : Int32) ≤ x1 := fun q => by have := kl_le.mp q; omega
  refine p_X12_chooses_0 ⟨fun _ => ⟨fun a => absurd a n60, fun _ => ⟨v, ?_⟩⟩, fun a => ?_⟩
  · rw [p1]
    refine fun n7 e7 => ⟨fun a => absurd a n60, fun _ => ⟨v, fun n10 e10 => ⟨fun a => absurd a n60, fun _ => ⟨v, ?_⟩⟩⟩⟩
    rw [e7]
    exact rx_ch19 (d := d) B hc w0 w1 (by rw [e10, ml_in1 (by omega)]; unfold nd; omega) (by rw [ml_in1 (by omega)]; unfold nd; omega) (by unfold nd; omega) (by unfold nd; omega) T h
  · have a := kl_nle a
    omega
/-- the list of ITEMS -/
def isb (set : Int32) (k : Nat) : Bool := !decide (((set >>> (Int32.ofNat k &&& 31)) &&& (1 : Int32)) = 0)
def sL (set : Int32) : Nat → List Nat
  | 0 => []
  | k + 1 => sL set k ++ (if isb set k = true then [k] else [])
def mL (b : Nat) : Nat → List Nat
  | 0 => []
  | k + 1 => mL b k ++ [b + k]
theorem sL_len (set : Int32) : ∀ k, (sL set k).length ≤ k := by
  intro k
  induction k with
  | zero => exact Nat.le_refl _
  | succ k ih =>
    show (sL set k ++ (if isb set k = true then [k] else [])).length ≤ k + 1
    rw [List.length_append]
    split
    · show (sL set k).length + 1 ≤ k + 1
      omega
    · show (sL set k).length + 0 ≤ k + 1
      omega
theorem mL_len (b : Nat) : ∀ k, (mL b k).length = k := by
  intro k
  induction k with
  | zero => rfl
  | succ k ih =>
    show (mL b k ++ [b + k]).length = k + 1
    rw [List.length_append, ih]; rfl
def lM (I : sm_I) (xs : List Nat) : Prop := (I 107 59).toInt = xs.length ∧ ∀ k, k < xs.length → I 148 k = Int32.ofNat (xs.getD k 0)
theorem nG_l {xs ys : List Nat} {k : Nat} (h : k < xs.length) : (xs ++ ys).getD k 0 = xs.getD k 0 := by
  rw [List.getD_eq_getElem?_getD, List.getD_eq_getElem?_getD, List.getElem?_append_left h]
theorem nG_n {xs : List Nat} {a : Nat} : (xs ++ [a]).getD xs.length 0 = a := by
  rw [List.getD_eq_getElem?_getD, List.getElem?_append_right (Nat.le_refl _)]
  simp
def chl (I J : sm_I) : Prop := ∀ p j, p ≠ 148 → ¬ (p = 107 ∧ j = 59) → J p j = I p j
theorem lM_add {I I1 I2 : sm_I} {xs : List Nat} {a : Nat} {v : Int32} (h : lM I xs) (h70 : xs.length < 70) (hv : v = Int32.ofNat a) (e1 : I1 = sm_up I 148 (I 107 59).toNatClampNeg v) (e2 : I2 = sm_up I1 107 59 (I1 107 59 + 1)) : lM I2 (xs ++ [a]) ∧ chl I I2 := by
  obtain ⟨h1, h2⟩ := h
  have p := tk_nat h1
  have e59 : I1 107 59 = I 107 59 := by rw [e1, en_up_ne _ _ _ _ (by omega)]
  have s := ml_in1 (x := I 107 59) (by omega)
  refine ⟨⟨?_, fun k hk => ?_⟩, fun p j a b => by rw [e2, en_up_ne _ _ _ _ b, e1, en_up_ne _ _ _ _ (by omega)]⟩
  · rw [e2, en_up_eq, e59, s, h1, List.length_append]; rfl
  · rw [List.length_append] at hk
    have hk : k < xs.length + 1 := hk
    rw [e2, en_up_ne _ _ _ _ (by omega), e1, p]
    by_cases c : k = xs.length
    · rw [c, en_up_eq, nG_n, hv]
    · rw [en_up_ne _ _ _ _ (by omega), nG_l (by omega)]
      exact h2 k (by omega)
def itL (set : Int32) (s m e : Nat) : List Nat := sL set s ++ mL 10 m ++ mL 60 e
theorem rx_lists {set : Int32} {l s m e : Nat} (hl : (I 107 18).toInt = l) (l1 : l ≤ 1) (hs : (I 125 l).toInt = s) (s10 : s ≤ 10) (hm : (I 107 46).toInt = m) (m45 : m ≤ 45) (he : (I 107 67).toInt = e) (e10 : e ≤ 10) (h : ∀ J, chl I J → lM J (itL set s m e) → Φ (none, (xLay, J, L, kM R))) : sm_wp sm_P S d 160 0 [.ref 107, .int set] [] (xLay, I, L, kM R) (0, 0) Φ := by
  have c10 : (10 : Int32).toInt = 10 := by decide
  have c60 : (60 : Int32).toInt = 60 := by decide
  -- extras
  have ex : ∀ (k i : Nat) (x : Int32) (J : sm_I), x.toInt = i → i + k = e → chl I J → lM J (sL set s ++ mL 10 m ++ mL 60 i) → sm_wp sm_P S d 160 10 [.ref 107, .int x] [] (xLay, J, L, kM R) (0, 0) Φ := by
    intro k
    induction k with
    | zero =>
      intro i x J hx hk cg hL
      have e67 : J 107 67 = I 107 67 := cg 107 67 (by decide) (by decide)
      refine p_X12_lists_10 ⟨fun _ => h J cg (by have : i = e := by omega
                                                 rw [← this]; exact hL), fun a => ?_⟩
      have a := kl_nle a
      rw [e67] at a
      omega
    | succ k ih =>
      intro i x J hx hk cg hL
      have e67 : J 107 67 = I 107 67 := cg 107 67 (by decide) (by decide)
      have s1 := ml_in1 (x := x) (by omega)
      have len : (sL set s ++ mL 10 m ++ mL 60 i).length ≤ 10 + 45 + i := by
        rw [List.length_append, List.length_append, mL_len, mL_len]
        have := sL_len set s
        omega
      refine p_X12_lists_10 ⟨fun a => ?_, fun _ => ⟨kl_in (by rw [hL.1]; omega) (by rw [hL.1]; omega), fun I1 e1 I2 e2 => ?_⟩⟩
      · have a := kl_le.mp a
        rw [e67] at a
        omega
      have v : (60 : Int32) + x = Int32.ofNat (60 + i) := en_ofI (by rw [ml_ad c60 hx (by omega) (by omega), Int32.toInt_ofNat_of_lt (by omega)]; omega)
      obtain ⟨g1, g2⟩ := lM_add hL (by omega) v e1 e2
      refine ih (i + 1) _ I2 (by omega) (by omega) (fun p j a b => (g2 p j a b).trans (cg p j a b)) ?_
      rw [List.append_assoc] at g1
      exact g1
  -- moves
  have mv : ∀ (k i : Nat) (x : Int32) (J : sm_I), x.toInt = i → i + k = m → chl I J → lM J (sL set s ++ mL 10 i) → sm_wp sm_P S d 160 7 [.ref 107, .int x] [] (xLay, J, L, kM R) (0, 0) Φ := by
    intro k
    induction k with
    | zero =>
      intro i x J hx hk cg hL
      have e46 : J 107 46 = I 107 46 := cg 107 46 (by decide) (by decide)
      refine p_X12_lists_7 ⟨fun _ => ex e 0 0 J (by decide) (by omega) cg ?_, fun a => ?_⟩
      · have : i = m := by omega
        rw [← this]
        show lM J (sL set s ++ mL 10 i ++ [])
        rw [List.append_nil]; exact hL
      · have a := kl_nle a
        rw [e46] at a
        omega
    | succ k ih =>
      intro i x J hx hk cg hL
      have e46 : J 107 46 = I 107 46 := cg 107 46 (by decide) (by decide)
      have s1 := ml_in1 (x := x) (by omega)
      have len : (sL set s ++ mL 10 i).length ≤ 10 + i := by
        rw [List.length_append, mL_len]
        have := sL_len set s
        omega
      refine p_X12_lists_7 ⟨fun a => ?_, fun _ => ⟨kl_in (by rw [hL.1]; omega) (by rw [hL.1]; omega), fun I1 e1 I2 e2 => ?_⟩⟩
      · have a := kl_le.mp a
        rw [e46] at a
        omega
      have v : (10 : Int32) + x = Int32.ofNat (10 + i) := en_ofI (by rw [ml_ad c10 hx (by omega) (by omega), Int32.toInt_ofNat_of_lt (by omega)]; omega)
      obtain ⟨g1, g2⟩ := lM_add hL (by omega) v e1 e2
      refine ih (i + 1) _ I2 (by omega) (by omega) (fun p j a b => (g2 p j a b).trans (cg p j a b)) ?_
      rw [List.append_assoc] at g1
      exact g1
  -- sayings
  have nl := tk_nat hl
  have sy : ∀ (k i : Nat) (x : Int32) (J : sm_I), x.toInt = i → i + k = s → chl I J → lM J (sL set i) → sm_wp sm_P S d 160 1 [.ref 107, .int set, .int x] [] (xLay, J, L, kM R) (0, 0) Φ := by
    intro k
    induction k with
    | zero =>
      intro i x J hx hk cg hL
      have e18 : J 107 18 = I 107 18 := cg 107 18 (by decide) (by decide)
      have e125 : J 125 l = I 125 l := cg 125 l (by decide) (by omega)
      refine p_X12_lists_1 ⟨kl_in (by rw [e18]; omega) (by rw [e18]; omega), ?_⟩
      rw [e18, nl, e125]
      refine ⟨fun _ => mv m 0 0 J (by decide) (by omega) cg ?_, fun a => ?_⟩
      · have : i = s := by omega
        rw [← this]
        show lM J (sL set i ++ [])
        rw [List.append_nil]; exact hL
      · have a := kl_nle a
        omega
    | succ k ih =>
      intro i x J hx hk cg hL
      have e18 : J 107 18 = I 107 18 := cg 107 18 (by decide) (by decide)
      have e125 : J 125 l = I 125 l := cg 125 l (by decide) (by omega)
      have s1 := ml_in1 (x := x) (by omega)
      have ex : x = Int32.ofNat i := en_ofI (by rw [hx, Int32.toInt_ofNat_of_lt (by omega)])
      have len := sL_len set i
      refine p_X12_lists_1 ⟨kl_in (by rw [e18]; omega) (by rw [e18]; omega), ?_⟩
      rw [e18, nl, e125]
      refine ⟨fun a => ?_, fun _ => ⟨fun q => ?_, fun q => ⟨kl_in (by rw [hL.1]; omega) (by rw [hL.1]; omega), fun I1 e1 I2 e2 => ?_⟩⟩⟩
      · have a := kl_le.mp a
        omega
      · refine ih (i + 1) _ J (by omega) (by omega) cg ?_
        show lM J (sL set i ++ (if isb set i = true then [i] else []))
        rw [if_neg (by unfold isb; rw [← ex, decide_eq_true q]; decide), List.append_nil]
        exact hL
      · obtain ⟨g1, g2⟩ := lM_add hL (by omega) ex e1 e2
        refine ih (i + 1) _ I2 (by omega) (by omega) (fun p j a b => (g2 p j a b).trans (cg p j a b)) ?_
        show lM I2 (sL set i ++ (if isb set i = true then [i] else []))
        rw [if_pos (by unfold isb; rw [← ex, decide_eq_false q]; rfl)]
        exact g1
  refine p_X12_lists_0 (sy s 0 0 _ (by decide) (by omega) (fun p j _ b => en_up_ne _ _ _ _ b) ⟨?_, fun k hk => absurd hk (Nat.not_lt_zero k)⟩)
  rw [en_up_eq]; rfl
/-- the SAYINGS that are not DOUBTED, as bits -/
theorem rx_undoubted {l s : Nat} (hl : (I 107 18).toInt = l) (l1 : l ≤ 1) (hs : (I 125 l).toInt = s) (s10 : s ≤ 10) (h : Φ (some (.int (sb (fun k => if I 137 k = 0 then 1 else 0) s)), (xLay, I, L, kM R))) : sm_wp sm_P S d 208 0 [.ref 107] [] (xLay, I, L, kM R) (0, 0) Φ := by
  have nl := tk_nat hl
  have v : vp_in (I 107 18) 2 := kl_in (by omega) (by omega)
  have lp : ∀ (k i : Nat) (x1 x2 : Int32), x2.toInt = i → i + k = s → x1 = sb (fun k => if I 137 k = 0 then 1 else 0) i → sm_wp sm_P S d 208 1 [.ref 107, .int x1, .int x2] [] (xLay, I, L, kM R) (0, 0) Φ := by
    intro k
    induction k with
    | zero =>
      intro i x1 x2 hx hk e
      refine p_X12_undoubted_1 ⟨v, ?_⟩
      rw [nl]
      refine ⟨fun _ => ?_, fun a => ?_⟩
      · have : i = s := by omega
        rw [e, this]; exact h
      · have a := kl_nle a
        omega
    | succ k ih =>
      intro i x1 x2 hx hk e
      have s1 := ml_in1 (x := x2) (by omega)
      have ex : x2 = Int32.ofNat i := en_ofI (by rw [hx, Int32.toInt_ofNat_of_lt (by omega)])
      refine p_X12_undoubted_1 ⟨v, ?_⟩
      rw [nl, tk_nat hx]
      refine ⟨fun a => ?_, fun _ => ⟨kl_in (by omega) (by omega), fun q n1 e1 => ?_, fun q => ?_⟩⟩
      · have a := kl_le.mp a
        omega
      · refine ih (i + 1) _ _ (by omega) (by omega) ?_
        rw [e1, e, ex]
        show _ = (if (if I 137 i = 0 then (1 : Int32) else 0) = 0 then sb _ i else sb _ i ||| ((1 : Int32) <<< (Int32.ofNat i &&& 31)))
        rw [if_pos q, if_neg (by decide)]
      · refine ih (i + 1) _ _ (by omega) (by omega) ?_
        rw [e]
        show _ = (if (if I 137 i = 0 then (1 : Int32) else 0) = 0 then sb _ i else sb _ i ||| ((1 : Int32) <<< (Int32.ofNat i &&& 31)))
        rw [if_neg q, if_pos rfl]
  exact p_X12_undoubted_0 (lp s 0 0 0 (by decide) (by omega) rfl)
end
