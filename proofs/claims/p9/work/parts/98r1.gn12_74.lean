/-! the class's net, exact; told = 12, going = 74 (wip/pe/mkg1.py) -/
section
variable {S : sm_C} {d : Nat} {Φ : sm_Z → Prop} {I : sm_I} {L : sm_L} {R : sm_R}
def g12_74_T (I : sm_I) (n lev i j : Nat) : Int := (I 76 (tix n lev i j)).toInt
def g12_74_c (n lev : Nat) (I J : sm_I) : Prop := ∀ p q, ¬ (p = 76 ∧ lev * (n * n) ≤ q ∧ q < lev * (n * n) + n * n) → J p q = I p q
theorem g12_74_c0 {n lev : Nat} {I : sm_I} : g12_74_c n lev I I := fun _ _ _ => rfl
theorem g12_74_ct {n lev : Nat} {I J K : sm_I} (a : g12_74_c n lev I J) (b : g12_74_c n lev J K) : g12_74_c n lev I K := fun p q h => (b p q h).trans (a p q h)
theorem g12_74_row {n r re : Nat} {x1 x2 x3 : Int32} {I0 : sm_I} (hn : (I0 75 4).toInt = n) (h1 : x1.toInt = r) (h3 : x3.toInt = re) (r7 : r + n ≤ 7381) (re7 : re + n ≤ 7381) (ds : r + n ≤ re ∨ re + n ≤ r) (y0 : -116000 ≤ x2.toInt) (y1 : x2.toInt ≤ 116000) (be : ∀ q, q < n → -1440 ≤ (I0 76 (re + q)).toInt ∧ (I0 76 (re + q)).toInt ≤ 1440) (h : ∀ J, (∀ p j, ¬ (p = 76 ∧ r ≤ j ∧ j < r + n) → J p j = I0 p j) → (∀ q, q < n → (J 76 (r + q)).toInt = if x2.toInt + (I0 76 (re + q)).toInt < (I0 76 (r + q)).toInt then x2.toInt + (I0 76 (re + q)).toInt else (I0 76 (r + q)).toInt) → Φ (none, (xLay, J, L, kG12_74 R))) : sm_wp sm_P S d 257 0 [.ref 75, .int x1, .int x2, .int x3] [] (xLay, I0, L, kG12_74 R) (0, 0) Φ := by
  have lp : ∀ (k i : Nat) (x4 : Int32) (J : sm_I), x4.toInt = i → i + k = n → (∀ p j, ¬ (p = 76 ∧ r ≤ j ∧ j < r + i) → J p j = I0 p j) → (∀ q, q < i → (J 76 (r + q)).toInt = if x2.toInt + (I0 76 (re + q)).toInt < (I0 76 (r + q)).toInt then x2.toInt + (I0 76 (re + q)).toInt else (I0 76 (r + q)).toInt) → sm_wp sm_P S d 257 1 [.ref 75, .int x1, .int x2, .int x3, .int x4] [] (xLay, J, L, kG12_74 R) (0, 0) Φ := by
    intro k
    induction k with
    | zero =>
      intro i x4 J h4 hk o v
      have e4 : J 75 4 = I0 75 4 := o 75 4 (by omega)
      have ei : i = n := by omega
      subst ei
      refine pg12_74_X5_tightenRow_1 ⟨fun _ => h J o v, fun a => ?_⟩
      have a := kl_nle a
      rw [e4] at a
      omega
    | succ k ih =>
      intro i x4 J h4 hk o v
      have e4 : J 75 4 = I0 75 4 := o 75 4 (by omega)
      have s4 := ml_in1 (x := x4) (by omega)
      have q1 : (x3 + x4).toInt = ((re + i : Nat) : Int) := (ml_ad h3 h4 (by omega) (by omega)).trans (by omega)
      have q2 : (x1 + x4).toInt = ((r + i : Nat) : Int) := (ml_ad h1 h4 (by omega) (by omega)).trans (by omega)
      have oe : J 76 (re + i) = I0 76 (re + i) := o _ _ (by omega)
      have or_ : J 76 (r + i) = I0 76 (r + i) := o _ _ (by omega)
      have b := be i (by omega)
      refine pg12_74_X5_tightenRow_1 ⟨fun a => ?_, fun _ => ⟨kl_in (by omega) (by omega), fun n1 e1 => ⟨kl_in (by omega) (by omega), ?_⟩⟩⟩
      · have a := kl_le.mp a
        rw [e4] at a
        omega
      rw [tk_nat q1, oe] at e1
      rw [tk_nat q2, or_]
      have s1 : n1.toInt = x2.toInt + (I0 76 (re + i)).toInt := by rw [e1]; exact ml_ad rfl rfl (by omega) (by omega)
      refine ⟨fun c => ?_, fun c => ⟨kl_in (by omega) (by omega), fun I2 e2 => ?_⟩⟩
      · have c := kl_le.mp c
        refine ih (i + 1) _ J (by omega) (by omega) (fun p j hp => o p j (by omega)) (fun q hq => ?_)
        by_cases e : q = i
        · rw [e, or_, if_neg (by omega)]
        · exact v q (by omega)
      · have c := kl_nle c
        refine ih (i + 1) _ I2 (by omega) (by omega) (fun p j hp => by rw [e2, en_up_ne _ _ _ _ (by omega)]; exact o p j (by omega)) (fun q hq => ?_)
        by_cases e : q = i
        · rw [e, e2, en_up_eq, if_pos (by omega), s1]
        · rw [e2, en_up_ne _ _ _ _ (by omega)]; exact v q (by omega)
  exact pg12_74_X5_tightenRow_0 (lp n 0 0 I0 (by decide) (by omega) (fun _ _ _ => rfl) (fun q hq => absurd hq (Nat.not_lt_zero q)))
/-- who stands for a node, and by how much behind it is -/
def g12_74_hd (I : sm_I) (c : tC) : tC := if c.1 = c.2.1 then c else ((I 77 c.1).toNatClampNeg, (I 77 c.2.1).toNatClampNeg, c.2.2 - (I 79 c.1).toInt + (I 78 c.2.1).toInt)
def g12_74_hok (I : sm_I) (n : Nat) : Prop := ∀ i, i < n → (0 ≤ (I 77 i).toInt ∧ (I 77 i).toInt < n) ∧ (-1440 ≤ (I 78 i).toInt ∧ (I 78 i).toInt ≤ 1440) ∧ (-1440 ≤ (I 79 i).toInt ∧ (I 79 i).toInt ≤ 1440)
/-- what a call needs of the net -/
def g12_74_B (I : sm_I) (n : Nat) : Prop := (I 75 4).toInt = n ∧ 1 ≤ n ∧ n ≤ 11 ∧ (I 75 5).toInt = ((n * n : Nat) : Int) ∧ g12_74_hok I n
theorem g12_74_Bc {n lev : Nat} {I J : sm_I} (h : g12_74_c n lev I J) (b : g12_74_B I n) : g12_74_B J n ∧ g12_74_hd J = g12_74_hd I := by
  obtain ⟨b1, b2, b3, b4, b5⟩ := b
  refine ⟨⟨by rw [h 75 4 (by omega)]; exact b1, b2, b3, by rw [h 75 5 (by omega)]; exact b4, fun i hi => by rw [h 77 i (by omega), h 78 i (by omega), h 79 i (by omega)]; exact b5 i hi⟩, ?_⟩
  funext c
  unfold g12_74_hd
  rw [h 77 c.1 (by omega), h 77 c.2.1 (by omega), h 79 c.1 (by omega), h 78 c.2.1 (by omega)]
def g12_74_R (lev n : Nat) (C : List tC) (I : sm_I) (r : Int32) (J : sm_I) : Prop := g12_74_c n lev I J ∧ ((r = 0 ∧ tno n C) ∨ (r = 1 ∧ ttop n C (g12_74_T J n lev)))
theorem g12_74_21 {n lev i j : Nat} {x6 x7 x8 x9 x10 : Int32} {I0 : sm_I} {D : Nat → Nat → Int} (B : g12_74_B I0 n) (hl : lev * (n * n) + n * n ≤ 7381) (h7 : x7.toInt = ((lev * (n * n) : Nat) : Int)) (h8 : x8.toInt = i) (h9 : x9.toInt = j) (h10 : x10.toInt = ((lev * (n * n) + j * n : Nat) : Int)) (in_ : i < n) (jn : j < n) (w0 : -113000 ≤ x6.toInt) (w1 : x6.toInt ≤ 113000) (eD : D = g12_74_T I0 n lev) (cl : tcl n D) (bD : ∀ a b, a < n → b < n → -1440 ≤ D a b ∧ D a b ≤ 1440) (k : 0 ≤ D j i + x6.toInt) (h : ∀ J, g12_74_c n lev I0 J → (∀ a b, a < n → b < n → g12_74_T J n lev a b = tU D i j x6.toInt a b) → Φ (some (.int 1), (xLay, J, L, kG12_74 R))) : ∀ (m p : Nat) (x11 : Int32) (J : sm_I), x11.toInt = p → p + m = n → g12_74_c n lev I0 J → (∀ a b, a < n → b < n → g12_74_T J n lev a b = if a < p then tU D i j x6.toInt a b else D a b) → sm_wp sm_P S (d + 1) 256 21 [.ref 75, .int x6, .int x7, .int x8, .int x9, .int x10, .int x11] [] (xLay, J, L, kG12_74 R) (0, 0) Φ := by
  have te := tU_e (n := n) (D := D) k
  have lt := fun (a b : Nat) (ha : a < n) (hb : b < n) => tix_lt ha hb
  intro m
  induction m with
  | zero =>
    intro p x11 J h11 hm cg T
    have e4 : J 75 4 = I0 75 4 := cg 75 4 (by omega)
    refine pg12_74_X5_tighten_21 ⟨fun _ => h J cg (fun a b ha hb => by rw [T a b ha hb, if_pos (by omega)]), fun a => ?_⟩
    have a := kl_nle a
    rw [e4, B.1] at a
    omega
  | succ m ih =>
    intro p x11 J h11 hm cg T
    have pn : p < n := by omega
    have e4 : J 75 4 = I0 75 4 := cg 75 4 (by omega)
    have n11 := B.2.2.1
    have s11 := ml_in1 (x := x11) (by omega)
    have rowp : p * n + n ≤ n * n := by
      have := Nat.mul_le_mul_right n (show p + 1 ≤ n by omega)
      rw [Nat.succ_mul] at this
      exact this
    have rowj : j * n + n ≤ n * n := by
      have := Nat.mul_le_mul_right n (show j + 1 ≤ n by omega)
      rw [Nat.succ_mul] at this
      exact this
    have mp : (x11 * (J 75 4)).toInt = ((p * n : Nat) : Int) := by
      rw [e4]
      have := ml_mu h11 B.1 (by rw [← Int.natCast_mul]; omega) (by rw [← Int.natCast_mul]; omega)
      rw [this, Int.natCast_mul]
    have a7 : (x7 + x11 * (J 75 4)).toInt = ((lev * (n * n) + p * n : Nat) : Int) := (ml_ad h7 mp (by omega) (by omega)).trans (by omega)
    refine pg12_74_X5_tighten_21 ⟨fun a => ?_, fun _ n1 e1 => ?_⟩
    · have a := kl_le.mp a
      rw [e4, B.1] at a
      omega
    have q1 : n1.toInt = ((tix n lev p i : Nat) : Int) := by rw [e1]; unfold tix; exact (ml_ad a7 h8 (by omega) (by omega)).trans (by omega)
    have t1 := lt p i pn in_
    have t3 := lt p j pn jn
    refine ⟨kl_in (by omega) (by unfold tix at q1; omega), fun n2 e2 n3 e3 => ?_⟩
    have q3 : n3.toInt = ((tix n lev p j : Nat) : Int) := by rw [e3]; unfold tix; exact (ml_ad a7 h9 (by omega) (by omega)).trans (by omega)
    rw [tk_nat q1] at e2
    have d1 : (J 76 (tix n lev p i)).toInt = D p i := by
      have g := T p i pn in_
      rw [if_neg (by omega)] at g
      exact g
    have d3 : (J 76 (tix n lev p j)).toInt = D p j := by
      have g := T p j pn jn
      rw [if_neg (by omega)] at g
      exact g
    have bi := bD p i pn in_
    have q2 : n2.toInt = D p i + x6.toInt := by rw [e2]; exact ml_ad d1 rfl (by omega) (by omega)
    rw [tk_nat q3]
    refine ⟨kl_in (by omega) (by unfold tix at q3; omega), fun c => ?_, fun c => ?_⟩
    · have c := kl_le.mp c
      rw [d3, q2] at c
      refine ih (p + 1) _ J (by omega) (by omega) cg (fun a b ha hb => ?_)
      rw [T a b ha hb]
      by_cases e : a = p
      · rw [if_neg (by omega), if_pos (by omega), e, tU_s cl jn pn c b hb]
      · by_cases e2 : a < p
        · rw [if_pos e2, if_pos (by omega)]
        · rw [if_neg e2, if_neg (by omega)]
    · have c := kl_nle c
      rw [d3, q2] at c
      have pj : p ≠ j := fun e => by
        rw [e] at c
        have := cl.1 j jn
        omega
      have sep : p * n + n ≤ j * n ∨ j * n + n ≤ p * n := by
        rcases Nat.lt_or_ge p j with u | u
        · left
          have := Nat.mul_le_mul_right n (show p + 1 ≤ j by omega)
          rw [Nat.succ_mul] at this
          exact this
        · right
          have := Nat.mul_le_mul_right n (show j + 1 ≤ p by omega)
          rw [Nat.succ_mul] at this
          exact this
      have rj : ∀ q, q < n → (J 76 (lev * (n * n) + j * n + q)).toInt = D j q := fun q hq => by
        have g := T j q jn hq
        rw [te.1 q] at g
        rw [show (J 76 (lev * (n * n) + j * n + q)).toInt = g12_74_T J n lev j q from rfl, g]
        split <;> rfl
      have rp : ∀ q, q < n → (J 76 (lev * (n * n) + p * n + q)).toInt = D p q := fun q hq => by
        have g := T p q pn hq
        rw [if_neg (by omega)] at g
        exact g
      refine g12_74_row (r := lev * (n * n) + p * n) (re := lev * (n * n) + j * n) (by rw [e4]; exact B.1) a7 h10 (by omega) (by omega) (by omega) (by omega) (by omega) (fun q hq => by rw [rj q hq]; exact bD j q jn hq) (fun J2 o v => ⟨J2, L, rfl, ?_⟩)
      refine ih (p + 1) _ J2 (by omega) (by omega) (fun x y hx => (o x y (by omega)).trans (cg x y hx)) (fun a b ha hb => ?_)
      by_cases e : a = p
      · rw [if_pos (by omega), e]
        show (J2 76 (lev * (n * n) + p * n + b)).toInt = _
        rw [v b hb, rj b hb, rp b hb, q2]
        unfold tU
        have e5 : D p i + x6.toInt + D j b = D p i + x6.toInt + D j b := rfl
        rfl
      · have ea : g12_74_T J2 n lev a b = g12_74_T J n lev a b := by
          unfold g12_74_T
          rw [o _ _ (fun q => ?_)]
          have sa : a * n + n ≤ p * n ∨ p * n + n ≤ a * n := by
            rcases Nat.lt_or_ge a p with u | u
            · left
              have := Nat.mul_le_mul_right n (show a + 1 ≤ p by omega)
              rw [Nat.succ_mul] at this
              exact this
            · right
              have := Nat.mul_le_mul_right n (show p + 1 ≤ a by omega)
              rw [Nat.succ_mul] at this
              exact this
          unfold tix at q
          omega
        rw [ea, T a b ha hb]
        by_cases e2 : a < p
        · rw [if_pos e2, if_pos (by omega)]
        · rw [if_neg e2, if_neg (by omega)]
theorem g12_74_tighten {n lev i j : Nat} {x1 x2 x3 x4 : Int32} {C : List tC} (B : g12_74_B I n) (hl : lev * (n * n) + n * n ≤ 7381) (l1 : lev ≤ 100) (h1 : x1.toInt = lev) (hi : x2.toInt = i) (hj : x3.toInt = j) (in_ : i < n) (jn : j < n) (w0 : -110000 ≤ x4.toInt) (w1 : x4.toInt ≤ 110000) (T : ttop n C (g12_74_T I n lev)) (h : ∀ r J, g12_74_R lev n (g12_74_hd I (i, j, x4.toInt) :: C) I r J → Φ (some (.int r), (xLay, J, L, kG12_74 R))) : sm_wp sm_P S (d + 1) 256 0 [.ref 75, .int x1, .int x2, .int x3, .int x4] [] (xLay, I, L, kG12_74 R) (0, 0) Φ := by
  obtain ⟨b1, b2, b3, b4, b5⟩ := id B
  have nn : 1 ≤ n * n ∧ n * n ≤ 144 := ⟨Nat.mul_le_mul b2 b2, Nat.le_trans (Nat.mul_le_mul b3 b3) (by decide)⟩
  obtain ⟨m1, m2, m3⟩ := kl_lev (x := x1) (A := I 75 5) (by omega) (by omega) (by omega) (by omega)
  have k1 : (x1 * I 75 5).toInt = ((lev * (n * n) : Nat) : Int) := by rw [m1, h1, b4]; exact (Int.natCast_mul _ _).symm
  have k2 : ((x1 + 1) * I 75 5).toInt = ((lev * (n * n) + n * n : Nat) : Int) := by rw [m2, h1, b4, ← Int.natCast_mul, ← Int.natCast_add]
  have bD := ttop_b T
  have main : sm_wp sm_P S (d + 1) 256 4 [.ref 75, .int x1, .int x2, .int x3, .int x4] [.int (1 : Int32)] (xLay, I, L, kG12_74 R) (0, 0) Φ := by
    refine pg12_74_X5_tighten_4 ⟨fun e => absurd e (by decide), fun _ => ⟨fun a => ?_, fun _ => ⟨fun a => ?_, fun _ => ⟨fun a => ?_, fun _ => ⟨fun _ => ⟨fun e => ?_, fun e => ?_⟩, fun a => ?_⟩⟩⟩⟩⟩
    · have a := kl_lt.mp a
      rw [kl_0] at a; omega
    · have a := kl_le.mp a
      omega
    · have a := kl_lt.mp a
      rw [kl_0] at a; omega
    · have eij : i = j := by rw [e] at hi; omega
      have er : g12_74_hd I (i, j, x4.toInt) = (i, j, x4.toInt) := if_pos eij
      rw [er] at h
      have z := T.1.1.1 i in_
      refine ⟨fun a => h 0 I ⟨g12_74_c0, Or.inl ⟨rfl, t_no T in_ jn ?_⟩⟩, fun a => h 1 I ⟨g12_74_c0, Or.inr ⟨rfl, t_same T ?_⟩⟩⟩
      · have a := kl_lt.mp a
        rw [kl_0] at a
        rw [← eij, z]; omega
      · have a := kl_nlt0 a
        rw [← eij, z]; exact a
    · have nij : i ≠ j := fun q => e (en_ofI (by rw [hi, hj, q]))
      have er : g12_74_hd I (i, j, x4.toInt) = ((I 77 i).toNatClampNeg, (I 77 j).toNatClampNeg, x4.toInt - (I 79 i).toInt + (I 78 j).toInt) := if_neg nij
      rw [er] at h
      obtain ⟨si, ni, fi⟩ := b5 i in_
      obtain ⟨sj, nj, fj⟩ := b5 j jn
      have zi := kl_nat si.1
      have zj := kl_nat sj.1
      obtain ⟨i', ei'⟩ : ∃ i', i' = (I 77 i).toNatClampNeg := ⟨_, rfl⟩
      obtain ⟨j', ej'⟩ : ∃ j', j' = (I 77 j).toNatClampNeg := ⟨_, rfl⟩
      rw [← ei', ← ej'] at h
      rw [← ei'] at zi
      rw [← ej'] at zj
      have in' : i' < n := by omega
      have jn' : j' < n := by omega
      have px := tk_nat hi
      have py := tk_nat hj
      have vx : vp_in x2 11 := kl_in (by omega) (by omega)
      have vy : vp_in x3 11 := kl_in (by omega) (by omega)
      rw [px, py]
      refine ⟨vx, vy, fun n1 e1 => ⟨vx, vy, fun n2 e2 n3 e3 => ?_⟩⟩
      have q1 : n1.toInt = x4.toInt - (I 79 i).toInt + (I 78 j).toInt := by
        rw [e1]
        refine ml_ad ?_ rfl (by omega) (by omega)
        rw [Int32.toInt_sub]
        exact en_bmod (by omega) (by omega) (Or.inl rfl)
      have rowj : j' * n + n ≤ n * n := by
        have := Nat.mul_le_mul_right n (show j' + 1 ≤ n by omega)
        rw [Nat.succ_mul] at this
        exact this
      have rowi : i' * n + n ≤ n * n := by
        have := Nat.mul_le_mul_right n (show i' + 1 ≤ n by omega)
        rw [Nat.succ_mul] at this
        exact this
      have mj : (I 77 j * I 75 4).toInt = ((j' * n : Nat) : Int) := by
        have := ml_mu (a := (j' : Int)) (b := (n : Int)) zj.symm b1 (by rw [← Int.natCast_mul]; omega) (by rw [← Int.natCast_mul]; omega)
        rw [this, Int.natCast_mul]
      have mi : (I 77 i * I 75 4).toInt = ((i' * n : Nat) : Int) := by
        have := ml_mu (a := (i' : Int)) (b := (n : Int)) zi.symm b1 (by rw [← Int.natCast_mul]; omega) (by rw [← Int.natCast_mul]; omega)
        rw [this, Int.natCast_mul]
      have q2 : n2.toInt = ((lev * (n * n) + j' * n : Nat) : Int) := by rw [e2]; exact (ml_ad k1 mj (by omega) (by omega)).trans (by omega)
      have q3 : n3.toInt = ((tix n lev j' i' : Nat) : Int) := by rw [e3]; unfold tix; exact (ml_ad q2 zi.symm (by omega) (by omega)).trans (by omega)
      rw [tk_nat q3]
      have bji := bD j' i' jn' in'
      have s1 : (I 76 (tix n lev j' i') + n1).toInt = g12_74_T I n lev j' i' + n1.toInt := ml_ad rfl rfl (by omega) (by omega)
      refine ⟨kl_in (by omega) (by unfold tix at q3; omega), fun a n4 e4 => ?_, fun a => h 0 I ⟨g12_74_c0, Or.inl ⟨rfl, t_no T in' jn' ?_⟩⟩⟩
      · have a := kl_le.mp a
        rw [kl_0, s1] at a
        have q4 : n4.toInt = ((tix n lev i' j' : Nat) : Int) := by rw [e4]; unfold tix; exact (ml_ad (ml_ad k1 mi (by omega) (by omega)) zj.symm (by omega) (by omega)).trans (by omega)
        rw [tk_nat q4]
        refine ⟨kl_in (by omega) (by unfold tix at q4; omega), fun c => ?_, fun c => h 1 I ⟨g12_74_c0, Or.inr ⟨rfl, t_same T ?_⟩⟩⟩
        · refine g12_74_21 (D := g12_74_T I n lev) B hl k1 zi.symm zj.symm q2 in' jn' (by omega) (by omega) rfl T.1.1 bD a (fun J cg eq => h 1 J ⟨cg, Or.inr ⟨rfl, ?_⟩⟩) n 0 0 I (by decide) (by omega) g12_74_c0 (fun a b _ _ => by rw [if_neg (Nat.not_lt_zero a)])
          rw [← q1]
          exact ttop_eq (fun a b ha hb => (eq a b ha hb).symm) (t_up T in' jn' a)
        · have c := kl_nlt c
          rw [← q1]; exact c
      · have a := kl_nle a
        rw [kl_0, s1, q1] at a
        exact a
    · have a := kl_nlt a
      omega
  refine pg12_74_X5_tighten_0 ⟨fun a => ?_, fun _ => ⟨fun a => ?_, fun _ => main⟩⟩
  · have a := kl_lt.mp a
    rw [kl_0] at a; omega
  · have a := kl_lt.mp a
    rw [Int32.toInt_ofNat_of_lt (by decide), k2] at a
    omega
theorem kG12_74_r : ∀ t, t ∈ kG12_74l → (t.1 = 0 ∧ t.2.1 = 9 ∧ t.2.2 = 12) ∨ (t.1 = 74 ∧ t.2.1 = 4 ∧ t.2.2 = 12) ∨ en_refs kl_tb t.1 t.2.1 = [t.2.2] := by decide +kernel
theorem kG12_74_eq {w : sm_W} (hm : en_mem kl_tb klX w) (h : w.2.2.2 0 9 = some 12) (h2 : w.2.2.2 74 4 = some 12) : kG12_74 w.2.2.2 = w.2.2.2 := by
  funext x j
  unfold kG12_74
  split
  · next t ht =>
    have mem := List.mem_of_find?_eq_some ht
    have pr := List.find?_some ht
    obtain ⟨p1, p2⟩ := Bool.and_eq_true_iff.mp pr
    have e1 : t.1 = x := Nat.eq_of_beq_eq_true p1
    have e2 : t.2.1 = j := Nat.eq_of_beq_eq_true p2
    rcases kG12_74_r t mem with ⟨q1, q2, q3⟩ | ⟨q1, q2, q3⟩ | q
    · rw [← e1, ← e2, q1, q2, q3]; exact h.symm
    · rw [← e1, ← e2, q1, q2, q3]; exact h2.symm
    · obtain ⟨a, g1, g2⟩ := hm.2.2.1 t.1 t.2.1 (by rw [q]; exact List.cons_ne_nil _ _)
      rw [q] at g1
      rw [← e1, ← e2, g2, List.mem_singleton.mp g1]
  · rfl
theorem g12_74_hl {n lev : Nat} {x1 : Int32} (B : g12_74_B I n) (hl : lev * (n * n) + n * n ≤ 7381) (l1 : lev ≤ 100) (h1 : x1.toInt = lev) (h : Φ (some (.int 1), (xLay, I, L, kG12_74 R))) : sm_wp sm_P S d 249 0 [.ref 75, .int x1] [] (xLay, I, L, kG12_74 R) (0, 0) Φ := by
  obtain ⟨b1, b2, b3, b4, b5⟩ := id B
  have nn : 1 ≤ n * n ∧ n * n ≤ 144 := ⟨Nat.mul_le_mul b2 b2, Nat.le_trans (Nat.mul_le_mul b3 b3) (by decide)⟩
  obtain ⟨m1, m2, m3⟩ := kl_lev (x := x1) (A := I 75 5) (by omega) (by omega) (by omega) (by omega)
  have k2 : ((x1 + 1) * I 75 5).toInt = ((lev * (n * n) + n * n : Nat) : Int) := by rw [m2, h1, b4, ← Int.natCast_mul, ← Int.natCast_add]
  refine pg12_74_X5_hasLevel_0 ⟨fun a => ?_, fun _ => ⟨fun a => ?_, fun _ => h⟩⟩
  · have a := kl_lt.mp a
    rw [kl_0] at a; omega
  · have a := kl_lt.mp a
    rw [Int32.toInt_ofNat_of_lt (by decide), k2] at a
    omega
theorem g12_74_cp {n lev : Nat} {x1 : Int32} (B : g12_74_B I n) (hl : (lev + 1) * (n * n) + n * n ≤ 7381) (l1 : lev ≤ 90) (h1 : x1.toInt = lev) (h : ∀ J, g12_74_c n (lev + 1) I J → (∀ i j, i < n → j < n → g12_74_T J n (lev + 1) i j = g12_74_T I n lev i j) → Φ (none, (xLay, J, L, kG12_74 R))) : sm_wp sm_P S (d + 1) 248 0 [.ref 75, .int x1] [] (xLay, I, L, kG12_74 R) (0, 0) Φ := by
  obtain ⟨b1, b2, b3, b4, b5⟩ := id B
  have nn : 1 ≤ n * n ∧ n * n ≤ 144 := ⟨Nat.mul_le_mul b2 b2, Nat.le_trans (Nat.mul_le_mul b3 b3) (by decide)⟩
  obtain ⟨m1, m2, m3⟩ := kl_lev (x := x1) (A := I 75 5) (by omega) (by omega) (by omega) (by omega)
  have sl : (lev + 1) * (n * n) = lev * (n * n) + n * n := Nat.succ_mul lev (n * n)
  have k1 : (x1 * I 75 5).toInt = ((lev * (n * n) : Nat) : Int) := by rw [m1, h1, b4]; exact (Int.natCast_mul _ _).symm
  have k2 : ((x1 + 1) * I 75 5).toInt = (((lev + 1) * (n * n) : Nat) : Int) := by rw [m2, h1, b4, sl, ← Int.natCast_mul, ← Int.natCast_add]
  refine pg12_74_X5_copyUp_0 (g12_74_hl B (by omega) (by omega) h1 ⟨_, I, L, rfl, fun z => absurd z (by decide), fun _ => g12_74_hl (lev := lev + 1) B hl (by omega) (by rw [m3, h1]; omega) ⟨_, I, L, rfl, fun z => absurd z (by decide), fun _ n7 e7 => ?_⟩⟩)
  have q7 : n7.toInt = (((lev + 1) * (n * n) : Nat) : Int) := by rw [e7]; exact k2
  have t7 := tk_nat q7
  have t1 := tk_nat k1
  have t5 := tk_nat b4
  refine ⟨⟨fun q => ?_, fun q => ?_, fun q => ?_, by rw [t1, t5]; omega, by rw [t7, t5]; omega⟩, fun I8 e8 => ?_⟩
  · have q := kl_lt.mp q
    rw [kl_0, k1] at q; omega
  · have q := kl_lt.mp q
    rw [kl_0, q7] at q; omega
  · have q := kl_lt.mp q
    rw [kl_0, b4] at q; omega
  rw [t1, t7, t5] at e8
  have oth : ∀ p j, p ≠ 76 → I8 p j = I p j := fun p j hp => by rw [e8]; unfold sm_row; rw [if_neg hp]
  have row : ∀ j, I8 76 j = va_cpy (I 76) (I 76) (lev * (n * n)) ((lev + 1) * (n * n)) (n * n) j := fun j => by rw [e8]; unfold sm_row; rw [if_pos rfl]
  refine h I8 (fun p q hq => ?_) (fun i j hi hj => ?_)
  · by_cases e : p = 76
    · subst e
      rw [row]
      unfold va_cpy
      rw [if_neg (by omega)]
    · exact oth p q e
  · have t := tix_lt hi hj
    unfold g12_74_T tix
    rw [row]
    unfold va_cpy
    rw [if_pos (by omega)]
    rw [show lev * (n * n) + ((lev + 1) * (n * n) + i * n + j - (lev + 1) * (n * n)) = lev * (n * n) + i * n + j by omega]
theorem g12_74_hn {n i : Nat} {x1 : Int32} (B : g12_74_B I n) (h1 : x1.toInt = i) (in_ : i < n) (h : Φ (some (.int 1), (xLay, I, L, kG12_74 R))) : sm_wp sm_P S d 250 0 [.ref 75, .int x1] [] (xLay, I, L, kG12_74 R) (0, 0) Φ := by
  refine pg12_74_X5_hasNode_0 ⟨fun a => ?_, fun _ => ⟨fun a => ?_, fun _ => h⟩⟩
  · have a := kl_lt.mp a
    rw [kl_0] at a; omega
  · have a := kl_le.mp a
    rw [B.1] at a
    omega
theorem g12_74_rc {n lev i j : Nat} {x1 x2 x3 : Int32} (B : g12_74_B I n) (hl : lev * (n * n) + n * n ≤ 7381) (l1 : lev ≤ 100) (h1 : x1.toInt = lev) (hi : x2.toInt = i) (hj : x3.toInt = j) (in_ : i < n) (jn : j < n) (h : Φ (some (.int (I 76 (tix n lev i j))), (xLay, I, L, kG12_74 R))) : sm_wp sm_P S (d + 1) 255 0 [.ref 75, .int x1, .int x2, .int x3] [] (xLay, I, L, kG12_74 R) (0, 0) Φ := by
  obtain ⟨b1, b2, b3, b4, b5⟩ := id B
  have nn : 1 ≤ n * n ∧ n * n ≤ 144 := ⟨Nat.mul_le_mul b2 b2, Nat.le_trans (Nat.mul_le_mul b3 b3) (by decide)⟩
  obtain ⟨m1, m2, m3⟩ := kl_lev (x := x1) (A := I 75 5) (by omega) (by omega) (by omega) (by omega)
  have k1 : (x1 * I 75 5).toInt = ((lev * (n * n) : Nat) : Int) := by rw [m1, h1, b4]; exact (Int.natCast_mul _ _).symm
  have rowi : i * n + n ≤ n * n := by
    have := Nat.mul_le_mul_right n (show i + 1 ≤ n by omega)
    rw [Nat.succ_mul] at this
    exact this
  have mi : (x2 * I 75 4).toInt = ((i * n : Nat) : Int) := by
    have := ml_mu hi b1 (by rw [← Int.natCast_mul]; omega) (by rw [← Int.natCast_mul]; omega)
    rw [this, Int.natCast_mul]
  refine pg12_74_X5_reach_0 (g12_74_hl B hl l1 h1 ⟨_, I, L, rfl, fun z => absurd z (by decide), fun _ => g12_74_hn B hi in_ ⟨_, I, L, rfl, fun z => absurd z (by decide), fun _ => g12_74_hn B hj jn ⟨_, I, L, rfl, fun z => absurd z (by decide), fun _ n10 e10 => ?_⟩⟩⟩)
  have q : n10.toInt = ((tix n lev i j : Nat) : Int) := by rw [e10]; unfold tix; exact (ml_ad (ml_ad k1 mi (by omega) (by omega)) hj (by omega) (by omega)).trans (by omega)
  rw [tk_nat q]
  exact ⟨kl_in (by omega) (by unfold tix at q; omega), h⟩
def g12_74_bv (a b : Nat) : Int32 := if a = 0 ∨ a = b then 0 else 1440
def g12_74_bf (n : Nat) (I J : sm_I) : Prop := ∀ p q, ¬ (p = 75 ∧ (q = 4 ∨ q = 5)) → ¬ (p = 76 ∧ q < n * n) → p ≠ 77 → p ≠ 78 → p ≠ 79 → J p q = I p q
def g12_74_bs (n : Nat) (I J : sm_I) (i j : Nat) : Prop := g12_74_bf n I J ∧ (J 75 4).toInt = n ∧ (J 75 5).toInt = ((n * n : Nat) : Int) ∧ (∀ a, a < i → J 77 a = Int32.ofNat a ∧ J 78 a = 0 ∧ J 79 a = 0) ∧ ∀ a b, a < n → b < n → (a < i ∧ (a + 1 < i ∨ b < j)) → J 76 (a * n + b) = g12_74_bv a b
theorem g12_74_bl {n : Nat} {x1 : Int32} (h1 : x1.toInt = n) (n1 : 1 ≤ n) (nw : n ≤ 11) (h : ∀ J, g12_74_bf n I J → g12_74_B J n → (∀ a, a < n → J 77 a = Int32.ofNat a ∧ J 78 a = 0 ∧ J 79 a = 0) → ttop n [] (g12_74_T J n 0) → Φ (none, (xLay, J, L, kG12_74 R))) : sm_wp sm_P S d 247 0 [.ref 75, .int x1] [] (xLay, I, L, kG12_74 R) (0, 0) Φ := by
  have nn : 1 ≤ n * n ∧ n * n ≤ 144 := ⟨Nat.mul_le_mul n1 n1, Nat.le_trans (Nat.mul_le_mul nw nw) (by decide)⟩
  have mm : (x1 * x1).toInt = ((n * n : Nat) : Int) := by
    have := ml_mu h1 h1 (by rw [← Int.natCast_mul]; omega) (by rw [← Int.natCast_mul]; omega)
    rw [this, Int.natCast_mul]
  have outer : ∀ (k i : Nat) (x2 : Int32) (J : sm_I), x2.toInt = i → i + k = n → g12_74_bs n I J i n → sm_wp sm_P S d 247 4 [.ref 75, .int x2] [] (xLay, J, L, kG12_74 R) (0, 0) Φ := by
    intro k
    induction k with
    | zero =>
      intro i x2 J h2 hk st
      obtain ⟨s1, s2, s3, s4, s5⟩ := st
      refine pg12_74_X5_blank_4 ⟨fun _ => h J s1 ⟨s2, n1, nw, s3, fun a ha => ?_⟩ (fun a ha => s4 a (by omega)) (ttop_eq (fun a b ha hb => ?_) (t_0 n)), fun a => ?_⟩
      · obtain ⟨g1, g2, g3⟩ := s4 a (by omega)
        rw [g1, g2, g3, Int32.toInt_ofNat_of_lt (by omega), kl_0]
        omega
      · unfold g12_74_T tix tD0
        rw [show 0 * (n * n) + a * n + b = a * n + b by omega, s5 a b ha hb (by omega)]
        unfold g12_74_bv
        split <;> decide
      · have a := kl_nle a
        omega
    | succ k ih =>
      intro i x2 J h2 hk st
      obtain ⟨s1, s2, s3, s4, s5⟩ := st
      have ss := ml_in1 (x := x2) (by omega)
      have p2 := tk_nat h2
      have v : vp_in x2 11 := kl_in (by omega) (by omega)
      have ex : x2 = Int32.ofNat i := en_ofI (by rw [h2, Int32.toInt_ofNat_of_lt (by omega)])
      have inner : ∀ (l j : Nat) (x3 : Int32) (J : sm_I), x3.toInt = j → j + l = n → g12_74_bs n I J (i + 1) j → sm_wp sm_P S d 247 6 [.ref 75, .int x2, .int x3] [] (xLay, J, L, kG12_74 R) (0, 0) Φ := by
        intro l
        induction l with
        | zero =>
          intro j x3 J h3 hl st
          have ej : j = n := by omega
          subst ej
          refine pg12_74_X5_blank_6 ⟨fun _ => ih (i + 1) _ J (by omega) (by omega) st, fun a => ?_⟩
          have a := kl_nle a
          rw [st.2.1] at a
          omega
        | succ l il =>
          intro j x3 J h3 hl st
          obtain ⟨s1, s2, s3, s4, s5⟩ := st
          have s33 := ml_in1 (x := x3) (by omega)
          have rowi : i * n + n ≤ n * n := by
            have := Nat.mul_le_mul_right n (show i + 1 ≤ n by omega)
            rw [Nat.succ_mul] at this
            exact this
          have mi : (x2 * J 75 4).toInt = ((i * n : Nat) : Int) := by
            have := ml_mu h2 s2 (by rw [← Int.natCast_mul]; omega) (by rw [← Int.natCast_mul]; omega)
            rw [this, Int.natCast_mul]
          have q : (x2 * J 75 4 + x3).toInt = ((i * n + j : Nat) : Int) := (ml_ad mi h3 (by omega) (by omega)).trans (by omega)
          have vq : vp_in (x2 * J 75 4 + x3) 7381 := kl_in (by omega) (by omega)
          have nx : ∀ (w : Int32) (I2 : sm_I), I2 = sm_up J 76 (x2 * J 75 4 + x3).toNatClampNeg w → w = g12_74_bv i j → sm_wp sm_P S d 247 6 [.ref 75, .int x2, .int (x3 + (1 : Int32))] [] (xLay, I2, L, kG12_74 R) (0, 0) Φ := fun w I2 e ew => by
            rw [tk_nat q] at e
            have o : ∀ p t, ¬ (p = 76 ∧ t = i * n + j) → I2 p t = J p t := fun p t hp => by rw [e, en_up_ne _ _ _ _ hp]
            refine il (j + 1) _ I2 (by omega) (by omega) ⟨fun p t a1 a2 a3 a4 a5 => (o p t (by omega)).trans (s1 p t a1 a2 a3 a4 a5), by rw [o _ _ (by omega)]; exact s2, by rw [o _ _ (by omega)]; exact s3, fun a ha => by rw [o _ _ (by omega), o _ _ (by omega), o _ _ (by omega)]; exact s4 a ha, fun a b ha hb hab => ?_⟩
            by_cases c : a = i ∧ b = j
            · rw [c.1, c.2, e, en_up_eq]; exact ew
            · have ne : a * n + b ≠ i * n + j := fun q => by
                have := (tix_inj (lev := 0) (lev' := 0) ha hb (show i < n by omega) (show j < n by omega) (by unfold tix; omega)).2
                exact c this
              rw [o _ _ (by omega)]
              exact s5 a b ha hb (by omega)
          refine pg12_74_X5_blank_6 ⟨fun a => ?_, fun _ => ⟨fun c => ⟨vq, fun I1 e => nx 0 I1 e ?_⟩, fun c => ⟨fun c2 => ⟨vq, fun I3 e => nx 0 I3 e ?_⟩, fun c2 => ⟨vq, fun I2 e => nx 1440 I2 e ?_⟩⟩⟩⟩
          · have a := kl_le.mp a
            rw [s2] at a
            omega
          · have : i = 0 := by rw [c, kl_0] at h2; omega
            exact (if_pos (Or.inl this)).symm
          · have : i = j := by rw [c2] at h2; omega
            exact (if_pos (Or.inr this)).symm
          · have i0 : i ≠ 0 := fun q => c (en_ofI (by rw [h2, q]; decide))
            have ij : i ≠ j := fun q => c2 (en_ofI (by rw [h2, h3, q]))
            exact (if_neg (by omega)).symm
      refine pg12_74_X5_blank_4 ⟨fun a => ?_, fun _ => ⟨v, fun I1 e1 => ⟨v, fun I2 e2 => ⟨v, fun I3 e3 => ?_⟩⟩⟩⟩
      · have a := kl_le.mp a
        rw [s2] at a
        omega
      rw [p2] at e1 e2 e3
      have o : ∀ p t, ¬ (t = i ∧ (p = 77 ∨ p = 78 ∨ p = 79)) → I3 p t = J p t := fun p t hp => by rw [e3, en_up_ne _ _ _ _ (by omega), e2, en_up_ne _ _ _ _ (by omega), e1, en_up_ne _ _ _ _ (by omega)]
      refine inner n 0 0 I3 (by decide) (by omega) ⟨fun p t a1 a2 a3 a4 a5 => (o p t (by omega)).trans (s1 p t a1 a2 a3 a4 a5), by rw [o _ _ (by omega)]; exact s2, by rw [o _ _ (by omega)]; exact s3, fun a ha => ?_, fun a b ha hb hab => by rw [o _ _ (by omega)]; exact s5 a b ha hb (by omega)⟩
      by_cases c : a = i
      · rw [c]
        refine ⟨?_, ?_, ?_⟩
        · rw [e3, en_up_ne _ _ _ _ (by omega), e2, en_up_ne _ _ _ _ (by omega), e1, en_up_eq]; exact ex
        · rw [e3, en_up_ne _ _ _ _ (by omega), e2, en_up_eq]
        · rw [e3, en_up_eq]
      · rw [o _ _ (by omega), o _ _ (by omega), o _ _ (by omega)]; exact s4 a (by omega)
  refine pg12_74_X5_blank_0 ⟨fun a => ?_, fun _ => ⟨fun _ I1 e1 => ?_, fun a => ?_⟩⟩
  · have a := kl_lt.mp a
    rw [kl_1] at a; omega
  · refine outer n 0 0 I1 (by decide) (by omega) ⟨fun p q a1 _ _ _ _ => by rw [e1, en_up_ne _ _ _ _ (by omega), en_up_ne _ _ _ _ (by omega)], by rw [e1, en_up_ne _ _ _ _ (by omega), en_up_eq]; exact h1, by rw [e1, en_up_eq]; exact mm, fun a ha => absurd ha (Nat.not_lt_zero a), fun a b _ _ hab => absurd hab.1 (Nat.not_lt_zero a)⟩
  · have a := kl_nle a
    rw [Int32.toInt_ofNat_of_lt (by decide)] at a
    omega
/-- both ways -/
theorem g12_74_bind {n lev i j : Nat} {x1 x2 x3 x4 x5 : Int32} {C : List tC} (B : g12_74_B I n) (hl : lev * (n * n) + n * n ≤ 7381) (l1 : lev ≤ 100) (h1 : x1.toInt = lev) (hi : (x2 + 1).toInt = i) (hj : (x3 + 1).toInt = j) (in_ : i < n) (jn : j < n) (a0 : -9000 ≤ x4.toInt) (a1 : x4.toInt ≤ 9000) (b0 : -9000 ≤ x5.toInt) (b1 : x5.toInt ≤ 9000) (T : ttop n C (g12_74_T I n lev)) (h : ∀ r J, g12_74_R lev n (bC (g12_74_hd I) i j x4.toInt x5.toInt ++ C) I r J → Φ (some (.int r), (xLay, J, L, kG12_74 R))) : sm_wp sm_P S (d + 2) 221 0 [.ref 74, .int x1, .int x2, .int x3, .int x4, .int x5] [] (xLay, I, L, kG12_74 R) (0, 0) Φ := by
  have na : (-x4).toInt = -x4.toInt := by rw [Int32.toInt_neg]; exact en_bmod (by omega) (by omega) (Or.inl rfl)
  refine pg12_74_X2_bind_0 (g12_74_tighten (d := d) B hl l1 h1 hi hj in_ jn (by omega) (by omega) T (fun r J q => ⟨r, J, L, rfl, ?_, ?_⟩))
  · intro r0
    obtain ⟨cg, ⟨-, q⟩ | ⟨r1, -⟩⟩ := q
    · exact h 0 J ⟨cg, Or.inl ⟨rfl, tno_cg (fun c hc => List.mem_cons_of_mem _ hc) q⟩⟩
    · rw [r0] at r1; exact absurd r1 (by decide)
  · intro r0
    obtain ⟨cg, ⟨r1, -⟩ | ⟨-, q⟩⟩ := q
    · exact absurd r1 r0
    · obtain ⟨Bj, ej⟩ := g12_74_Bc cg B
      refine g12_74_tighten (d := d) Bj hl l1 h1 hj hi jn in_ (by omega) (by omega) q (fun r2 J2 q2 => ⟨r2, J2, L, rfl, ?_, ?_⟩)
      · intro r0
        rw [na, ej] at q2
        obtain ⟨cg2, ⟨-, q2⟩ | ⟨r1, -⟩⟩ := q2
        · exact h 0 J2 ⟨g12_74_ct cg cg2, Or.inl ⟨rfl, q2⟩⟩
        · rw [r0] at r1; exact absurd r1 (by decide)
      · intro r0
        rw [na, ej] at q2
        obtain ⟨cg2, ⟨r1, -⟩ | ⟨-, q2⟩⟩ := q2
        · exact absurd r1 r0
        · exact h 1 J2 ⟨g12_74_ct cg cg2, Or.inr ⟨rfl, q2⟩⟩
end
