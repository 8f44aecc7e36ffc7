/-! the reference: copies of a table, the beginning -/
section
variable {S : sm_C} {d : Nat} {Φ : sm_Z → Prop} {I : sm_I} {L : sm_L} {R : sm_R}
theorem rx_copies {a b : Nat} {x1 x2 : Int32} (h1 : x1.toInt = a) (h2 : x2.toInt = b) (a70 : a ≤ 70) (b70 : b ≤ 70) (ne : a ≠ b) (h : ∀ J, chg b I J → (∀ q, q < 169 → J 143 (169 * b + q) = I 143 (169 * a + q)) → Φ (none, (xLay, J, L, kM R))) : sm_wp sm_P S d 116 0 [.ref 107, .int x1, .int x2] [] (xLay, I, L, kM R) (0, 0) Φ := by
  have c169 : (169 : Int32).toInt = 169 := by decide
  have m1 : ((169 : Int32) * x1).toInt = 169 * (a : Int) := ml_mu c169 h1 (by omega) (by omega)
  have m2 : ((169 : Int32) * x2).toInt = 169 * (b : Int) := ml_mu c169 h2 (by omega) (by omega)
  have lp : ∀ (k i : Nat) (x : Int32) (J : sm_I), x.toInt = i → i + k = 169 → chg b I J → (∀ q, q < i → J 143 (169 * b + q) = I 143 (169 * a + q)) → sm_wp sm_P S d 116 1 [.ref 107, .int x1, .int x2, .int x] [] (xLay, J, L, kM R) (0, 0) Φ := by
    intro k
    induction k with
    | zero =>
      intro i x J hx hk cg hq
      refine p_X12_copies_1 ⟨fun _ => h J cg (fun q h' => hq q (by omega)), fun z => ?_⟩
      have z := kl_nle z
      omega
    | succ k ih =>
      intro i x J hx hk cg hq
      have s1 := ml_in1 (x := x) (by omega)
      have q1 : ((169 : Int32) * x1 + x).toInt = ((169 * a + i : Nat) : Int) := (ml_ad m1 hx (by omega) (by omega)).trans (by omega)
      have q2 : ((169 : Int32) * x2 + x).toInt = ((169 * b + i : Nat) : Int) := (ml_ad m2 hx (by omega) (by omega)).trans (by omega)
      refine p_X12_copies_1 ⟨fun z => ?_, fun _ => ⟨kl_in (by omega) (by omega), fun n1 e1 => ⟨kl_in (by omega) (by omega), fun I2 e2 => ?_⟩⟩⟩
      · have z := kl_le.mp z
        omega
      rw [tk_nat q1, cg 143 _ (by omega)] at e1
      rw [tk_nat q2] at e2
      refine ih (i + 1) _ I2 (by omega) (by omega) (fun p j hp => by rw [e2, en_up_ne _ _ _ _ (by omega)]; exact cg p j hp) (fun q h' => ?_)
      by_cases e : q = i
      · rw [e, e2, en_up_eq, e1]
      · rw [e2, en_up_ne _ _ _ _ (by omega)]; exact hq q (by omega)
  exact p_X12_copies_0 (lp 169 0 0 I (by decide) (by omega) chg_0 (fun q h' => absurd h' (Nat.not_lt_zero q)))
theorem mT_cp {a b : Nat} {I J : sm_I} (h : ∀ q, q < 169 → J 143 (169 * b + q) = I 143 (169 * a + q)) {i j : Nat} (hi : i < 13) (hj : j < 13) : mT J b i j = mT I a i j := by
  unfold mT
  rw [show 169 * b + 13 * j + i = 169 * b + (13 * j + i) by omega, show 169 * a + 13 * j + i = 169 * a + (13 * j + i) by omega, h _ (by omega)]
theorem dv169 : ∀ i : Nat, i < 169 → ((Int32.ofNat i) / (13 : Int32)).toInt = ((i / 13 : Nat) : Int) ∧ ((Int32.ofNat i) - (Int32.ofNat i) / (13 : Int32) * (13 : Int32)).toInt = ((i % 13 : Nat) : Int) := by decide +kernel
/-- TIMES that nobody can choose, as constraints: soft a span, hard two bounds -/
def opC (I : sm_I) (l k : Nat) : List tC := if I 107 53 = 0 then spC I (rhd I l) k 0 else [(nd (I 131 k), 0, 1440 - (I 133 k).toInt), (0, nd (I 131 k), (I 132 k).toInt)]
def opL (I : sm_I) (l p : Nat) : Nat → List tC
  | 0 => []
  | m + 1 => opC I l (p + m) ++ opL I l p m
def moL (I : sm_I) (f : tC → tC) : Nat → List tC
  | 0 => []
  | m + 1 => bC f (nd (I 144 m)) (nd (I 145 m)) (I 146 m).toInt (I 147 m).toInt ++ moL I f m
theorem opC_cg {I J : sm_I} (h : chg 0 I J) (l k : Nat) : opC J l k = opC I l k := by
  unfold opC
  rw [h 107 53 (by omega), spC_cg h, rhd_cg h, h 131 k (by omega), h 132 k (by omega), h 133 k (by omega)]
theorem opL_cg {I J : sm_I} (h : chg 0 I J) (l p : Nat) : ∀ m, opL J l p m = opL I l p m := by
  intro m
  induction m with
  | zero => rfl
  | succ m ih =>
    show opC J l (p + m) ++ opL J l p m = opC I l (p + m) ++ opL I l p m
    rw [ih, opC_cg h]
theorem moL_cg {I J : sm_I} (h : chg 0 I J) (f : tC → tC) : ∀ m, moL J f m = moL I f m := by
  intro m
  induction m with
  | zero => rfl
  | succ m ih =>
    show bC f (nd (J 144 m)) (nd (J 145 m)) (J 146 m).toInt (J 147 m).toInt ++ moL J f m = bC f (nd (I 144 m)) (nd (I 145 m)) (I 146 m).toInt (I 147 m).toInt ++ moL I f m
    rw [ih, h 144 m (by omega), h 145 m (by omega), h 146 m (by omega), h 147 m (by omega)]
theorem opL_le {I : sm_I} {l p : Nat} {c : tC} : ∀ m m', m ≤ m' → c ∈ opL I l p m → c ∈ opL I l p m' := by
  intro m m' h hc
  obtain ⟨k, rfl⟩ : ∃ k, m' = m + k := ⟨m' - m, by omega⟩
  clear h
  induction k with
  | zero => exact hc
  | succ k ih => exact List.mem_append.mpr (Or.inr ih)
theorem moL_le {I : sm_I} {f : tC → tC} {c : tC} : ∀ m m', m ≤ m' → c ∈ moL I f m → c ∈ moL I f m' := by
  intro m m' h hc
  obtain ⟨k, rfl⟩ : ∃ k, m' = m + k := ⟨m' - m, by omega⟩
  clear h
  induction k with
  | zero => exact hc
  | succ k ih => exact List.mem_append.mpr (Or.inr ih)
/-- what holds always -/
def baC (I : sm_I) (l : Nat) : List tC := moL I (rhd I l) (I 107 54).toNatClampNeg ++ opL I l (240 + 4 * l) (I 134 l).toNatClampNeg
def mook (I : sm_I) (n k : Nat) : Prop := (0 ≤ (I 144 k).toInt ∧ (I 144 k).toInt + 1 < n) ∧ (-1 ≤ (I 145 k).toInt ∧ (I 145 k).toInt + 1 < n) ∧ (-1440 ≤ (I 146 k).toInt ∧ (I 146 k).toInt ≤ 1440) ∧ (-1440 ≤ (I 147 k).toInt ∧ (I 147 k).toInt ≤ 1440)
theorem rn_mo {K : sm_I} {n l M O : Nat} (B : rB0 K 0 n l) (h : ∀ r J, rR 0 n (moL K (rhd K l) M ++ opL K l (240 + 4 * l) O) K r J → Φ (some (.int r), (xLay, J, L, kM R))) (hM : (K 107 54).toInt = M) (M6 : M ≤ 6) (omK : ∀ k, k < M → mook K n k) (n12 : n ≤ 12) : ∀ (k i : Nat) (x2 x3 : Int32) (J : sm_I), x3.toInt = i → i + k = M → chg 0 K J → ((x2 = 0 ∧ tno n (moL K (rhd K l) M ++ opL K l (240 + 4 * l) O)) ∨ (x2 = 1 ∧ ttop n (moL K (rhd K l) i ++ opL K l (240 + 4 * l) O) (mT J 0))) → sm_wp sm_P S (d + 4) 103 19 [.ref 107, .int x2, .int x3] [] (xLay, J, L, kM R) (0, 0) Φ := by
  intro k
  induction k with
  | zero =>
    intro i x2 x3 J h3 hk cg T
    have e54 : J 107 54 = K 107 54 := cg 107 54 (by omega)
    have ei : i = M := by omega
    subst ei
    refine p_X12_begins_19 ⟨fun _ => ⟨?_, h x2 J ⟨cg, T⟩⟩, fun a => ?_⟩
    · rcases T with ⟨e, -⟩ | ⟨e, -⟩
      · exact Or.inl e
      · exact Or.inr e
    · have a := kl_nle a
      rw [e54] at a
      omega
  | succ k ih =>
    intro i x2 x3 J h3 hk cg T
    have e54 : J 107 54 = K 107 54 := cg 107 54 (by omega)
    have s3 := ml_in1 (x := x3) (by omega)
    have p3 := tk_nat h3
    have v : vp_in x3 6 := kl_in (by omega) (by omega)
    refine p_X12_begins_19 ⟨fun a => ?_, fun _ => ⟨fun e => ?_, fun e => ⟨v, v, v, v, ?_⟩⟩⟩
    · have a := kl_le.mp a
      rw [e54] at a
      omega
    · rcases T with ⟨-, T⟩ | ⟨e2, -⟩
      · exact ⟨Or.inl e, h x2 J ⟨cg, Or.inl ⟨e, T⟩⟩⟩
      · rw [e] at e2; exact absurd e2 (by decide)
    · rcases T with ⟨e2, -⟩ | ⟨-, T⟩
      · exact absurd e2 e
      obtain ⟨o1, o2, o3, o4⟩ := omK i (by omega)
      rw [p3, cg 144 i (by omega), cg 145 i (by omega), cg 146 i (by omega), cg 147 i (by omega)]
      intro n1 e1 n2 e2
      have q1 : n1.toInt = ((nd (K 144 i) : Nat) : Int) := by rw [e1, ml_in1 (by omega)]; unfold nd; omega
      have q2 : n2.toInt = ((nd (K 145 i) : Nat) : Int) := by rw [e2, ml_in1 (by omega)]; unfold nd; omega
      refine rx_between (d := d + 1) (rB0_cg cg B) q1 q2 (by unfold nd; omega) (by unfold nd; omega) (by omega) (by omega) (by omega) (by omega) T (fun r J2 z => ⟨r, J2, L, rfl, ?_⟩)
      rw [rhd_cg cg, ← List.append_assoc] at z
      obtain ⟨cg2, z⟩ := z
      refine ih (i + 1) r _ J2 (by omega) (by omega) (chg_t cg cg2) ?_
      rcases z with ⟨e, z⟩ | ⟨e, z⟩
      · refine Or.inl ⟨e, tno_cg (fun c hc => ?_) z⟩
        rcases List.mem_append.mp hc with hc | hc
        · exact List.mem_append.mpr (Or.inl (moL_le (i + 1) M (by omega) hc))
        · exact List.mem_append.mpr (Or.inr hc)
      · exact Or.inr ⟨e, z⟩
theorem rn_op {K : sm_I} {n l M O : Nat} (B : rB0 K 0 n l) (h : ∀ r J, rR 0 n (moL K (rhd K l) M ++ opL K l (240 + 4 * l) O) K r J → Φ (some (.int r), (xLay, J, L, kM R))) (hM : (K 107 54).toInt = M) (M6 : M ≤ 6) (omK : ∀ k, k < M → mook K n k) (n1 : 1 ≤ n) (n12 : n ≤ 12) (hO : (K 134 l).toInt = O) (O4 : O ≤ 4) (okK : ∀ k, k < O → sspk K n (240 + 4 * l + k)) (l1 : l ≤ 1) : ∀ (k i : Nat) (x2 x3 : Int32) (J : sm_I), x3.toInt = ((240 + 4 * l + i : Nat) : Int) → i + k = O → chg 0 K J → ((x2 = 0 ∧ tno n (opL K l (240 + 4 * l) O)) ∨ (x2 = 1 ∧ ttop n (opL K l (240 + 4 * l) i) (mT J 0))) → sm_wp sm_P S (d + 4) 103 8 [.ref 107, .int x2, .int x3] [] (xLay, J, L, kM R) (0, 0) Φ := by
  have mo := rn_mo (d := d) (S := S) (L := L) (R := R) B h hM M6 omK n12
  -- behind a failure
  have bad : ∀ J, chg 0 K J → tno n (opL K l (240 + 4 * l) O) → sm_wp sm_P S (d + 4) 103 19 [.ref 107, .int 0, .int 0] [] (xLay, J, L, kM R) (0, 0) Φ := fun J cg z => mo M 0 0 0 J (by decide) (by omega) cg (Or.inl ⟨rfl, tno_cg (fun c hc => List.mem_append.mpr (Or.inr hc)) z⟩)
  have c240 : (240 : Int32).toInt = 240 := by decide
  have c4 : (4 : Int32).toInt = 4 := by decide
  have c1440 : (1440 : Int32).toInt = 1440 := by decide
  have hlK : (K 107 18).toInt = l := B.2.2.2.2.1
  intro k
  induction k with
  | zero =>
    intro i x2 x3 J h3 hk cg T
    have e18 : J 107 18 = K 107 18 := cg 107 18 (by omega)
    have e134 : J 134 l = K 134 l := cg 134 l (by omega)
    have nl : (J 107 18).toNatClampNeg = l := tk_nat (by rw [e18]; exact hlK)
    have m : ((4 : Int32) * J 107 18).toInt = 4 * (l : Int) := ml_mu c4 (by rw [e18]; exact hlK) (by omega) (by omega)
    have s := ml_ad (ml_ad c240 m (by omega) (by omega)) hO (by omega) (by omega)
    have ei : i = O := by omega
    subst ei
    refine p_X12_begins_8 ⟨kl_in (by rw [e18]; omega) (by rw [e18]; omega), ?_⟩
    rw [nl, e134]
    refine ⟨fun _ => ?_, fun a => ?_⟩
    · rcases T with ⟨e, T⟩ | ⟨e, T⟩
      · rw [e]; exact bad J cg T
      · rw [e]; exact mo M 0 1 0 J (by decide) (by omega) cg (Or.inr ⟨rfl, T⟩)
    · have a := kl_nle a
      rw [s] at a
      omega
  | succ k ih =>
    intro i x2 x3 J h3 hk cg T
    have e18 : J 107 18 = K 107 18 := cg 107 18 (by omega)
    have e134 : J 134 l = K 134 l := cg 134 l (by omega)
    have nl : (J 107 18).toNatClampNeg = l := tk_nat (by rw [e18]; exact hlK)
    have m : ((4 : Int32) * J 107 18).toInt = 4 * (l : Int) := ml_mu c4 (by rw [e18]; exact hlK) (by omega) (by omega)
    have s := ml_ad (ml_ad c240 m (by omega) (by omega)) hO (by omega) (by omega)
    have s3 := ml_in1 (x := x3) (by omega)
    have p3 := tk_nat h3
    have v : vp_in x3 260 := kl_in (by omega) (by omega)
    have sp := okK i (by omega)
    refine p_X12_begins_8 ⟨kl_in (by rw [e18]; omega) (by rw [e18]; omega), ?_⟩
    rw [nl, e134]
    refine ⟨fun a => ?_, fun _ => ⟨fun e => ?_, fun e => ?_⟩⟩
    · have a := kl_le.mp a
      rw [s] at a
      omega
    · rcases T with ⟨-, T⟩ | ⟨e2, -⟩
      · rw [e]; exact bad J cg T
      · rw [e] at e2; exact absurd e2 (by decide)
    rcases T with ⟨e2, -⟩ | ⟨-, T⟩
    · exact absurd e2 e
    refine ⟨fun z => ?_, fun z => ⟨v, v, ?_⟩⟩
    · refine rx_holds (d := d) (rB0_cg cg B) h3 (sspk_cg cg sp) (by decide) (by decide) T (fun r J2 q => ⟨r, J2, L, rfl, ?_⟩)
      obtain ⟨cg2, q⟩ := q
      have eC : spC J (rhd J l) (240 + 4 * l + i) (0 : Int32).toInt ++ opL K l (240 + 4 * l) i = opL K l (240 + 4 * l) (i + 1) := by
        show _ = opC K l (240 + 4 * l + i) ++ opL K l (240 + 4 * l) i
        unfold opC
        rw [if_pos (by rw [← cg 107 53 (by omega)]; exact z), rhd_cg cg, spC_cg cg, kl_0]
      rw [eC] at q
      refine ih (i + 1) r _ J2 (by omega) (by omega) (chg_t cg cg2) ?_
      rcases q with ⟨e, q⟩ | ⟨e, q⟩
      · exact Or.inl ⟨e, tno_cg (fun c hc => opL_le (i + 1) O (by omega) hc) q⟩
      · exact Or.inr ⟨e, q⟩
    · obtain ⟨o0, o1, o2, o3, o4⟩ := sp
      have Bj := rB0_cg cg B
      rw [p3, cg 131 _ (by omega), cg 132 _ (by omega)]
      intro n5 e5
      have q5 : n5.toInt = ((nd (K 131 (240 + 4 * l + i)) : Nat) : Int) := by rw [e5, ml_in1 (by omega)]; unfold nd; omega
      have nz : K 107 53 ≠ 0 := fun q => z (by rw [cg 107 53 (by omega)]; exact q)
      have eC : opL K l (240 + 4 * l) (i + 1) = (nd (K 131 (240 + 4 * l + i)), 0, 1440 - (K 133 (240 + 4 * l + i)).toInt) :: (0, nd (K 131 (240 + 4 * l + i)), (K 132 (240 + 4 * l + i)).toInt) :: opL K l (240 + 4 * l) i := by
        show opC K l (240 + 4 * l + i) ++ opL K l (240 + 4 * l) i = _
        unfold opC
        rw [if_neg nz]; rfl
      have up1 : ∀ J2 : sm_I, tno n ((0, nd (K 131 (240 + 4 * l + i)), (K 132 (240 + 4 * l + i)).toInt) :: opL K l (240 + 4 * l) i) → tno n (opL K l (240 + 4 * l) O) := fun _ q => tno_cg (fun c hc => opL_le (i + 1) O (by omega) (by rw [eC]; exact List.mem_cons_of_mem _ hc)) q
      refine rx_bound (j := nd (K 131 (240 + 4 * l + i))) (i := 0) Bj.1 (by decide) Bj.2.2.1 (by omega) q5 kl_0 (by unfold nd; omega) (by omega) (by omega) (by omega) T (fun q => ⟨_, J, L, rfl, fun _ => ih (i + 1) 0 _ J (by omega) (by omega) cg (Or.inl ⟨rfl, up1 J q⟩), fun y => absurd rfl y⟩) (fun J2 cg2 q => ⟨_, J2, L, rfl, fun y => absurd y (by decide), fun _ => ⟨v, v, ?_⟩⟩)
      have cgt := chg_t cg cg2
      have Bj2 := rB0_cg cgt B
      rw [cgt 131 _ (by omega), cgt 133 _ (by omega)]
      intro n9 e9 n10 e10
      have q9 : n9.toInt = ((nd (K 131 (240 + 4 * l + i)) : Nat) : Int) := by rw [e9, ml_in1 (by omega)]; unfold nd; omega
      have q10 : n10.toInt = 1440 - (K 133 (240 + 4 * l + i)).toInt := by rw [e10, Int32.toInt_sub, c1440]; exact en_bmod (by omega) (by omega) (Or.inl rfl)
      refine rx_bound (j := 0) (i := nd (K 131 (240 + 4 * l + i))) Bj2.1 (by decide) Bj2.2.2.1 (by omega) kl_0 q9 (by omega) (by unfold nd; omega) (by omega) (by omega) q (fun q2 => ⟨_, J2, L, rfl, fun _ => ih (i + 1) 0 _ J2 (by omega) (by omega) cgt (Or.inl ⟨rfl, ?_⟩), fun y => absurd rfl y⟩) (fun J3 cg3 q2 => ⟨_, J3, L, rfl, fun y => absurd y (by decide), fun _ => ih (i + 1) 1 _ J3 (by omega) (by omega) (chg_t cgt cg3) (Or.inr ⟨rfl, ?_⟩)⟩)
      · rw [q10] at q2
        exact tno_cg (fun c hc => opL_le (i + 1) O (by omega) (by rw [eC]; exact hc)) q2
      · rw [q10] at q2
        rw [eC]; exact q2
theorem rn_bl {K : sm_I} {n l M O : Nat} (B : rB0 K 0 n l) (h : ∀ r J, rR 0 n (moL K (rhd K l) M ++ opL K l (240 + 4 * l) O) K r J → Φ (some (.int r), (xLay, J, L, kM R))) (hM : (K 107 54).toInt = M) (M6 : M ≤ 6) (omK : ∀ k, k < M → mook K n k) (n1 : 1 ≤ n) (n12 : n ≤ 12) (hO : (K 134 l).toInt = O) (O4 : O ≤ 4) (okK : ∀ k, k < O → sspk K n (240 + 4 * l + k)) (l1 : l ≤ 1) : ∀ (k i : Nat) (x2 : Int32) (J : sm_I), x2.toInt = i → i + k = 169 → chg 0 K J → (∀ q, q < i → J 143 q = if q / 13 = q % 13 ∨ q % 13 = 0 then 0 else 1440) → sm_wp sm_P S (d + 4) 103 1 [.ref 107, .int x2] [] (xLay, J, L, kM R) (0, 0) Φ := by
  have op := rn_op (d := d) (S := S) (L := L) (R := R) B h hM M6 omK n1 n12 hO O4 okK l1
  have c240 : (240 : Int32).toInt = 240 := by decide
  have c4 : (4 : Int32).toInt = 4 := by decide
  have c1440 : (1440 : Int32).toInt = 1440 := by decide
  have hlK : (K 107 18).toInt = l := B.2.2.2.2.1
  have c169 : (169 : Int32).toInt = 169 := by decide
  intro k
  induction k with
  | zero =>
    intro i x2 J h2 hk cg hq
    refine p_X12_begins_1 ⟨fun _ n1 e1 => ?_, fun a => ?_⟩
    · have e18 : J 107 18 = K 107 18 := cg 107 18 (by omega)
      have m : ((4 : Int32) * J 107 18).toInt = 4 * (l : Int) := ml_mu c4 (by rw [e18]; exact hlK) (by omega) (by omega)
      refine op O 0 1 n1 J (by rw [e1, ml_ad c240 m (by omega) (by omega)]; omega) (by omega) cg (Or.inr ⟨rfl, ttop_eq (fun a b ha hb => ?_) (t_0 n)⟩)
      unfold mT tD0
      rw [hq _ (by omega)]
      have d1 : (169 * 0 + 13 * b + a) / 13 = b := by omega
      have d2 : (169 * 0 + 13 * b + a) % 13 = a := by omega
      rw [d1, d2]
      by_cases c : b = a ∨ a = 0
      · rw [if_pos c, if_pos (by omega)]; decide
      · rw [if_neg c, if_neg (by omega)]; decide
    · have a := kl_nle a
      omega
  | succ k ih =>
    intro i x2 J h2 hk cg hq
    have s2 := ml_in1 (x := x2) (by omega)
    have ex : x2 = Int32.ofNat i := en_ofI (by rw [h2, Int32.toInt_ofNat_of_lt (by omega)])
    have p2 := tk_nat h2
    obtain ⟨d1, d2⟩ := dv169 i (by omega)
    rw [← ex] at d1 d2
    have v : vp_in x2 12000 := kl_in (by omega) (by omega)
    have nz : ¬ (13 : Int32) = 0 := by decide
    have nx : ∀ (w : Int32) (I2 : sm_I), I2 = sm_up J 143 x2.toNatClampNeg w → (w = if i / 13 = i % 13 ∨ i % 13 = 0 then 0 else 1440) → sm_wp sm_P S (d + 4) 103 1 [.ref 107, .int (x2 + (1 : Int32))] [] (xLay, I2, L, kM R) (0, 0) Φ := fun w I2 e ew => by
      rw [p2] at e
      refine ih (i + 1) _ I2 (by omega) (by omega) (fun p j hp => by rw [e, en_up_ne _ _ _ _ (by omega)]; exact cg p j hp) (fun q hq' => ?_)
      by_cases c : q = i
      · rw [c, e, en_up_eq]; exact ew
      · rw [e, en_up_ne _ _ _ _ (by omega)]; exact hq q (by omega)
    refine p_X12_begins_1 ⟨fun a => ?_, fun _ => ⟨nz, nz, fun c => ⟨v, fun I2 e => nx 0 I2 e ?_⟩, fun c => ⟨nz, fun c2 => ⟨v, fun I4 e => nx 0 I4 e ?_⟩, fun c2 => ⟨v, fun I3 e => nx 1440 I3 e ?_⟩⟩⟩⟩
    · have a := kl_le.mp a
      omega
    · have c := congrArg Int32.toInt c
      rw [d1, d2] at c
      rw [if_pos (Or.inl (by omega))]
    · have c2 := congrArg Int32.toInt c2
      rw [d2, kl_0] at c2
      rw [if_pos (Or.inr (by omega))]
    · have n1 : i / 13 ≠ i % 13 := fun q => c (en_ofI (by rw [d1, d2, q]))
      have n2 : i % 13 ≠ 0 := fun q => c2 (en_ofI (by rw [d2, q]; decide))
      rw [if_neg (by omega)]
def kfr (I K : sm_I) : Prop := ∀ p j, ¬ (p = 107 ∧ (j = 51 ∨ j = 52)) → K p j = I p j
theorem k_oA {I K : sm_I} (ko : kfr I K) (l i : Nat) : oA K l i = oA I l i := by
  unfold oA
  rw [ko 122 l (by omega), ko 135 _ (by omega)]
theorem k_su {I K : sm_I} (ko : kfr I K) (l i : Nat) : su K l i = su I l i ∧ fa K l i = fa I l i ∧ na K l i = na I l i := by
  unfold su fa na
  rw [k_oA ko, ko 131 _ (by omega), ko 132 _ (by omega), ko 133 _ (by omega)]
  exact ⟨rfl, rfl, rfl⟩
theorem k_rh {I K : sm_I} (ko : kfr I K) (l : Nat) : rhd K l = rhd I l := by
  funext c
  unfold rhd
  rw [ko 107 53 (by omega), (k_su ko l c.1).1, (k_su ko l c.2.1).1, (k_su ko l c.1).2.1, (k_su ko l c.2.1).2.2]
theorem k_sp {I K : sm_I} (ko : kfr I K) (f : tC → tC) (p : Nat) (g : Int) : spC K f p g = spC I f p g := by
  unfold spC
  rw [ko 130 p (by omega), ko 131 p (by omega), ko 132 p (by omega), ko 133 p (by omega)]
theorem k_op {I K : sm_I} (ko : kfr I K) (l p : Nat) : opC K l p = opC I l p := by
  unfold opC
  rw [k_sp ko, k_rh ko, ko 107 53 (by omega), ko 131 p (by omega), ko 132 p (by omega), ko 133 p (by omega)]
theorem k_opL {I K : sm_I} (ko : kfr I K) (l p : Nat) : ∀ m, opL K l p m = opL I l p m := by
  intro m
  induction m with
  | zero => rfl
  | succ m ih =>
    show opC K l (p + m) ++ opL K l p m = opC I l (p + m) ++ opL I l p m
    rw [ih, k_op ko]
theorem k_moL {I K : sm_I} (ko : kfr I K) (f : tC → tC) : ∀ m, moL K f m = moL I f m := by
  intro m
  induction m with
  | zero => rfl
  | succ m ih =>
    show bC f (nd (K 144 m)) (nd (K 145 m)) (K 146 m).toInt (K 147 m).toInt ++ moL K f m = bC f (nd (I 144 m)) (nd (I 145 m)) (I 146 m).toInt (I 147 m).toInt ++ moL I f m
    rw [ih, ko 144 m (by omega), ko 145 m (by omega), ko 146 m (by omega), ko 147 m (by omega)]
theorem k_ho {I K : sm_I} {l n : Nat} (ko : kfr I K) (H : hok I l n) : hok K l n := by
  rcases H with e | e
  · exact Or.inl (by rw [ko 107 53 (by omega)]; exact e)
  · refine Or.inr (fun i hi => ?_)
    rw [(k_su ko l i).1, (k_su ko l i).2.1, (k_su ko l i).2.2, k_oA ko, ko 131 _ (by omega)]
    exact e i hi
theorem k_sk {I K : sm_I} {n p : Nat} (ko : kfr I K) (k : sspk I n p) : sspk K n p := by
  unfold sspk at k ⊢
  rw [ko 130 p (by omega), ko 131 p (by omega), ko 132 p (by omega), ko 133 p (by omega)]; exact k
theorem k_mo {I K : sm_I} {n p : Nat} (ko : kfr I K) (k : mook I n p) : mook K n p := by
  unfold mook at k ⊢
  rw [ko 144 p (by omega), ko 145 p (by omega), ko 146 p (by omega), ko 147 p (by omega)]; exact k
theorem rn_K {n l : Nat} {x : Int32} {K : sm_I} (eK : K = sm_up (sm_up I 107 51 x) 107 52 0) (hx : x.toInt = n) (n12 : n ≤ 12) (hl : (I 107 18).toInt = l) (l1 : l ≤ 1) (bt : 0 ≤ (I 122 l).toInt ∧ (I 122 l).toInt ≤ 10) (H : hok I l n) : kfr I K ∧ rB0 K 0 n l := by
  have ko : kfr I K := fun p j a => by rw [eK, en_up_ne _ _ _ _ (by omega), en_up_ne _ _ _ _ (by omega)]
  have k51 : K 107 51 = x := by rw [eK, en_up_ne _ _ _ _ (by omega), en_up_eq]
  have k52 : K 107 52 = 0 := by rw [eK, en_up_eq]
  have z : (K 107 52).toInt = ((0 : Nat) : Int) := by rw [k52, kl_0]; rfl
  exact ⟨ko, z, Nat.zero_le _, by rw [k51]; exact hx, n12, by rw [ko 107 18 (by omega)]; exact hl, l1, by rw [ko 122 l (by omega)]; exact bt, k_ho ko H⟩
theorem k_ba {I K : sm_I} {l : Nat} (ko : kfr I K) : baC I l = moL K (rhd K l) (K 107 54).toNatClampNeg ++ opL K l (240 + 4 * l) (K 134 l).toNatClampNeg := by
  unfold baC
  rw [k_rh ko, k_moL ko, k_opL ko, ko 107 54 (by omega), ko 134 l (by omega)]
theorem rx_begins {n l : Nat} {x : Int32} (hx : x.toInt = n) (n1 : 1 ≤ n) (n12 : n ≤ 12) (hl : (I 107 18).toInt = l) (l1 : l ≤ 1) (bt : 0 ≤ (I 122 l).toInt ∧ (I 122 l).toInt ≤ 10) (H : hok I l n) (bo : 0 ≤ (I 134 l).toInt ∧ (I 134 l).toInt ≤ 4) (ok : ∀ k, k < (I 134 l).toNatClampNeg → sspk I n (240 + 4 * l + k)) (bm : 0 ≤ (I 107 54).toInt ∧ (I 107 54).toInt ≤ 6) (om : ∀ k, k < (I 107 54).toNatClampNeg → mook I n k) (h : ∀ r J, rR 0 n (baC I l) (sm_up (sm_up I 107 51 x) 107 52 0) r J → Φ (some (.int r), (xLay, J, L, kM R))) : sm_wp sm_P S (d + 4) 103 0 [.ref 107, .int x] [] (xLay, I, L, kM R) (0, 0) Φ := by
  obtain ⟨K, eK⟩ : ∃ K, K = sm_up (sm_up I 107 51 x) 107 52 0 := ⟨_, rfl⟩
  rw [← eK] at h
  obtain ⟨ko, B⟩ := rn_K eK hx n12 hl l1 bt H
  have bae := k_ba (l := l) ko
  have z1 : K 107 54 = I 107 54 := ko 107 54 (by omega)
  have z2 : K 134 l = I 134 l := ko 134 l (by omega)
  have okK : ∀ k, k < (K 134 l).toNatClampNeg → sspk K n (240 + 4 * l + k) := fun k hk => by
    rw [z2] at hk
    exact k_sk ko (ok k hk)
  have omK : ∀ k, k < (K 107 54).toNatClampNeg → mook K n k := fun k hk => by
    rw [z1] at hk
    exact k_mo ko (om k hk)
  have nm := kl_nat bm.1
  have no := kl_nat bo.1
  rw [bae] at h
  have bmK : (K 107 54).toInt = (I 107 54).toInt := by rw [z1]
  have boK : (K 134 l).toInt = (I 134 l).toInt := by rw [z2]
  obtain ⟨M, eM⟩ : ∃ M, M = (K 107 54).toNatClampNeg := ⟨_, rfl⟩
  obtain ⟨O, eO⟩ : ∃ O, O = (K 134 l).toNatClampNeg := ⟨_, rfl⟩
  have hM : (K 107 54).toInt = M := by rw [eM, z1]; exact nm.symm
  have hO : (K 134 l).toInt = O := by rw [eO, z2]; exact no.symm
  rw [← eM] at h omK
  rw [← eO] at h okK
  have M6 : M ≤ 6 := by omega
  have O4 : O ≤ 4 := by omega
  have bl := rn_bl (d := d) (S := S) (L := L) (R := R) B h hM M6 omK n1 n12 hO O4 okK l1
  exact p_X12_begins_0 (fun I1 e1 => by
    rw [e1, ← eK]
    exact bl 169 0 0 K (by decide) (by omega) chg_0 (fun q hq => absurd hq (Nat.not_lt_zero q)))
end
