/-! the reference's choices as constraints on the table -/
section
variable {S : sm_C} {d : Nat} {Φ : sm_Z → Prop} {I : sm_I} {L : sm_L} {R : sm_R}
def rR (pg n : Nat) (C : List tC) (I : sm_I) (r : Int32) (J : sm_I) : Prop := chg pg I J ∧ ((r = 0 ∧ tno n C) ∨ (r = 1 ∧ ttop n C (mT J pg)))
def oA (I : sm_I) (l i : Nat) : Int32 := if i = 0 ∨ (I 122 l).toInt < i then -1 else I 135 (10 * l + i - 1)
def su (I : sm_I) (l i : Nat) : Nat := if oA I l i = -1 then i else (I 131 (oA I l i).toNatClampNeg).toNatClampNeg + 1
def fa (I : sm_I) (l i : Nat) : Int := if oA I l i = -1 then 0 else (I 133 (oA I l i).toNatClampNeg).toInt
def na (I : sm_I) (l i : Nat) : Int := if oA I l i = -1 then 0 else (I 132 (oA I l i).toNatClampNeg).toInt
def rhd (I : sm_I) (l : Nat) (c : tC) : tC := if I 107 53 = 0 ∨ c.1 = c.2.1 then c else (su I l c.1, su I l c.2.1, c.2.2 - fa I l c.1 + na I l c.2.1)
def hok (I : sm_I) (l n : Nat) : Prop := I 107 53 = 0 ∨ ∀ i, i < n → su I l i < n ∧ (-1440 ≤ fa I l i ∧ fa I l i ≤ 1440) ∧ (-1440 ≤ na I l i ∧ na I l i ≤ 1440) ∧ (oA I l i = -1 ∨ ((0 ≤ (oA I l i).toInt ∧ (oA I l i).toInt < 260) ∧ 0 ≤ (I 131 (oA I l i).toNatClampNeg).toInt))
/-- what a call needs of the reference -/
def rB0 (I : sm_I) (pg n l : Nat) : Prop := (I 107 52).toInt = pg ∧ pg ≤ 69 ∧ (I 107 51).toInt = n ∧ n ≤ 12 ∧ (I 107 18).toInt = l ∧ l ≤ 1 ∧ (0 ≤ (I 122 l).toInt ∧ (I 122 l).toInt ≤ 10) ∧ hok I l n
theorem oA_cg {pg : Nat} {I J : sm_I} (h : chg pg I J) (l i : Nat) : oA J l i = oA I l i := by
  unfold oA
  rw [h 122 l (by omega), h 135 _ (by omega)]
theorem su_cg {pg : Nat} {I J : sm_I} (h : chg pg I J) (l i : Nat) : su J l i = su I l i ∧ fa J l i = fa I l i ∧ na J l i = na I l i := by
  unfold su fa na
  rw [oA_cg h, h 131 _ (by omega), h 132 _ (by omega), h 133 _ (by omega)]
  exact ⟨rfl, rfl, rfl⟩
theorem rhd_cg {pg : Nat} {I J : sm_I} (h : chg pg I J) (l : Nat) : rhd J l = rhd I l := by
  funext c
  unfold rhd
  rw [h 107 53 (by omega), (su_cg h l c.1).1, (su_cg h l c.2.1).1, (su_cg h l c.1).2.1, (su_cg h l c.2.1).2.2]
theorem rB0_cg {pg n l : Nat} {I J : sm_I} (h : chg pg I J) (b : rB0 I pg n l) : rB0 J pg n l := by
  obtain ⟨b1, b2, b3, b4, b5, b6, b7, b8⟩ := b
  refine ⟨by rw [h 107 52 (by omega)]; exact b1, b2, by rw [h 107 51 (by omega)]; exact b3, b4, by rw [h 107 18 (by omega)]; exact b5, b6, by rw [h 122 l (by omega)]; exact b7, ?_⟩
  rcases b8 with e | e
  · exact Or.inl (by rw [h 107 53 (by omega)]; exact e)
  · refine Or.inr (fun i hi => ?_)
    rw [(su_cg h l i).1, (su_cg h l i).2.1, (su_cg h l i).2.2, oA_cg h, h 131 _ (by omega)]
    exact e i hi
theorem rx_openAt {x : Int32} {i l : Nat} (hx : x.toInt = i) (hl : (I 107 18).toInt = l) (l1 : l ≤ 1) (b : 0 ≤ (I 122 l).toInt ∧ (I 122 l).toInt ≤ 10) (h : Φ (some (.int (oA I l i)), (xLay, I, L, kM R))) : sm_wp sm_P S d 171 0 [.ref 107, .int x] [] (xLay, I, L, kM R) (0, 0) Φ := by
  have nl := tk_nat hl
  have c10 : (10 : Int32).toInt = 10 := by decide
  refine p_X12_openAt_0 ⟨fun e => ?_, fun e => ⟨kl_in (by omega) (by omega), ?_⟩⟩
  · rw [e] at hx
    have : oA I l i = -1 := if_pos (Or.inl (by rw [kl_0] at hx; omega))
    rw [this] at h; exact h
  · rw [nl]
    have i0 : i ≠ 0 := fun q => e (en_ofI (by rw [hx, q]; decide))
    refine ⟨fun a n1 e1 => ?_, fun a => ?_⟩
    · have a := kl_le.mp a
      have m : ((10 : Int32) * I 107 18).toInt = 10 * (l : Int) := ml_mu c10 hl (by omega) (by omega)
      have s : ((10 : Int32) * I 107 18 + x).toInt = 10 * (l : Int) + i := ml_ad m hx (by omega) (by omega)
      have s1 : n1.toInt = ((10 * l + i - 1 : Nat) : Int) := by
        rw [e1, Int32.toInt_sub, kl_1, s]
        exact en_bmod (by omega) (by omega) (Or.inl (by omega))
      refine ⟨kl_in (by omega) (by omega), ?_⟩
      rw [tk_nat s1]
      have : oA I l i = I 135 (10 * l + i - 1) := if_neg (by omega)
      rw [this] at h; exact h
    · have a := kl_nle a
      have : oA I l i = -1 := if_pos (Or.inr (by omega))
      rw [this] at h; exact h
theorem rx_atMost {pg n i j l : Nat} {x1 x2 w : Int32} {C : List tC} (B : rB0 I pg n l) (hj : x1.toInt = j) (hi : x2.toInt = i) (jn : j < n) (in_ : i < n) (w0 : -110000 ≤ w.toInt) (w1 : w.toInt ≤ 110000) (T : ttop n C (mT I pg)) (h : ∀ r J, rR pg n (rhd I l (i, j, w.toInt) :: C) I r J → Φ (some (.int r), (xLay, J, L, kM R))) : sm_wp sm_P S (d + 1) 98 0 [.ref 107, .int x1, .int x2, .int w] [] (xLay, I, L, kM R) (0, 0) Φ := by
  obtain ⟨b1, b2, b3, b4, b5, b6, b7, b8⟩ := B
  refine p_X12_atMost_0 ⟨fun e => ?_, fun e => ⟨fun e2 => ?_, fun e2 => ?_⟩⟩
  · have er : rhd I l (i, j, w.toInt) = (i, j, w.toInt) := if_pos (Or.inl e)
    rw [er] at h
    exact rx_bound b1 b2 b3 (by omega) hj hi jn in_ (by omega) (by omega) T (fun q => ⟨_, I, L, rfl, Or.inl rfl, h 0 I ⟨chg_0, Or.inl ⟨rfl, q⟩⟩⟩) (fun J cg q => ⟨_, J, L, rfl, Or.inr rfl, h 1 J ⟨cg, Or.inr ⟨rfl, q⟩⟩⟩)
  · have eij : i = j := by rw [e2] at hj; omega
    have er : rhd I l (i, j, w.toInt) = (i, j, w.toInt) := if_pos (Or.inr eij)
    rw [er] at h
    exact rx_bound b1 b2 b3 (by omega) hj hi jn in_ (by omega) (by omega) T (fun q => ⟨_, I, L, rfl, Or.inl rfl, h 0 I ⟨chg_0, Or.inl ⟨rfl, q⟩⟩⟩) (fun J cg q => ⟨_, J, L, rfl, Or.inr rfl, h 1 J ⟨cg, Or.inr ⟨rfl, q⟩⟩⟩)
  · have nij : i ≠ j := fun q => e2 (en_ofI (by rw [hj, hi, q]))
    have er : rhd I l (i, j, w.toInt) = (su I l i, su I l j, w.toInt - fa I l i + na I l j) := if_neg (by rintro (q | q); exact e q; exact nij q)
    rw [er] at h
    have H := b8.resolve_left e
    obtain ⟨i1, i2, -, i4⟩ := H i in_
    obtain ⟨j1, -, j3, j4⟩ := H j jn
    have fin : ∀ s1 s2 n6 : Int32, s1.toInt = su I l j → s2.toInt = su I l i → n6.toInt = w.toInt - fa I l i + na I l j → sm_wp sm_P S (d + 1) 98 15 [.int n6] [.int s2, .int s1, .ref 107] (xLay, I, L, kM R) (0, 0) Φ := fun s1 s2 n6 e1 e2 e3 => by
      refine p_X12_atMost_15 (rx_bound b1 b2 b3 (by omega) e1 e2 j1 i1 (by omega) (by omega) T (fun q => ⟨_, I, L, rfl, Or.inl rfl, h 0 I ⟨chg_0, Or.inl ⟨rfl, ?_⟩⟩⟩) (fun J cg q => ⟨_, J, L, rfl, Or.inr rfl, h 1 J ⟨cg, Or.inr ⟨rfl, ?_⟩⟩⟩))
      · rw [e3] at q; exact q
      · rw [e3] at q; exact q
    have f12 : ∀ s1 n6 : Int32, s1.toInt = su I l j → n6.toInt = w.toInt - fa I l i + na I l j → sm_wp sm_P S (d + 1) 98 12 [.ref 107, .int x2, .int (oA I l i), .int n6] [.int s1, .ref 107] (xLay, I, L, kM R) (0, 0) Φ := fun s1 n6 e1 e3 => by
      refine p_X12_atMost_12 ⟨fun q => fin s1 x2 n6 e1 ?_ e3, fun q => ?_⟩
      · have : su I l i = i := if_pos q
        rw [this]; exact hi
      · have k := i4.resolve_left q
        have b9 : (I 131 (oA I l i).toNatClampNeg).toInt < 100 := by
          have : su I l i = (I 131 (oA I l i).toNatClampNeg).toNatClampNeg + 1 := if_neg q
          have := kl_nat k.2
          omega
        refine ⟨kl_in k.1.1 k.1.2, fin s1 _ n6 e1 ?_ e3⟩
        have : su I l i = (I 131 (oA I l i).toNatClampNeg).toNatClampNeg + 1 := if_neg q
        have n := kl_nat k.2
        rw [this, ml_in1 (by omega)]
        omega
    have z : (0 : Int32).toInt = 0 := kl_0
    refine rx_openAt hj b5 b6 b7 ⟨_, I, L, rfl, rx_openAt hi b5 b6 b7 ⟨_, I, L, rfl, fun q => ⟨fun p => ?_, fun p => ?_⟩, fun q => ?_⟩⟩
    · -- neither
      have sj : su I l j = j := if_pos q
      have fi : fa I l i = 0 := if_pos p
      have nj : na I l j = 0 := if_pos q
      refine fun n18 e18 => ⟨fun _ => f12 x1 n18 (by rw [sj]; exact hj) ?_, fun q' => absurd q q'⟩
      rw [e18, Int32.toInt_sub, ml_ad rfl z (by omega) (by omega), z, fi, nj]
      exact en_bmod (by omega) (by omega) (Or.inl (by omega))
    · have sj : su I l j = j := if_pos q
      have fi : fa I l i = (I 133 (oA I l i).toNatClampNeg).toInt := if_neg p
      have nj : na I l j = 0 := if_pos q
      have k := i4.resolve_left p
      refine ⟨kl_in k.1.1 k.1.2, fun n16 e16 => ⟨fun _ => f12 x1 n16 (by rw [sj]; exact hj) ?_, fun q' => absurd q q'⟩⟩
      rw [e16, Int32.toInt_sub, ml_ad rfl z (by omega) (by omega), ← fi, nj]
      exact en_bmod (by omega) (by omega) (Or.inl (by omega))
    · have k := j4.resolve_left q
      have sj : su I l j = (I 131 (oA I l j).toNatClampNeg).toNatClampNeg + 1 := if_neg q
      have nj : na I l j = (I 132 (oA I l j).toNatClampNeg).toInt := if_neg q
      have nk := kl_nat k.2
      have vj : vp_in (oA I l j) 260 := kl_in k.1.1 k.1.2
      have s131 : (I 131 (oA I l j).toNatClampNeg + 1).toInt = su I l j := by rw [sj, ml_in1 (by omega)]; omega
      refine ⟨vj, fun p => ?_, fun p => ?_⟩
      · have fi : fa I l i = 0 := if_pos p
        refine fun n13 e13 => ⟨fun q' => absurd q' q, fun _ => ⟨vj, f12 _ n13 s131 ?_⟩⟩
        rw [e13, Int32.toInt_sub, ml_ad rfl nj.symm (by omega) (by omega), z, fi]
        exact en_bmod (by omega) (by omega) (Or.inl (by omega))
      · have fi : fa I l i = (I 133 (oA I l i).toNatClampNeg).toInt := if_neg p
        have ki := i4.resolve_left p
        refine ⟨kl_in ki.1.1 ki.1.2, fun n11 e11 => ⟨fun q' => absurd q' q, fun _ => ⟨vj, f12 _ n11 s131 ?_⟩⟩⟩
        rw [e11, Int32.toInt_sub, ml_ad rfl nj.symm (by omega) (by omega), ← fi]
        exact en_bmod (by omega) (by omega) (Or.inl (by omega))
/-- both ways -/
def bC (f : tC → tC) (x y : Nat) (a b : Int) : List tC := [f (y, x, -a), f (x, y, b)]
theorem rx_between {pg n i j l : Nat} {x1 x2 a b : Int32} {C : List tC} (B : rB0 I pg n l) (hi : x1.toInt = i) (hj : x2.toInt = j) (in_ : i < n) (jn : j < n) (a0 : -80000 ≤ a.toInt) (a1 : a.toInt ≤ 80000) (b0 : -80000 ≤ b.toInt) (b1 : b.toInt ≤ 80000) (T : ttop n C (mT I pg)) (h : ∀ r J, rR pg n (bC (rhd I l) i j a.toInt b.toInt ++ C) I r J → Φ (some (.int r), (xLay, J, L, kM R))) : sm_wp sm_P S (d + 2) 104 0 [.ref 107, .int x1, .int x2, .int a, .int b] [] (xLay, I, L, kM R) (0, 0) Φ := by
  have na : (-a).toInt = -a.toInt := by rw [Int32.toInt_neg]; exact en_bmod (by omega) (by omega) (Or.inl rfl)
  refine p_X12_between_0 (rx_atMost B hj hi jn in_ (by omega) (by omega) T (fun r J q => ⟨r, J, L, rfl, ?_, ?_⟩))
  · intro r0
    obtain ⟨cg, ⟨-, q⟩ | ⟨r1, -⟩⟩ := q
    · exact h 0 J ⟨cg, Or.inl ⟨rfl, tno_cg (fun c hc => List.mem_cons_of_mem _ hc) q⟩⟩
    · rw [r0] at r1; exact absurd r1 (by decide)
  · intro r0
    obtain ⟨cg, ⟨r1, -⟩ | ⟨-, q⟩⟩ := q
    · exact absurd r1 r0
    · refine rx_atMost (rB0_cg cg B) hi hj in_ jn (by omega) (by omega) q (fun r2 J2 q2 => ⟨r2, J2, L, rfl, ?_, ?_⟩)
      · intro r0
        rw [na, rhd_cg cg] at q2
        obtain ⟨cg2, ⟨-, q2⟩ | ⟨r1, -⟩⟩ := q2
        · exact h 0 J2 ⟨chg_t cg cg2, Or.inl ⟨rfl, q2⟩⟩
        · rw [r0] at r1; exact absurd r1 (by decide)
      · intro r0
        rw [na, rhd_cg cg] at q2
        obtain ⟨cg2, ⟨r1, -⟩ | ⟨-, q2⟩⟩ := q2
        · exact absurd r1 r0
        · exact h 1 J2 ⟨chg_t cg cg2, Or.inr ⟨rfl, q2⟩⟩
def nd (x : Int32) : Nat := (x.toInt + 1).toNat
def spC (I : sm_I) (f : tC → tC) (p : Nat) (g : Int) : List tC := bC f (nd (I 130 p)) (nd (I 131 p)) ((I 132 p).toInt - g) ((I 133 p).toInt + g)
/-- a span that can be laid on the table -/
def sspk (I : sm_I) (n p : Nat) : Prop := p < 260 ∧ (0 ≤ (I 130 p).toInt ∧ (I 130 p).toInt + 1 < n) ∧ (-1 ≤ (I 131 p).toInt ∧ (I 131 p).toInt + 1 < n) ∧ (-1440 ≤ (I 132 p).toInt ∧ (I 132 p).toInt ≤ 1440) ∧ (-1440 ≤ (I 133 p).toInt ∧ (I 133 p).toInt ≤ 1440)
theorem sspk_cg {pg n p : Nat} {I J : sm_I} (h : chg pg I J) (k : sspk I n p) : sspk J n p := by
  unfold sspk at k ⊢
  rw [h 130 p (by omega), h 131 p (by omega), h 132 p (by omega), h 133 p (by omega)]; exact k
theorem spC_cg {pg : Nat} {I J : sm_I} (h : chg pg I J) (f : tC → tC) (p : Nat) (g : Int) : spC J f p g = spC I f p g := by
  unfold spC
  rw [h 130 p (by omega), h 131 p (by omega), h 132 p (by omega), h 133 p (by omega)]
theorem rx_holds {pg n l p : Nat} {x g : Int32} {C : List tC} (B : rB0 I pg n l) (hx : x.toInt = p) (k : sspk I n p) (g0 : 0 ≤ g.toInt) (g1 : g.toInt ≤ 5000) (T : ttop n C (mT I pg)) (h : ∀ r J, rR pg n (spC I (rhd I l) p g.toInt ++ C) I r J → Φ (some (.int r), (xLay, J, L, kM R))) : sm_wp sm_P S (d + 3) 139 0 [.ref 107, .int x, .int g] [] (xLay, I, L, kM R) (0, 0) Φ := by
  obtain ⟨k1, k2, k3, k4, k5⟩ := k
  have n12 := B.2.2.2.1
  have px := tk_nat hx
  have v : vp_in x 260 := kl_in (by omega) (by omega)
  refine p_X12_holdsSpan_0 ⟨v, v, v, v, ?_⟩
  rw [px]
  intro n1 e1 n2 e2 n3 e3 n4 e4
  have s1 : n1.toInt = ((nd (I 130 p) : Nat) : Int) := by rw [e1, ml_in1 (by omega)]; unfold nd; omega
  have s2 : n2.toInt = ((nd (I 131 p) : Nat) : Int) := by rw [e2, ml_in1 (by omega)]; unfold nd; omega
  have s3 : n3.toInt = (I 132 p).toInt - g.toInt := by rw [e3, Int32.toInt_sub]; exact en_bmod (by omega) (by omega) (Or.inl rfl)
  have s4 : n4.toInt = (I 133 p).toInt + g.toInt := by rw [e4]; exact ml_ad rfl rfl (by omega) (by omega)
  refine rx_between B s1 s2 (by unfold nd; omega) (by unfold nd; omega) (by omega) (by omega) (by omega) (by omega) T (fun r J q => ⟨r, J, L, rfl, ?_, h r J ?_⟩)
  · rcases q.2 with ⟨e, -⟩ | ⟨e, -⟩
    · exact Or.inl e
    · exact Or.inr e
  · rw [s3, s4] at q; exact q
/-- the spans of one choice -/
def spL (I : sm_I) (f : tC → tC) (g : Int) (p : Nat) : Nat → List tC
  | 0 => []
  | m + 1 => spC I f (p + m) g ++ spL I f g p m
theorem spL_cg {pg : Nat} {I J : sm_I} (h : chg pg I J) (f : tC → tC) (g : Int) (p : Nat) : ∀ m, spL J f g p m = spL I f g p m := by
  intro m
  induction m with
  | zero => rfl
  | succ m ih =>
    show spC J f (p + m) g ++ spL J f g p m = spC I f (p + m) g ++ spL I f g p m
    rw [ih, spC_cg h]
theorem spL_le {I : sm_I} {f : tC → tC} {g : Int} {p : Nat} {c : tC} : ∀ m m', m ≤ m' → c ∈ spL I f g p m → c ∈ spL I f g p m' := by
  intro m m' h hc
  obtain ⟨k, rfl⟩ : ∃ k, m' = m + k := ⟨m' - m, by omega⟩
  clear h
  induction k with
  | zero => exact hc
  | succ k ih => exact List.mem_append.mpr (Or.inr ih)
theorem rx_ch5 {I0 : sm_I} {pg n l q N : Nat} {x3 x4 : Int32} {C : List tC} (B : rB0 I0 pg n l) (h3 : x3.toInt = q) (q80 : q < 80) (hN : (I0 129 q).toInt = N) (N3 : N ≤ 3) (g0 : 0 ≤ x4.toInt) (g1 : x4.toInt ≤ 5000) (ok : ∀ i, i < N → sspk I0 n (3 * q + i)) (h : ∀ r J, rR pg n (spL I0 (rhd I0 l) x4.toInt (3 * q) N ++ C) I0 r J → Φ (some (.int r), (xLay, J, L, kM R))) : ∀ (m i : Nat) (x5 : Int32) (J : sm_I), x5.toInt = ((3 * q + i : Nat) : Int) → i + m = N → chg pg I0 J → ttop n (spL I0 (rhd I0 l) x4.toInt (3 * q) i ++ C) (mT J pg) → sm_wp sm_P S (d + 4) 115 5 [.ref 107, .int x3, .int x4, .int x5] [] (xLay, J, L, kM R) (0, 0) Φ := by
  have c3 : (3 : Int32).toInt = 3 := by decide
  have px := tk_nat h3
  have m3 : ((3 : Int32) * x3).toInt = 3 * (q : Int) := ml_mu c3 h3 (by omega) (by omega)
  intro m
  induction m with
  | zero =>
    intro i x5 J h5 hm cg T
    have e : i = N := by omega
    subst e
    have e129 : J 129 q = I0 129 q := cg 129 q (by omega)
    refine p_X12_chooses_5 ⟨kl_in (by omega) (by omega), ?_⟩
    rw [px, e129]
    refine ⟨fun _ => h 1 J ⟨cg, Or.inr ⟨rfl, T⟩⟩, fun a => ?_⟩
    have a := kl_nle a
    rw [ml_ad m3 hN (by omega) (by omega)] at a
    omega
  | succ m ih =>
    intro i x5 J h5 hm cg T
    have s5 := ml_in1 (x := x5) (by omega)
    have e129 : J 129 q = I0 129 q := cg 129 q (by omega)
    refine p_X12_chooses_5 ⟨kl_in (by omega) (by omega), ?_⟩
    rw [px, e129]
    refine ⟨fun a => ?_, fun _ => ?_⟩
    · have a := kl_le.mp a
      rw [ml_ad m3 hN (by omega) (by omega)] at a
      omega
    refine rx_holds (rB0_cg cg B) h5 (sspk_cg cg (ok i (by omega))) g0 g1 T (fun r J2 z => ⟨r, J2, L, rfl, ?_, ?_⟩)
    · intro r0
      obtain ⟨cg2, ⟨-, z⟩ | ⟨r1, -⟩⟩ := z
      · refine h 0 J2 ⟨chg_t cg cg2, Or.inl ⟨rfl, tno_cg (fun c hc => ?_) z⟩⟩
        rw [rhd_cg cg, spC_cg cg, ← List.append_assoc] at hc
        rcases List.mem_append.mp hc with hc | hc
        · exact List.mem_append.mpr (Or.inl (spL_le (i + 1) N (by omega) hc))
        · exact List.mem_append.mpr (Or.inr hc)
      · rw [r0] at r1; exact absurd r1 (by decide)
    · intro r0
      obtain ⟨cg2, ⟨r1, -⟩ | ⟨-, z⟩⟩ := z
      · exact absurd r1 r0
      · refine ih (i + 1) _ J2 (by omega) (by omega) (chg_t cg cg2) ?_
        rw [rhd_cg cg, spC_cg cg, ← List.append_assoc] at z
        exact z
end
