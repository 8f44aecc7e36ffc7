section
/-! the class's GOING THROUGH with the book, exact; told = 12, going = 74 (wip/pe/mkg2.py) -/
section
variable {S : sm_C} {d : Nat} {Φ : sm_Z → Prop} {I : sm_I} {L : sm_L} {R : sm_R}
theorem g12_74_aw {ys : List Nat} {f : Nat → Nat} {w : Nat} {x1 x4 : Int32} {I0 : sm_I} {L0 : sm_L} (h1 : x1.toInt = w) (w1000 : w < 1000) (h4 : x4.toInt = ys.length) (yl : ys.length ≤ 60) (hk : ∀ k, k < ys.length → I0 80 k = Int32.ofNat (ys.getD k 0)) (hc : ∀ k, k < ys.length → I0 81 k = Int32.ofNat (f k)) (mono : ∀ i j, i < j → j < ys.length → ys.getD i 0 < ys.getD j 0) (rg : ∀ k, k < ys.length → (ys.getD k 0 < 10 ∧ f k < 4) ∨ (100 ≤ ys.getD k 0 ∧ ys.getD k 0 < 145 ∧ f k < 2)) (h : ∀ (J : sm_I) (L' : sm_L), (∀ p j, ¬ (p = 47 ∧ j = w) → J p j = I0 p j) → (∀ p j, ¬ (p = 48 ∧ j = w) → L' p j = L0 p j) → wbk (J 47 w) (L' 48 w) (gyw ys f ys.length) → Φ (none, (xLay, J, L', kG12_74 R))) : ∀ (m i : Nat) (x5 : Int32) (J : sm_I) (L' : sm_L), x5.toInt = i → i + m = ys.length → (∀ p j, ¬ (p = 47 ∧ j = w) → J p j = I0 p j) → (∀ p j, ¬ (p = 48 ∧ j = w) → L' p j = L0 p j) → wbk (J 47 w) (L' 48 w) (gyw ys f i) → sm_wp sm_P S d 215 4 [.ref 45, .int x1, .ref 80, .ref 81, .int x4, .int x5] [] (xLay, J, L', kG12_74 R) (0, 0) Φ := by
  have v1 : vp_in x1 1000 := kl_in (by omega) (by omega)
  have p1 := tk_nat h1
  intro m
  induction m with
  | zero =>
    intro i x5 J L' h5 hm fr fl wb
    have ei : i = ys.length := by omega
    subst ei
    refine pg12_74_X1_addWay_4 ⟨fun _ => h J L' fr fl wb, fun a => ?_⟩
    have a := kl_nle a
    omega
  | succ m ih =>
    intro i x5 J L' h5 hm fr fl wb
    have s5 := ml_in1 (x := x5) (by omega)
    have v5 : vp_in x5 60 := kl_in (by omega) (by omega)
    have c100 : (100 : Int32).toInt = 100 := by decide
    have rk := rg i (by omega)
    have it : (Int32.ofNat (ys.getD i 0)).toInt = ys.getD i 0 := Int32.toInt_ofNat_of_lt (by omega)
    have new : gyw ys f i (ys.getD i 0) = 0 := gyw_0 i (fun j hj => by have := mono j i hj (by omega); omega)
    refine pg12_74_X1_addWay_4 ⟨fun a => ?_, fun _ => ⟨v5, ?_⟩⟩
    · have a := kl_le.mp a
      omega
    rw [tk_nat h5, p1, fr 80 i (by omega), fr 81 i (by omega), hk i (by omega), hc i (by omega)]
    refine ⟨fun a => ⟨v1, v5, v5, v1, fun L1 e1 => ?_⟩, fun a => ⟨v1, v5, v5, fun n2 e2 => ⟨v1, fun I3 e3 => ?_⟩⟩⟩
    · have a := kl_le.mp a
      obtain ⟨r1, r2, r3⟩ := rk.resolve_left (fun q => by omega)
      obtain ⟨k, ek⟩ : ∃ k, ys.getD i 0 = 100 + k := ⟨ys.getD i 0 - 100, by omega⟩
      refine ih (i + 1) _ J L1 (by omega) (by omega) fr (fun p j q => by rw [e1, en_up_ne _ _ _ _ q]; exact fl p j q) ?_
      rw [e1, en_up_eq]
      show wbk _ _ (sup (gyw ys f i) (ys.getD i 0) (f i))
      rw [ek] at new ⊢
      exact wbk_m wb (by omega) r3 new
    · have a := kl_nle a
      obtain ⟨r1, r2⟩ := rk.resolve_right (fun q => by omega)
      refine ih (i + 1) _ I3 L' (by omega) (by omega) (fun p j q => by rw [e3, en_up_ne _ _ _ _ q]; exact fr p j q) fl ?_
      rw [e3, en_up_eq, e2]
      exact wbk_s wb r1 r2 new
/-- the book's new WAY -/
theorem g12_74_nw {ys : List Nat} {f : Nat → Nat} {w : Nat} (k : kyM 74 I ys) (yl : ys.length ≤ 60) (hw : (I 74 14).toInt = w) (w1000 : w < 1000) (ng : I 74 10 = 0) (hc : ∀ k, k < ys.length → I 81 k = Int32.ofNat (f k)) (mono : ∀ i j, i < j → j < ys.length → ys.getD i 0 < ys.getD j 0) (rg : ∀ k, k < ys.length → (ys.getD k 0 < 10 ∧ f k < 4) ∨ (100 ≤ ys.getD k 0 ∧ ys.getD k 0 < 145 ∧ f k < 2)) (h : ∀ (J : sm_I) (L' : sm_L), (∀ p j, ¬ (p = 47 ∧ j = w) → ¬ (p = 74 ∧ j = 14) → J p j = I p j) → (∀ p j, ¬ (p = 48 ∧ j = w) → L' p j = L p j) → wbk (J 47 w) (L' 48 w) (gyw ys f ys.length) → (J 74 14).toInt = ((w + 1 : Nat) : Int) → Φ (none, (xLay, J, L', kG12_74 R))) : sm_wp sm_P S (d + 1) 233 0 [.ref 74, .ref 45] [] (xLay, I, L, kG12_74 R) (0, 0) Φ := by
  obtain ⟨k1, k2⟩ := k
  have k1 : (I 74 11).toInt = ys.length := k1
  have v1 : vp_in (I 74 14) 1000 := kl_in (by omega) (by omega)
  refine pg12_74_X2_noteWay_0 (pg12_74_X1_addWay_0 ⟨fun a => ?_, fun _ => ⟨fun _ => ⟨v1, fun I1 e1 => ⟨v1, fun L2 e2 => ?_⟩⟩, fun a => ?_⟩⟩)
  · have a := kl_lt.mp a
    rw [kl_0] at a; omega
  · rw [tk_nat hw] at e1 e2
    refine g12_74_aw (I0 := I) (L0 := L) hw w1000 k1 yl k2 hc mono rg (fun J L' fr fl wb => ⟨J, L', rfl, fun _ I4 e4 => ?_, fun q => absurd ((fr 74 10 (by omega)).trans ng) q⟩) ys.length 0 0 I1 L2 (by decide) (by omega) (fun p j q => by rw [e1, en_up_ne _ _ _ _ q]) (fun p j q => by rw [e2, en_up_ne _ _ _ _ q]) (by rw [e1, e2, en_up_eq, en_up_eq]; exact wbk_0)
    have e14 : J 74 14 = I 74 14 := fr 74 14 (by omega)
    exact h I4 L' (fun p j q1 q2 => by rw [e4, en_up_ne _ _ _ _ q2]; exact fr p j q1) fl (by rw [e4, en_up_ne _ _ _ _ (by omega)]; exact wb) (by rw [e4, en_up_eq, e14, ml_in1 (by omega), hw]; rfl)
  · have a := kl_nlt a
    rw [show (1000 : Int32).toInt = 1000 from by decide] at a
    omega
theorem g12_74_at {a b t : Nat} {x1 x2 x3 x4 : Int32} (h1 : x1.toInt = t) (t1 : t < 1000) (h2 : x2 = Int32.ofNat a) (h3 : x3 = Int32.ofNat b) (h4 : x4 = 0 ∨ x4 = 1) (h : ∀ J, (∀ p j, ¬ (p = 46 ∧ j = t) → J p j = I p j) → J 46 t = pkT a b (!decide (x4 = 0)) → Φ (none, (xLay, J, L, kG12_74 R))) : sm_wp sm_P S d 214 0 [.ref 45, .int x1, .int x2, .int x3, .int x4] [] (xLay, I, L, kG12_74 R) (0, 0) Φ := by
  have v1 : vp_in x1 1000 := kl_in (by omega) (by omega)
  have c1000 : (1000 : Int32).toInt = 1000 := by decide
  refine pg12_74_X1_addTry_0 ⟨fun a => ?_, fun _ => ⟨fun a => ?_, fun _ => ⟨fun e n1 e1 => ⟨v1, fun I2 e2 => ?_⟩, fun e n1 e1 => ⟨v1, fun I2 e2 => ?_⟩⟩⟩⟩
  · have a := kl_lt.mp a
    rw [kl_0] at a; omega
  · have a := kl_le.mp a
    omega
  · rw [tk_nat h1, e1, h2, h3] at e2
    refine h I2 (fun p j q => by rw [e2, en_up_ne _ _ _ _ q]) ?_
    rw [e2, en_up_eq, decide_eq_true e]; rfl
  · rw [tk_nat h1, e1, h2, h3] at e2
    refine h I2 (fun p j q => by rw [e2, en_up_ne _ _ _ _ q]) ?_
    rw [e2, en_up_eq, decide_eq_false e]; rfl
/-- what going through writes -/
def g12_74_gfr (I J : sm_I) : Prop := ∀ p q, ¬ (p = 74 ∧ (q = 6 ∨ q = 13 ∨ q = 14 ∨ q = 15)) → p ≠ 76 → p ≠ 81 → p ≠ 46 → p ≠ 47 → J p q = I p q
def g12_74_lfr (L L' : sm_L) : Prop := ∀ p j, p ≠ 48 → L' p j = L p j
def g12_74_ok (ys : List Nat) (I0 : sm_I) (n : Nat) : Prop := g12_74_B I0 n ∧ kyM 74 I0 ys ∧ ys.length ≤ 55 ∧ I0 74 10 = 0 ∧ (∀ i j, i < j → j < ys.length → ys.getD i 0 < ys.getD j 0) ∧ ∀ k, k < ys.length → kiok 12 74 I0 n (ys.getD k 0)
def g12_74_rl (ys : List Nat) (I0 : sm_I) (L0 : sm_L) (n : Nat) (B0 : List tC) (k : Nat) (nx : Nat → Nat) (tr fd : Nat) (lg : Nat → Nat × Nat × Bool) (wy : Nat → Nat → Nat) (J : sm_I) (L : sm_L) : Prop := (g12_74_gfr I0 J ∧ g12_74_lfr L0 L) ∧ ((J 74 13).toInt = tr ∧ (J 74 14).toInt = fd ∧ J 74 15 = 0 ∧ J 74 6 = 0) ∧ (∀ j, j ≤ k → (J 81 j).toInt = (nx j : Int) - 1 ∧ nx j ≤ kcd 12 I0 (ys.getD j 0)) ∧ (∀ j, j < k → 1 ≤ nx j) ∧ (∀ j, j ≤ k → ttop n (cl B0 (fun i c => kcv 12 74 I0 (g12_74_hd I0) (ys.getD i 0) c) (fun i => nx i - 1) j) (g12_74_T J n j)) ∧ kbk ys tr fd lg wy J L ∧ (tr ≤ 1000 ∧ fd ≤ tr)
def g12_74_fin (ys : List Nat) (I0 : sm_I) (L0 : sm_L) (n : Nat) (B0 : List tC) (s : ss) (J : sm_I) (L : sm_L) : Prop := (g12_74_gfr I0 J ∧ g12_74_lfr L0 L) ∧ ((J 74 13).toInt = s.2.2.1 ∧ (J 74 14).toInt = s.2.2.2.1 ∧ J 74 15 = (if s.2.2.2.2.1 = true then 1 else 0) ∧ J 74 6 = 0) ∧ kbk ys s.2.2.1 s.2.2.2.1 s.2.2.2.2.2.1 s.2.2.2.2.2.2 J L ∧ (I0 74 12 ≠ 0 → ttop n B0 (g12_74_T J n 0))
theorem g12_74_fB {n : Nat} {I J : sm_I} (h : g12_74_gfr I J) (b : g12_74_B I n) : g12_74_B J n ∧ g12_74_hd J = g12_74_hd I := by
  obtain ⟨b1, b2, b3, b4, b5⟩ := b
  refine ⟨⟨by rw [h 75 4 (by omega) (by omega) (by omega) (by omega) (by omega)]; exact b1, b2, b3, by rw [h 75 5 (by omega) (by omega) (by omega) (by omega) (by omega)]; exact b4, fun i hi => by rw [h 77 i (by omega) (by omega) (by omega) (by omega) (by omega), h 78 i (by omega) (by omega) (by omega) (by omega) (by omega), h 79 i (by omega) (by omega) (by omega) (by omega) (by omega)]; exact b5 i hi⟩, ?_⟩
  funext c
  unfold g12_74_hd
  rw [h 77 c.1 (by omega) (by omega) (by omega) (by omega) (by omega), h 77 c.2.1 (by omega) (by omega) (by omega) (by omega) (by omega), h 79 c.1 (by omega) (by omega) (by omega) (by omega) (by omega), h 78 c.2.1 (by omega) (by omega) (by omega) (by omega) (by omega)]
/-- a going's frame keeps what an ITEM asks -/
theorem g12_74_fi {n s : Nat} {I J : sm_I} (h : g12_74_gfr I J) : (∀ f c, kcc 12 74 J f s c = kcc 12 74 I f s c) ∧ kcd 12 J s = kcd 12 I s ∧ (kiok 12 74 I n s → kiok 12 74 J n s) := by
  have o : ∀ p j, (12 ≤ p ∧ p ≤ 36) → J p j = I p j := fun p j q => h p j (by omega) (by omega) (by omega) (by omega) (by omega)
  have gv : kgv 74 J s = kgv 74 I s := by
    unfold kgv
    rw [h 74 7 (by omega) (by omega) (by omega) (by omega) (by omega), h 74 8 (by omega) (by omega) (by omega) (by omega) (by omega)]
  have e : ∀ f g p m, ksL 12 J f g p m = ksL 12 I f g p m := fun f g p => ksL_fr f g p (fun c j h1 h2 => o c j (by omega))
  have ec : kcd 12 J s = kcd 12 I s := by
    show (if s < 10 then (J 22 s).toNatClampNeg else if (J 36 (s - 100)).toInt < 0 then 0 else 2) = (if s < 10 then (I 22 s).toNatClampNeg else if (I 36 (s - 100)).toInt < 0 then 0 else 2)
    rw [o 22 _ (by omega), o 36 _ (by omega)]
  refine ⟨fun f c => ?_, ec, fun k => ?_⟩
  · show (if s < 10 then ksL 12 J f (kgv 74 J s) (3 * (4 * s + c)) (J 23 (4 * s + c)).toNatClampNeg else mvC f (nd (J 34 (s - 100))) (nd (J 35 (s - 100))) (J 36 (s - 100)).toInt c) = (if s < 10 then ksL 12 I f (kgv 74 I s) (3 * (4 * s + c)) (I 23 (4 * s + c)).toNatClampNeg else mvC f (nd (I 34 (s - 100))) (nd (I 35 (s - 100))) (I 36 (s - 100)).toInt c)
    rw [gv, e, o 23 _ (by omega), o 34 _ (by omega), o 35 _ (by omega), o 36 _ (by omega)]
  · rcases k with ⟨k1, k2, k3, k4⟩ | ⟨k1, k2⟩
    · refine Or.inl ⟨k1, ?_, by rw [gv]; exact k3, fun c hc => ?_⟩
      · show 0 ≤ (J 22 s).toInt ∧ (J 22 s).toInt ≤ 4
        rw [o 22 _ (by omega)]; exact k2
      · have hc : c < (J 22 s).toNatClampNeg := hc
        rw [o 22 _ (by omega)] at hc
        obtain ⟨a1, a2⟩ := k4 c hc
        refine ⟨?_, fun i hi => ?_⟩
        · show 0 ≤ (J 23 (4 * s + c)).toInt ∧ (J 23 (4 * s + c)).toInt ≤ 3
          rw [o 23 _ (by omega)]; exact a1
        · have hi : i < (J 23 (4 * s + c)).toNatClampNeg := hi
          rw [o 23 _ (by omega)] at hi
          obtain ⟨b0, b1, b2, b3, b4⟩ := a2 i hi
          refine ⟨b0, ?_, ?_, ?_, ?_⟩
          · show 0 ≤ (J 25 _).toInt ∧ (J 25 _).toInt + 1 < n
            rw [o 25 _ (by omega)]; exact b1
          · show -1 ≤ (J 26 _).toInt ∧ (J 26 _).toInt + 1 < n
            rw [o 26 _ (by omega)]; exact b2
          · show -1440 ≤ (J 27 _).toInt ∧ (J 27 _).toInt ≤ 1440
            rw [o 27 _ (by omega)]; exact b3
          · show -1440 ≤ (J 28 _).toInt ∧ (J 28 _).toInt ≤ 1440
            rw [o 28 _ (by omega)]; exact b4
    · refine Or.inr ⟨k1, fun w => ?_⟩
      have w : 0 ≤ (J 36 (s - 100)).toInt := w
      rw [o 36 _ (by omega)] at w
      obtain ⟨a1, a2, a3⟩ := k2 w
      refine ⟨?_, ?_, ?_⟩
      · show 0 ≤ (J 34 _).toInt ∧ (J 34 _).toInt + 1 < n
        rw [o 34 _ (by omega)]; exact a1
      · show 0 ≤ (J 35 _).toInt ∧ (J 35 _).toInt + 1 < n
        rw [o 35 _ (by omega)]; exact a2
      · show (J 36 _).toInt ≤ 100000
        rw [o 36 _ (by omega)]; exact a3
theorem g12_74_c4 {n s : Nat} {I : sm_I} (k : kiok 12 74 I n s) : (s < 10 ∧ kcd 12 I s ≤ 4) ∨ (100 ≤ s ∧ s < 145 ∧ kcd 12 I s ≤ 2) := by
  unfold kcd
  rcases k with ⟨k1, k2, -, -⟩ | ⟨k1, -⟩
  · rw [if_pos k1]
    have := kl_nat k2.1
    exact Or.inl ⟨k1, by omega⟩
  · rw [if_neg (by omega)]
    refine Or.inr ⟨k1.1, k1.2, ?_⟩
    split <;> omega
theorem g12_74_lv {n lev : Nat} (nw : n ≤ 11) (l : lev ≤ 55) : (lev + 1) * (n * n) + n * n ≤ 7381 := by
  have nn : n * n ≤ 11 * 11 := Nat.mul_le_mul nw nw
  have a : (lev + 1) * (n * n) ≤ 56 * (11 * 11) := Nat.mul_le_mul (by omega) nn
  omega
theorem g12_74_gt {ys : List Nat} {I0 : sm_I} {L0 : sm_L} {n : Nat} {B0 : List tC} {F : ss} (ok : g12_74_ok ys I0 n) (m1 : 1 ≤ ys.length) (hΦ : ∀ (J : sm_I) (L' : sm_L), g12_74_fin ys I0 L0 n B0 F J L' → Φ (none, (xLay, J, L', kG12_74 R))) : ∀ (f k : Nat) (nx : Nat → Nat) (tr fd : Nat) (lg : Nat → Nat × Nat × Bool) (wy : Nat → Nat → Nat) (J : sm_I) (L' : sm_L) (x3 x4 : Int32) (st : Nat), g12_74_rl ys I0 L0 n B0 k nx tr fd lg wy J L' → k < ys.length → x3.toInt = k → x4.toInt = st → st + f ≤ 2001 → rn ys.length (fun j => kcd 12 I0 (ys.getD j 0)) (fz n B0 (fun i c => kcv 12 74 I0 (g12_74_hd I0) (ys.getD i 0) c)) false f (k + 1, nx, tr, fd, false, lg, wy) = F → F.1 = 0 → sm_wp sm_P S (d + 5) 225 5 [.ref 74, .ref 45, .int 0, .int x3, .int x4] [] (xLay, J, L', kG12_74 R) (0, 0) Φ := by
  obtain ⟨B, kk, m55, ng, mono, iok⟩ := ok
  have k1 : (I0 74 11).toInt = ys.length := kk.1
  have k2 : ∀ k, k < ys.length → I0 80 k = Int32.ofNat (ys.getD k 0) := kk.2
  have nw := B.2.2.1
  have c1000 : (1000 : Int32).toInt = 1000 := by decide
  have c2010 : (2010 : Int32).toInt = 2010 := by decide
  have cm1 : (-1 : Int32).toInt = -1 := by decide
  intro f
  induction f with
  | zero =>
    intro k nx tr fd lg wy J L' x3 x4 st _ _ _ _ _ e z
    have e : (k + 1, nx, tr, fd, false, lg, wy) = F := e
    rw [← e] at z
    exact absurd z (Nat.succ_ne_zero k)
  | succ f ih =>
    intro k nx tr fd lg wy J L' x3 x4 st rel km h3 h4 hst hF hz
    obtain ⟨⟨fr, fl⟩, ⟨r13, r14, r15, r6⟩, r81, rn1, rT, rK, t1000, fdt⟩ := id rel
    have p3 := tk_nat h3
    have v : vp_in x3 60 := kl_in (by omega) (by omega)
    have s4 := ml_in1 (x := x4) (by omega)
    obtain ⟨s, es⟩ : ∃ s, s = ys.getD k 0 := ⟨_, rfl⟩
    have ik := iok k km
    rw [← es] at ik
    have cs := g12_74_c4 ik
    have its : (Int32.ofNat s).toInt = s := Int32.toInt_ofNat_of_lt (by omega)
    obtain ⟨n0, nk⟩ := r81 k (Nat.le_refl _)
    rw [← es] at nk
    refine pg12_74_X2_goThrough_5 (d := d + 4) ⟨fun a => ?_, fun _ => ⟨fun a => ?_, fun _ => ⟨v, ?_⟩⟩⟩
    · have a := kl_le.mp a
      omega
    · have a := kl_lt.mp a
      rw [kl_0] at a; omega
    rw [p3]
    intro n1 e1
    have q1 : n1.toInt = (nx k : Int) := by rw [e1, ml_in1 (by omega), n0]; omega
    have n1e : n1 = Int32.ofNat (nx k) := en_ofI (by rw [q1, Int32.toInt_ofNat_of_lt (by omega)])
    refine ⟨v, fun I2 e2 => ⟨v, v, ?_⟩⟩
    have o2 : ∀ p j, ¬ (p = 81 ∧ j = k) → I2 p j = J p j := fun p j q => by rw [e2, en_up_ne _ _ _ _ q]
    have f2 : g12_74_gfr I0 I2 := fun p j a1 a2 a3 a4 a5 => (o2 p j (by omega)).trans (fr p j a1 a2 a3 a4 a5)
    have k81 : I2 81 k = n1 := by rw [e2, en_up_eq]
    have i80 : I2 80 k = Int32.ofNat s := by rw [f2 80 k (by omega) (by omega) (by omega) (by omega) (by omega), k2 k km, es]
    obtain ⟨fi1, fi2, fi3⟩ := g12_74_fi (n := n) (s := s) f2
    rw [i80, k81]
    refine g12_74_cd (d := d + 2) (n := n) its (fi3 ik) (fun v5 ev => ⟨v5, I2, L', rfl, fun a => ?_, fun a => ?_⟩)
    rotate_left
    · -- back
      rw [fi2] at ev
      have a := kl_nlt a
      rw [q1, ev] at a
      have enx : nx k = kcd 12 I0 s := by omega
      rw [rn_back (nc := fun j => kcd 12 I0 (ys.getD j 0)) (k := k) (nx := nx) (by show kcd 12 I0 (ys.getD k 0) ≤ nx k; rw [← es, enx]; exact Nat.le_refl _)] at hF
      obtain ⟨y3, ey3⟩ : ∃ y : Int32, y = x3 + (-1 : Int32) := ⟨_, rfl⟩
      have mk : y3.toInt = (k : Int) - 1 := by
        rw [ey3]
        exact (ml_ad h3 cm1 (by omega) (by omega)).trans (by omega)
      rw [← ey3]
      have T2 : ∀ j, g12_74_T I2 n j = g12_74_T J n j := fun j => by
        funext a b
        unfold g12_74_T
        rw [o2 76 _ (by omega)]
      have K2 : kbk ys tr fd lg wy I2 L' := ⟨fun i hi h1 => by rw [o2 46 i (by omega)]; exact rK.1 i hi h1, fun w hw => by rw [o2 47 w (by omega)]; exact rK.2 w hw⟩
      refine pg12_74_X2_goThrough_19 (d := d + 4) ?_
      cases k with
      | zero =>
        rw [rn_0 rfl] at hF
        have fin : Φ (none, (xLay, I2, L', kG12_74 R)) := hΦ I2 L' (by
          rw [← hF]
          exact ⟨⟨f2, fl⟩, ⟨by rw [o2 74 13 (by omega)]; exact r13, by rw [o2 74 14 (by omega)]; exact r14, by rw [o2 74 15 (by omega)]; exact r15, by rw [o2 74 6 (by omega)]; exact r6⟩, K2, fun _ => by rw [T2]; exact rT 0 (Nat.le_refl _)⟩)
        refine pg12_74_X2_goThrough_5 (d := d + 4) ⟨fun _ => fin, fun _ => ⟨fun _ => fin, fun a => ?_⟩⟩
        have a := kl_nlt0 a
        omega
      | succ k =>
        exact ih k nx tr fd lg wy I2 L' _ _ (st + 1) ⟨⟨f2, fl⟩, ⟨by rw [o2 74 13 (by omega)]; exact r13, by rw [o2 74 14 (by omega)]; exact r14, by rw [o2 74 15 (by omega)]; exact r15, by rw [o2 74 6 (by omega)]; exact r6⟩, fun j hj => by rw [o2 81 j (by omega)]; exact r81 j (by omega), fun j hj => rn1 j (by omega), fun j hj => by rw [T2]; exact rT j (by omega), K2, t1000, fdt⟩ (by omega) (by omega) (by omega) (by omega) hF hz
    · -- a TRY
      rw [fi2] at ev
      have a := kl_lt.mp a
      rw [q1, ev] at a
      have enx : nx k < kcd 12 I0 s := by omega
      have c : ¬ kcd 12 I0 (ys.getD k 0) ≤ nx k := by rw [← es]; omega
      intro I6 e6
      have o6 : ∀ p j, ¬ (p = 74 ∧ j = 13) → I6 p j = I2 p j := fun p j q => by rw [e6, en_up_ne _ _ _ _ q]
      have q13 : (I6 74 13).toInt = tr + 1 := by rw [e6, en_up_eq, o2 74 13 (by omega), ml_in1 (by omega), r13]
      have f6 : g12_74_gfr I0 I6 := fun p j a1 a2 a3 a4 a5 => (o6 p j (by omega)).trans (f2 p j a1 a2 a3 a4 a5)
      have oo : ∀ p j, ¬ (p = 81 ∧ j = k) → ¬ (p = 74 ∧ j = 13) → I6 p j = J p j := fun p j a1 a2 => (o6 p j a2).trans (o2 p j a1)
      have T6 : ∀ j, g12_74_T I6 n j = g12_74_T J n j := fun j => by
        funext a b
        unfold g12_74_T
        rw [oo 76 _ (by omega) (by omega)]
      refine ⟨fun a => ⟨v, v, ?_⟩, fun a => ?_⟩
      rotate_left
      · -- SPENT
        have a := kl_nle a
        rw [q13, c1000] at a
        rw [rn_spent (nc := fun j => kcd 12 I0 (ys.getD j 0)) c (by omega)] at hF
        have o31 : ∀ p j, ¬ (p = 74 ∧ j = 15) → (sm_up I6 74 15 (1 : Int32)) p j = I6 p j := fun p j q => en_up_ne _ _ _ _ q
        refine hΦ _ L' ?_
        rw [← hF]
        refine ⟨⟨fun p j a1 a2 a3 a4 a5 => (o31 p j (by omega)).trans (f6 p j a1 a2 a3 a4 a5), fl⟩, ⟨?_, ?_, ?_, ?_⟩, ⟨fun i hi h1 => ?_, fun w hw => ?_⟩, fun _ => ?_⟩
        · rw [o31 74 13 (by omega), q13]; rfl
        · rw [o31 74 14 (by omega), oo 74 14 (by omega) (by omega)]; exact r14
        · exact en_up_eq _ _ _ _
        · rw [o31 74 6 (by omega), oo 74 6 (by omega) (by omega)]; exact r6
        · have hi : i < tr + 1 := hi
          rw [o31 46 i (by omega), oo 46 i (by omega) (by omega)]
          exact rK.1 i (by omega) h1
        · rw [o31 47 w (by omega), oo 47 w (by omega) (by omega)]
          exact rK.2 w hw
        · have e : g12_74_T (sm_up I6 74 15 (1 : Int32)) n 0 = g12_74_T I6 n 0 := by
            funext a b
            unfold g12_74_T
            rw [o31 76 _ (by omega)]
          rw [e, T6]
          exact rT 0 (Nat.zero_le _)
      have a := kl_le.mp a
      rw [q13, c1000] at a
      have tt : ¬ 1000 ≤ tr := by omega
      have s3 := ml_in1 (x := x3) (by omega)
      obtain ⟨B6, ehd⟩ := g12_74_fB f6 B
      obtain ⟨gi1, gi2, gi3⟩ := g12_74_fi (n := n) (s := s) f6
      have i80' : I6 80 k = Int32.ofNat s := (o6 80 k (by omega)).trans i80
      have i81' : I6 81 k = Int32.ofNat (nx k) := by rw [o6 81 k (by omega), k81, n1e]
      rw [i80', i81']
      refine g12_74_push (d := d + 1) B6 (g12_74_lv nw (by omega)) (by omega) h3 its (Int32.toInt_ofNat_of_lt (by omega)) (gi3 ik) (by rw [gi2]; exact enx) (by rw [T6]; exact rT k (Nat.le_refl _)) (fun r J7 z => ⟨r, J7, L', rfl, v, v, ?_⟩)
      rw [gi1, ehd] at z
      obtain ⟨cg7, z⟩ := z
      have chk : kcc 12 74 I0 (g12_74_hd I0) s (nx k) ++ cl B0 (fun i c => kcv 12 74 I0 (g12_74_hd I0) (ys.getD i 0) c) (fun i => nx i - 1) k = cl B0 (fun i c => kcv 12 74 I0 (g12_74_hd I0) (ys.getD i 0) c) (chs nx k (nx k)) (k + 1) := by
        show _ = kcv 12 74 I0 (g12_74_hd I0) (ys.getD k 0) (chs nx k (nx k) k) ++ cl B0 _ (chs nx k (nx k)) k
        have e1 : chs nx k (nx k) k = nx k := if_pos rfl
        have e2 : kcv 12 74 I0 (g12_74_hd I0) s (nx k) = kcc 12 74 I0 (g12_74_hd I0) s (nx k) := if_pos enx
        rw [e1, ← es, e2]
        congr 1
        exact cl_cg k (fun i hi => by
          have : chs nx k (nx k) i = nx i - 1 := if_neg (by omega)
          rw [this])
      rw [chk] at z
      have o7 : ∀ p j, p ≠ 76 → J7 p j = I6 p j := fun p j q => cg7 p j (by omega)
      have f7 : g12_74_gfr I0 J7 := fun p j a1 a2 a3 a4 a5 => (o7 p j a2).trans (f6 p j a1 a2 a3 a4 a5)
      have rr : r = 0 ∨ r = 1 := by
        rcases z with ⟨e, -⟩ | ⟨e, -⟩
        · exact Or.inl e
        · exact Or.inr e
      have q7 : (J7 74 13 - 1).toInt = (tr : Int) := by
        rw [o7 74 13 (by omega), Int32.toInt_sub, kl_1, q13]
        exact en_bmod (by omega) (by omega) (Or.inl (by omega))
      rw [o7 80 k (by omega), o7 81 k (by omega), i80', i81']
      refine g12_74_at (a := s) (b := nx k) q7 (by omega) rfl rfl rr (fun J10 o10 v10 => ⟨J10, L', rfl, ?_⟩)
      -- what all three ways on have in common
      have f10 : g12_74_gfr I0 J10 := fun p j a1 a2 a3 a4 a5 => (o10 p j (by omega)).trans (f7 p j a1 a2 a3 a4 a5)
      have oA : ∀ p j, p ≠ 76 → p ≠ 46 → ¬ (p = 81 ∧ j = k) → ¬ (p = 74 ∧ j = 13) → J10 p j = J p j := fun p j a1 a2 a3 a4 => by rw [o10 p j (by omega), o7 p j a1, oo p j a3 a4]
      have d13 : (J10 74 13).toInt = ((tr + 1 : Nat) : Int) := by rw [o10 74 13 (by omega), o7 74 13 (by omega), q13]; omega
      have d14 : (J10 74 14).toInt = fd := by rw [oA 74 14 (by omega) (by omega) (by omega) (by omega)]; exact r14
      have d15 : J10 74 15 = 0 := by rw [oA 74 15 (by omega) (by omega) (by omega) (by omega)]; exact r15
      have d6 : J10 74 6 = 0 := by rw [oA 74 6 (by omega) (by omega) (by omega) (by omega)]; exact r6
      have c81 : J10 81 k = Int32.ofNat (nx k) := by rw [o10 81 k (by omega), o7 81 k (by omega)]; exact i81'
      have d81 : ∀ j, j ≤ k → (J10 81 j).toInt = ((sup nx k (nx k + 1) j : Nat) : Int) - 1 ∧ sup nx k (nx k + 1) j ≤ kcd 12 I0 (ys.getD j 0) := fun j hj => by
        by_cases e : j = k
        · rw [e, sup_eq, c81, Int32.toInt_ofNat_of_lt (by omega), ← es]
          exact ⟨by omega, enx⟩
        · rw [sup_ne _ _ e, oA 81 j (by omega) (by omega) (by omega) (by omega)]
          exact r81 j hj
      have Tk : ∀ nx' : Nat → Nat, (∀ i, i < k → nx' i = nx i) → ∀ j, j ≤ k → ttop n (cl B0 (fun i c => kcv 12 74 I0 (g12_74_hd I0) (ys.getD i 0) c) (fun i => nx' i - 1) j) (g12_74_T J10 n j) := fun nx' e j hj => by
        rw [cl_nx (nx := nx') (nx' := nx) (fun i hi => e i (by omega))]
        refine ttop_eq (fun u v hu hv => ?_) (rT j hj)
        have tl := tix_lt hu hv
        have e1 : g12_74_T J10 n j u v = g12_74_T J7 n j u v := by unfold g12_74_T; rw [o10 76 _ (by omega)]
        have e2 : g12_74_T J7 n j u v = g12_74_T I6 n j u v := by
          unfold g12_74_T tix
          rw [cg7 76 _ (fun q => ?_)]
          have := Nat.mul_le_mul_right (n * n) (show j + 1 ≤ k + 1 by omega)
          rw [Nat.succ_mul] at this
          omega
        rw [e1, e2, T6]
      have lgb : kbk ys (tr + 1) fd (sup lg tr (k, nx k, !decide (r = 0))) wy J10 L' := by
        refine ⟨fun i hi h1 => ?_, fun w hw => ?_⟩
        · by_cases e : i = tr
          · rw [e, sup_eq, v10, es]
          · rw [sup_ne _ _ e, o10 46 i (by omega), o7 46 i (by omega), oo 46 i (by omega) (by omega)]
            exact rK.1 i (by omega) h1
        · rw [oA 47 w (by omega) (by omega) (by omega) (by omega)]
          exact rK.2 w hw
      have iM : (J10 74 11 - 1).toInt = (ys.length : Int) - 1 := by
        rw [f10 74 11 (by omega) (by omega) (by omega) (by omega) (by omega), Int32.toInt_sub, kl_1, k1]
        exact en_bmod (by omega) (by omega) (Or.inl rfl)
      have s41 : (x4 + 1).toInt = ((st + 1 : Nat) : Int) := by rw [s4, h4]; omega
      refine ⟨fun r0 => pg12_74_X2_goThrough_16 (d := d + 4) ⟨fun _ => pg12_74_X2_goThrough_19 (d := d + 4) ?_, fun q => absurd r0 q⟩, fun r0 => ?_⟩
      · -- it failed
        have zn : tno n (cl B0 (fun i c => kcv 12 74 I0 (g12_74_hd I0) (ys.getD i 0) c) (chs nx k (nx k)) (k + 1)) := by
          rcases z with ⟨-, q⟩ | ⟨q, -⟩
          · exact q
          · rw [r0] at q; exact absurd q (by decide)
        rw [rn_fail (nc := fun j => kcd 12 I0 (ys.getD j 0)) c tt (fz_f zn)] at hF
        rw [decide_eq_true r0] at lgb
        exact ih k (sup nx k (nx k + 1)) (tr + 1) fd (sup lg tr (k, nx k, false)) wy J10 L' x3 _ (st + 1) ⟨⟨f10, fl⟩, ⟨d13, d14, d15, d6⟩, d81, fun j hj => by rw [sup_ne _ _ (show j ≠ k by omega)]; exact rn1 j hj, Tk _ (fun i hi => sup_ne _ _ (by omega)), lgb, by omega, by omega⟩ km h3 s41 (by omega) hF hz
      have zt : ttop n (cl B0 (fun i c => kcv 12 74 I0 (g12_74_hd I0) (ys.getD i 0) c) (chs nx k (nx k)) (k + 1)) (g12_74_T J10 n (k + 1)) := by
        have e : g12_74_T J10 n (k + 1) = g12_74_T J7 n (k + 1) := by
          funext u v
          unfold g12_74_T
          rw [o10 76 _ (by omega)]
        rw [e]
        rcases z with ⟨q, -⟩ | ⟨-, q⟩
        · exact absurd q r0
        · exact q
      have ft := fz_t zt
      rw [decide_eq_false r0] at lgb
      have lgb : kbk ys (tr + 1) fd (sup lg tr (k, nx k, true)) wy J10 L' := lgb
      refine ⟨fun a => ?_, fun a => ⟨kl_in (by omega) (by omega), fun I13 e13 => pg12_74_X2_goThrough_19 (d := d + 4) ?_⟩⟩
      · -- a WAY
        have a := kl_le.mp a
        rw [iM, h3] at a
        have lm : ¬ k + 1 < ys.length := by omega
        rw [rn_way0 (nc := fun j => kcd 12 I0 (ys.getD j 0)) c tt ft lm] at hF
        refine pg12_74_X2_goThrough_16 (d := d + 4) ⟨fun q => absurd q r0, fun _ => ?_⟩
        refine g12_74_nw (d := d + 3) (ys := ys) (f := chs nx k (nx k)) (w := fd) ⟨?_, ?_⟩ (by omega) d14 (by omega) ?_ (fun i hi => ?_) mono (fun i hi => ?_) (fun J15 L15 o15 l15 wb15 d14' => ⟨J15, L15, rfl, fun _ => pg12_74_X2_goThrough_19 (d := d + 4) ?_, fun q => absurd rfl q⟩)
        · show (J10 74 11).toInt = _
          rw [f10 74 11 (by omega) (by omega) (by omega) (by omega) (by omega)]; exact k1
        · intro i hi
          show J10 80 i = _
          rw [f10 80 i (by omega) (by omega) (by omega) (by omega) (by omega)]; exact k2 i hi
        · rw [f10 74 10 (by omega) (by omega) (by omega) (by omega) (by omega)]; exact ng
        · by_cases e : i = k
          · rw [show chs nx k (nx k) i = nx k from if_pos e, e]
            exact c81
          · rw [show chs nx k (nx k) i = nx i - 1 from if_neg e]
            have b := (d81 i (by omega)).1
            rw [sup_ne _ _ e] at b
            have b1 := rn1 i (by omega)
            have b2 := (r81 i (by omega)).2
            have b3 := g12_74_c4 (iok i hi)
            exact en_ofI (by rw [b, Int32.toInt_ofNat_of_lt (by omega)]; omega)
        · have b3 := g12_74_c4 (iok i hi)
          by_cases e : i = k
          · rw [show chs nx k (nx k) i = nx k from if_pos e, e, ← es]
            omega
          · rw [show chs nx k (nx k) i = nx i - 1 from if_neg e]
            have b1 := rn1 i (by omega)
            have b2 := (r81 i (by omega)).2
            omega
        · have oB : ∀ p j, p ≠ 47 → ¬ (p = 74 ∧ j = 14) → J15 p j = J10 p j := fun p j q1 q2 => o15 p j (by omega) q2
          refine ih k (sup nx k (nx k + 1)) (tr + 1) (fd + 1) (sup lg tr (k, nx k, true)) (sup wy fd (chs nx k (nx k))) J15 L15 x3 _ (st + 1) ⟨⟨fun p j a1 a2 a3 a4 a5 => (oB p j a5 (by omega)).trans (f10 p j a1 a2 a3 a4 a5), fun p j q => (l15 p j (by omega)).trans (fl p j q)⟩, ⟨by rw [oB 74 13 (by omega) (by omega)]; exact d13, d14', by rw [oB 74 15 (by omega) (by omega)]; exact d15, by rw [oB 74 6 (by omega) (by omega)]; exact d6⟩, fun j hj => by rw [oB 81 j (by omega) (by omega)]; exact d81 j hj, fun j hj => by rw [sup_ne _ _ (show j ≠ k by omega)]; exact rn1 j hj, fun j hj => ttop_eq (fun u v _ _ => by unfold g12_74_T; rw [oB 76 _ (by omega) (by omega)]) (Tk _ (fun i hi => sup_ne _ _ (by omega)) j hj), ⟨fun i hi h1 => by rw [oB 46 i (by omega) (by omega)]; exact lgb.1 i hi h1, fun w hw => ?_⟩, by omega, by omega⟩ km h3 s41 (by omega) hF hz
          by_cases e : w = fd
          · rw [e, sup_eq]; exact wb15
          · rw [sup_ne _ _ e, o15 47 w (by omega) (by omega), l15 48 w (by omega)]
            exact lgb.2 w (by omega)
      · -- one ITEM further
        have a := kl_nle a
        rw [iM, h3] at a
        have lm : k + 1 < ys.length := by omega
        rw [rn_down (nc := fun j => kcd 12 I0 (ys.getD j 0)) c tt ft lm] at hF
        have x31 : (x3 + 1).toInt = ((k + 1 : Nat) : Int) := by rw [s3, h3]; omega
        rw [tk_nat x31] at e13
        have o16 : ∀ p j, ¬ (p = 81 ∧ j = k + 1) → I13 p j = J10 p j := fun p j q => by rw [e13, en_up_ne _ _ _ _ q]
        refine ih (k + 1) (sup (sup nx k (nx k + 1)) (k + 1) 0) (tr + 1) fd (sup lg tr (k, nx k, true)) wy I13 L' (x3 + 1) _ (st + 1) ⟨⟨fun p j a1 a2 a3 a4 a5 => (o16 p j (by omega)).trans (f10 p j a1 a2 a3 a4 a5), fl⟩, ⟨by rw [o16 74 13 (by omega)]; exact d13, by rw [o16 74 14 (by omega)]; exact d14, by rw [o16 74 15 (by omega)]; exact d15, by rw [o16 74 6 (by omega)]; exact d6⟩, fun j hj => ?_, fun j hj => ?_, fun j hj => ?_, ⟨fun i hi h1 => by rw [o16 46 i (by omega)]; exact lgb.1 i hi h1, fun w hw => by rw [o16 47 w (by omega)]; exact lgb.2 w hw⟩, by omega, by omega⟩ lm x31 s41 (by omega) hF hz
        · by_cases e : j = k + 1
          · rw [e, sup_eq, e13, en_up_eq]
            exact ⟨by rw [cm1]; rfl, Nat.zero_le _⟩
          · rw [sup_ne _ _ e, o16 81 j (by omega)]
            exact d81 j (by omega)
        · rw [sup_ne _ _ (show j ≠ k + 1 by omega)]
          by_cases e : j = k
          · rw [e, sup_eq]
            omega
          · rw [sup_ne _ _ e]
            exact rn1 j (by omega)
        · by_cases e : j = k + 1
          · rw [e]
            have ec : cl B0 (fun i c => kcv 12 74 I0 (g12_74_hd I0) (ys.getD i 0) c) (fun i => sup (sup nx k (nx k + 1)) (k + 1) 0 i - 1) (k + 1) = cl B0 (fun i c => kcv 12 74 I0 (g12_74_hd I0) (ys.getD i 0) c) (chs nx k (nx k)) (k + 1) := cl_cg (k + 1) (fun i hi => by
              show sup (sup nx k (nx k + 1)) (k + 1) 0 i - 1 = chs nx k (nx k) i
              rw [sup_ne _ _ (show i ≠ k + 1 by omega)]
              by_cases q : i = k
              · rw [q, sup_eq, Nat.add_sub_cancel]
                exact (if_pos rfl).symm
              · rw [sup_ne _ _ q]
                exact (if_neg q).symm)
            rw [ec]
            exact ttop_eq (fun u v _ _ => by unfold g12_74_T; rw [o16 76 _ (by omega)]) zt
          · exact ttop_eq (fun u v _ _ => by unfold g12_74_T; rw [o16 76 _ (by omega)]) (Tk _ (fun i hi => by rw [sup_ne _ _ (show i ≠ k + 1 by omega), sup_ne _ _ (show i ≠ k by omega)]) j (by omega))
end
end
section
/-! the class's GOING THROUGH with the book, exact; told = 49, going = 74 (wip/pe/mkg2.py) -/
section
variable {S : sm_C} {d : Nat} {Φ : sm_Z → Prop} {I : sm_I} {L : sm_L} {R : sm_R}
theorem g49_74_aw {ys : List Nat} {f : Nat → Nat} {w : Nat} {x1 x4 : Int32} {I0 : sm_I} {L0 : sm_L} (h1 : x1.toInt = w) (w1000 : w < 1000) (h4 : x4.toInt = ys.length) (yl : ys.length ≤ 60) (hk : ∀ k, k < ys.length → I0 80 k = Int32.ofNat (ys.getD k 0)) (hc : ∀ k, k < ys.length → I0 81 k = Int32.ofNat (f k)) (mono : ∀ i j, i < j → j < ys.length → ys.getD i 0 < ys.getD j 0) (rg : ∀ k, k < ys.length → (ys.getD k 0 < 10 ∧ f k < 4) ∨ (100 ≤ ys.getD k 0 ∧ ys.getD k 0 < 145 ∧ f k < 2)) (h : ∀ (J : sm_I) (L' : sm_L), (∀ p j, ¬ (p = 47 ∧ j = w) → J p j = I0 p j) → (∀ p j, ¬ (p = 48 ∧ j = w) → L' p j = L0 p j) → wbk (J 47 w) (L' 48 w) (gyw ys f ys.length) → Φ (none, (xLay, J, L', kG49_74 R))) : ∀ (m i : Nat) (x5 : Int32) (J : sm_I) (L' : sm_L), x5.toInt = i → i + m = ys.length → (∀ p j, ¬ (p = 47 ∧ j = w) → J p j = I0 p j) → (∀ p j, ¬ (p = 48 ∧ j = w) → L' p j = L0 p j) → wbk (J 47 w) (L' 48 w) (gyw ys f i) → sm_wp sm_P S d 215 4 [.ref 45, .int x1, .ref 80, .ref 81, .int x4, .int x5] [] (xLay, J, L', kG49_74 R) (0, 0) Φ := by
  have v1 : vp_in x1 1000 := kl_in (by omega) (by omega)
  have p1 := tk_nat h1
  intro m
  induction m with
  | zero =>
    intro i x5 J L' h5 hm fr fl wb
    have ei : i = ys.length := by omega
    subst ei
    refine pg49_74_X1_addWay_4 ⟨fun _ => h J L' fr fl wb, fun a => ?_⟩
    have a := kl_nle a
    omega
  | succ m ih =>
    intro i x5 J L' h5 hm fr fl wb
    have s5 := ml_in1 (x := x5) (by omega)
    have v5 : vp_in x5 60 := kl_in (by omega) (by omega)
    have c100 : (100 : Int32).toInt = 100 := by decide
    have rk := rg i (by omega)
    have it : (Int32.ofNat (ys.getD i 0)).toInt = ys.getD i 0 := Int32.toInt_ofNat_of_lt (by omega)
    have new : gyw ys f i (ys.getD i 0) = 0 := gyw_0 i (fun j hj => by have := mono j i hj (by omega); omega)
    refine pg49_74_X1_addWay_4 ⟨fun a => ?_, fun _ => ⟨v5, ?_⟩⟩
    · have a := kl_le.mp a
      omega
    rw [tk_nat h5, p1, fr 80 i (by omega), fr 81 i (by omega), hk i (by omega), hc i (by omega)]
    refine ⟨fun a => ⟨v1, v5, v5, v1, fun L1 e1 => ?_⟩, fun a => ⟨v1, v5, v5, fun n2 e2 => ⟨v1, fun I3 e3 => ?_⟩⟩⟩
    · have a := kl_le.mp a
      obtain ⟨r1, r2, r3⟩ := rk.resolve_left (fun q => by omega)
      obtain ⟨k, ek⟩ : ∃ k, ys.getD i 0 = 100 + k := ⟨ys.getD i 0 - 100, by omega⟩
      refine ih (i + 1) _ J L1 (by omega) (by omega) fr (fun p j q => by rw [e1, en_up_ne _ _ _ _ q]; exact fl p j q) ?_
      rw [e1, en_up_eq]
      show wbk _ _ (sup (gyw ys f i) (ys.getD i 0) (f i))
      rw [ek] at new ⊢
      exact wbk_m wb (by omega) r3 new
    · have a := kl_nle a
      obtain ⟨r1, r2⟩ := rk.resolve_right (fun q => by omega)
      refine ih (i + 1) _ I3 L' (by omega) (by omega) (fun p j q => by rw [e3, en_up_ne _ _ _ _ q]; exact fr p j q) fl ?_
      rw [e3, en_up_eq, e2]
      exact wbk_s wb r1 r2 new
/-- the book's new WAY -/
theorem g49_74_nw {ys : List Nat} {f : Nat → Nat} {w : Nat} (k : kyM 74 I ys) (yl : ys.length ≤ 60) (hw : (I 74 14).toInt = w) (w1000 : w < 1000) (ng : I 74 10 = 0) (hc : ∀ k, k < ys.length → I 81 k = Int32.ofNat (f k)) (mono : ∀ i j, i < j → j < ys.length → ys.getD i 0 < ys.getD j 0) (rg : ∀ k, k < ys.length → (ys.getD k 0 < 10 ∧ f k < 4) ∨ (100 ≤ ys.getD k 0 ∧ ys.getD k 0 < 145 ∧ f k < 2)) (h : ∀ (J : sm_I) (L' : sm_L), (∀ p j, ¬ (p = 47 ∧ j = w) → ¬ (p = 74 ∧ j = 14) → J p j = I p j) → (∀ p j, ¬ (p = 48 ∧ j = w) → L' p j = L p j) → wbk (J 47 w) (L' 48 w) (gyw ys f ys.length) → (J 74 14).toInt = ((w + 1 : Nat) : Int) → Φ (none, (xLay, J, L', kG49_74 R))) : sm_wp sm_P S (d + 1) 233 0 [.ref 74, .ref 45] [] (xLay, I, L, kG49_74 R) (0, 0) Φ := by
  obtain ⟨k1, k2⟩ := k
  have k1 : (I 74 11).toInt = ys.length := k1
  have v1 : vp_in (I 74 14) 1000 := kl_in (by omega) (by omega)
  refine pg49_74_X2_noteWay_0 (pg49_74_X1_addWay_0 ⟨fun a => ?_, fun _ => ⟨fun _ => ⟨v1, fun I1 e1 => ⟨v1, fun L2 e2 => ?_⟩⟩, fun a => ?_⟩⟩)
  · have a := kl_lt.mp a
    rw [kl_0] at a; omega
  · rw [tk_nat hw] at e1 e2
    refine g49_74_aw (I0 := I) (L0 := L) hw w1000 k1 yl k2 hc mono rg (fun J L' fr fl wb => ⟨J, L', rfl, fun _ I4 e4 => ?_, fun q => absurd ((fr 74 10 (by omega)).trans ng) q⟩) ys.length 0 0 I1 L2 (by decide) (by omega) (fun p j q => by rw [e1, en_up_ne _ _ _ _ q]) (fun p j q => by rw [e2, en_up_ne _ _ _ _ q]) (by rw [e1, e2, en_up_eq, en_up_eq]; exact wbk_0)
    have e14 : J 74 14 = I 74 14 := fr 74 14 (by omega)
    exact h I4 L' (fun p j q1 q2 => by rw [e4, en_up_ne _ _ _ _ q2]; exact fr p j q1) fl (by rw [e4, en_up_ne _ _ _ _ (by omega)]; exact wb) (by rw [e4, en_up_eq, e14, ml_in1 (by omega), hw]; rfl)
  · have a := kl_nlt a
    rw [show (1000 : Int32).toInt = 1000 from by decide] at a
    omega
theorem g49_74_at {a b t : Nat} {x1 x2 x3 x4 : Int32} (h1 : x1.toInt = t) (t1 : t < 1000) (h2 : x2 = Int32.ofNat a) (h3 : x3 = Int32.ofNat b) (h4 : x4 = 0 ∨ x4 = 1) (h : ∀ J, (∀ p j, ¬ (p = 46 ∧ j = t) → J p j = I p j) → J 46 t = pkT a b (!decide (x4 = 0)) → Φ (none, (xLay, J, L, kG49_74 R))) : sm_wp sm_P S d 214 0 [.ref 45, .int x1, .int x2, .int x3, .int x4] [] (xLay, I, L, kG49_74 R) (0, 0) Φ := by
  have v1 : vp_in x1 1000 := kl_in (by omega) (by omega)
  have c1000 : (1000 : Int32).toInt = 1000 := by decide
  refine pg49_74_X1_addTry_0 ⟨fun a => ?_, fun _ => ⟨fun a => ?_, fun _ => ⟨fun e n1 e1 => ⟨v1, fun I2 e2 => ?_⟩, fun e n1 e1 => ⟨v1, fun I2 e2 => ?_⟩⟩⟩⟩
  · have a := kl_lt.mp a
    rw [kl_0] at a; omega
  · have a := kl_le.mp a
    omega
  · rw [tk_nat h1, e1, h2, h3] at e2
    refine h I2 (fun p j q => by rw [e2, en_up_ne _ _ _ _ q]) ?_
    rw [e2, en_up_eq, decide_eq_true e]; rfl
  · rw [tk_nat h1, e1, h2, h3] at e2
    refine h I2 (fun p j q => by rw [e2, en_up_ne _ _ _ _ q]) ?_
    rw [e2, en_up_eq, decide_eq_false e]; rfl
/-- what going through writes -/
def g49_74_gfr (I J : sm_I) : Prop := ∀ p q, ¬ (p = 74 ∧ (q = 6 ∨ q = 13 ∨ q = 14 ∨ q = 15)) → p ≠ 76 → p ≠ 81 → p ≠ 46 → p ≠ 47 → J p q = I p q
def g49_74_lfr (L L' : sm_L) : Prop := ∀ p j, p ≠ 48 → L' p j = L p j
def g49_74_ok (ys : List Nat) (I0 : sm_I) (n : Nat) : Prop := g49_74_B I0 n ∧ kyM 74 I0 ys ∧ ys.length ≤ 55 ∧ I0 74 10 = 0 ∧ (∀ i j, i < j → j < ys.length → ys.getD i 0 < ys.getD j 0) ∧ ∀ k, k < ys.length → kiok 49 74 I0 n (ys.getD k 0)
def g49_74_rl (ys : List Nat) (I0 : sm_I) (L0 : sm_L) (n : Nat) (B0 : List tC) (k : Nat) (nx : Nat → Nat) (tr fd : Nat) (lg : Nat → Nat × Nat × Bool) (wy : Nat → Nat → Nat) (J : sm_I) (L : sm_L) : Prop := (g49_74_gfr I0 J ∧ g49_74_lfr L0 L) ∧ ((J 74 13).toInt = tr ∧ (J 74 14).toInt = fd ∧ J 74 15 = 0 ∧ J 74 6 = 0) ∧ (∀ j, j ≤ k → (J 81 j).toInt = (nx j : Int) - 1 ∧ nx j ≤ kcd 49 I0 (ys.getD j 0)) ∧ (∀ j, j < k → 1 ≤ nx j) ∧ (∀ j, j ≤ k → ttop n (cl B0 (fun i c => kcv 49 74 I0 (g49_74_hd I0) (ys.getD i 0) c) (fun i => nx i - 1) j) (g49_74_T J n j)) ∧ kbk ys tr fd lg wy J L ∧ (tr ≤ 1000 ∧ fd ≤ tr)
def g49_74_fin (ys : List Nat) (I0 : sm_I) (L0 : sm_L) (n : Nat) (B0 : List tC) (s : ss) (J : sm_I) (L : sm_L) : Prop := (g49_74_gfr I0 J ∧ g49_74_lfr L0 L) ∧ ((J 74 13).toInt = s.2.2.1 ∧ (J 74 14).toInt = s.2.2.2.1 ∧ J 74 15 = (if s.2.2.2.2.1 = true then 1 else 0) ∧ J 74 6 = 0) ∧ kbk ys s.2.2.1 s.2.2.2.1 s.2.2.2.2.2.1 s.2.2.2.2.2.2 J L ∧ (I0 74 12 ≠ 0 → ttop n B0 (g49_74_T J n 0))
theorem g49_74_fB {n : Nat} {I J : sm_I} (h : g49_74_gfr I J) (b : g49_74_B I n) : g49_74_B J n ∧ g49_74_hd J = g49_74_hd I := by
  obtain ⟨b1, b2, b3, b4, b5⟩ := b
  refine ⟨⟨by rw [h 75 4 (by omega) (by omega) (by omega) (by omega) (by omega)]; exact b1, b2, b3, by rw [h 75 5 (by omega) (by omega) (by omega) (by omega) (by omega)]; exact b4, fun i hi => by rw [h 77 i (by omega) (by omega) (by omega) (by omega) (by omega), h 78 i (by omega) (by omega) (by omega) (by omega) (by omega), h 79 i (by omega) (by omega) (by omega) (by omega) (by omega)]; exact b5 i hi⟩, ?_⟩
  funext c
  unfold g49_74_hd
  rw [h 77 c.1 (by omega) (by omega) (by omega) (by omega) (by omega), h 77 c.2.1 (by omega) (by omega) (by omega) (by omega) (by omega), h 79 c.1 (by omega) (by omega) (by omega) (by omega) (by omega), h 78 c.2.1 (by omega) (by omega) (by omega) (by omega) (by omega)]
/-- a going's frame keeps what an ITEM asks -/
theorem g49_74_fi {n s : Nat} {I J : sm_I} (h : g49_74_gfr I J) : (∀ f c, kcc 49 74 J f s c = kcc 49 74 I f s c) ∧ kcd 49 J s = kcd 49 I s ∧ (kiok 49 74 I n s → kiok 49 74 J n s) := by
  have o : ∀ p j, (49 ≤ p ∧ p ≤ 73) → J p j = I p j := fun p j q => h p j (by omega) (by omega) (by omega) (by omega) (by omega)
  have gv : kgv 74 J s = kgv 74 I s := by
    unfold kgv
    rw [h 74 7 (by omega) (by omega) (by omega) (by omega) (by omega), h 74 8 (by omega) (by omega) (by omega) (by omega) (by omega)]
  have e : ∀ f g p m, ksL 49 J f g p m = ksL 49 I f g p m := fun f g p => ksL_fr f g p (fun c j h1 h2 => o c j (by omega))
  have ec : kcd 49 J s = kcd 49 I s := by
    show (if s < 10 then (J 59 s).toNatClampNeg else if (J 73 (s - 100)).toInt < 0 then 0 else 2) = (if s < 10 then (I 59 s).toNatClampNeg else if (I 73 (s - 100)).toInt < 0 then 0 else 2)
    rw [o 59 _ (by omega), o 73 _ (by omega)]
  refine ⟨fun f c => ?_, ec, fun k => ?_⟩
  · show (if s < 10 then ksL 49 J f (kgv 74 J s) (3 * (4 * s + c)) (J 60 (4 * s + c)).toNatClampNeg else mvC f (nd (J 71 (s - 100))) (nd (J 72 (s - 100))) (J 73 (s - 100)).toInt c) = (if s < 10 then ksL 49 I f (kgv 74 I s) (3 * (4 * s + c)) (I 60 (4 * s + c)).toNatClampNeg else mvC f (nd (I 71 (s - 100))) (nd (I 72 (s - 100))) (I 73 (s - 100)).toInt c)
    rw [gv, e, o 60 _ (by omega), o 71 _ (by omega), o 72 _ (by omega), o 73 _ (by omega)]
  · rcases k with ⟨k1, k2, k3, k4⟩ | ⟨k1, k2⟩
    · refine Or.inl ⟨k1, ?_, by rw [gv]; exact k3, fun c hc => ?_⟩
      · show 0 ≤ (J 59 s).toInt ∧ (J 59 s).toInt ≤ 4
        rw [o 59 _ (by omega)]; exact k2
      · have hc : c < (J 59 s).toNatClampNeg := hc
        rw [o 59 _ (by omega)] at hc
        obtain ⟨a1, a2⟩ := k4 c hc
        refine ⟨?_, fun i hi => ?_⟩
        · show 0 ≤ (J 60 (4 * s + c)).toInt ∧ (J 60 (4 * s + c)).toInt ≤ 3
          rw [o 60 _ (by omega)]; exact a1
        · have hi : i < (J 60 (4 * s + c)).toNatClampNeg := hi
          rw [o 60 _ (by omega)] at hi
          obtain ⟨b0, b1, b2, b3, b4⟩ := a2 i hi
          refine ⟨b0, ?_, ?_, ?_, ?_⟩
          · show 0 ≤ (J 62 _).toInt ∧ (J 62 _).toInt + 1 < n
            rw [o 62 _ (by omega)]; exact b1
          · show -1 ≤ (J 63 _).toInt ∧ (J 63 _).toInt + 1 < n
            rw [o 63 _ (by omega)]; exact b2
          · show -1440 ≤ (J 64 _).toInt ∧ (J 64 _).toInt ≤ 1440
            rw [o 64 _ (by omega)]; exact b3
          · show -1440 ≤ (J 65 _).toInt ∧ (J 65 _).toInt ≤ 1440
            rw [o 65 _ (by omega)]; exact b4
    · refine Or.inr ⟨k1, fun w => ?_⟩
      have w : 0 ≤ (J 73 (s - 100)).toInt := w
      rw [o 73 _ (by omega)] at w
      obtain ⟨a1, a2, a3⟩ := k2 w
      refine ⟨?_, ?_, ?_⟩
      · show 0 ≤ (J 71 _).toInt ∧ (J 71 _).toInt + 1 < n
        rw [o 71 _ (by omega)]; exact a1
      · show 0 ≤ (J 72 _).toInt ∧ (J 72 _).toInt + 1 < n
        rw [o 72 _ (by omega)]; exact a2
      · show (J 73 _).toInt ≤ 100000
        rw [o 73 _ (by omega)]; exact a3
theorem g49_74_c4 {n s : Nat} {I : sm_I} (k : kiok 49 74 I n s) : (s < 10 ∧ kcd 49 I s ≤ 4) ∨ (100 ≤ s ∧ s < 145 ∧ kcd 49 I s ≤ 2) := by
  unfold kcd
  rcases k with ⟨k1, k2, -, -⟩ | ⟨k1, -⟩
  · rw [if_pos k1]
    have := kl_nat k2.1
    exact Or.inl ⟨k1, by omega⟩
  · rw [if_neg (by omega)]
    refine Or.inr ⟨k1.1, k1.2, ?_⟩
    split <;> omega
theorem g49_74_lv {n lev : Nat} (nw : n ≤ 11) (l : lev ≤ 55) : (lev + 1) * (n * n) + n * n ≤ 7381 := by
  have nn : n * n ≤ 11 * 11 := Nat.mul_le_mul nw nw
  have a : (lev + 1) * (n * n) ≤ 56 * (11 * 11) := Nat.mul_le_mul (by omega) nn
  omega
theorem g49_74_gt {ys : List Nat} {I0 : sm_I} {L0 : sm_L} {n : Nat} {B0 : List tC} {F : ss} (ok : g49_74_ok ys I0 n) (m1 : 1 ≤ ys.length) (hΦ : ∀ (J : sm_I) (L' : sm_L), g49_74_fin ys I0 L0 n B0 F J L' → Φ (none, (xLay, J, L', kG49_74 R))) : ∀ (f k : Nat) (nx : Nat → Nat) (tr fd : Nat) (lg : Nat → Nat × Nat × Bool) (wy : Nat → Nat → Nat) (J : sm_I) (L' : sm_L) (x3 x4 : Int32) (st : Nat), g49_74_rl ys I0 L0 n B0 k nx tr fd lg wy J L' → k < ys.length → x3.toInt = k → x4.toInt = st → st + f ≤ 2001 → rn ys.length (fun j => kcd 49 I0 (ys.getD j 0)) (fz n B0 (fun i c => kcv 49 74 I0 (g49_74_hd I0) (ys.getD i 0) c)) false f (k + 1, nx, tr, fd, false, lg, wy) = F → F.1 = 0 → sm_wp sm_P S (d + 5) 225 5 [.ref 74, .ref 45, .int 0, .int x3, .int x4] [] (xLay, J, L', kG49_74 R) (0, 0) Φ := by
  obtain ⟨B, kk, m55, ng, mono, iok⟩ := ok
  have k1 : (I0 74 11).toInt = ys.length := kk.1
  have k2 : ∀ k, k < ys.length → I0 80 k = Int32.ofNat (ys.getD k 0) := kk.2
  have nw := B.2.2.1
  have c1000 : (1000 : Int32).toInt = 1000 := by decide
  have c2010 : (2010 : Int32).toInt = 2010 := by decide
  have cm1 : (-1 : Int32).toInt = -1 := by decide
  intro f
  induction f with
  | zero =>
    intro k nx tr fd lg wy J L' x3 x4 st _ _ _ _ _ e z
    have e : (k + 1, nx, tr, fd, false, lg, wy) = F := e
    rw [← e] at z
    exact absurd z (Nat.succ_ne_zero k)
  | succ f ih =>
    intro k nx tr fd lg wy J L' x3 x4 st rel km h3 h4 hst hF hz
    obtain ⟨⟨fr, fl⟩, ⟨r13, r14, r15, r6⟩, r81, rn1, rT, rK, t1000, fdt⟩ := id rel
    have p3 := tk_nat h3
    have v : vp_in x3 60 := kl_in (by omega) (by omega)
    have s4 := ml_in1 (x := x4) (by omega)
    obtain ⟨s, es⟩ : ∃ s, s = ys.getD k 0 := ⟨_, rfl⟩
    have ik := iok k km
    rw [← es] at ik
    have cs := g49_74_c4 ik
    have its : (Int32.ofNat s).toInt = s := Int32.toInt_ofNat_of_lt (by omega)
    obtain ⟨n0, nk⟩ := r81 k (Nat.le_refl _)
    rw [← es] at nk
    refine pg49_74_X2_goThrough_5 (d := d + 4) ⟨fun a => ?_, fun _ => ⟨fun a => ?_, fun _ => ⟨v, ?_⟩⟩⟩
    · have a := kl_le.mp a
      omega
    · have a := kl_lt.mp a
      rw [kl_0] at a; omega
    rw [p3]
    intro n1 e1
    have q1 : n1.toInt = (nx k : Int) := by rw [e1, ml_in1 (by omega), n0]; omega
    have n1e : n1 = Int32.ofNat (nx k) := en_ofI (by rw [q1, Int32.toInt_ofNat_of_lt (by omega)])
    refine ⟨v, fun I2 e2 => ⟨v, v, ?_⟩⟩
    have o2 : ∀ p j, ¬ (p = 81 ∧ j = k) → I2 p j = J p j := fun p j q => by rw [e2, en_up_ne _ _ _ _ q]
    have f2 : g49_74_gfr I0 I2 := fun p j a1 a2 a3 a4 a5 => (o2 p j (by omega)).trans (fr p j a1 a2 a3 a4 a5)
    have k81 : I2 81 k = n1 := by rw [e2, en_up_eq]
    have i80 : I2 80 k = Int32.ofNat s := by rw [f2 80 k (by omega) (by omega) (by omega) (by omega) (by omega), k2 k km, es]
    obtain ⟨fi1, fi2, fi3⟩ := g49_74_fi (n := n) (s := s) f2
    rw [i80, k81]
    refine g49_74_cd (d := d + 2) (n := n) its (fi3 ik) (fun v5 ev => ⟨v5, I2, L', rfl, fun a => ?_, fun a => ?_⟩)
    rotate_left
    · -- back
      rw [fi2] at ev
      have a := kl_nlt a
      rw [q1, ev] at a
      have enx : nx k = kcd 49 I0 s := by omega
      rw [rn_back (nc := fun j => kcd 49 I0 (ys.getD j 0)) (k := k) (nx := nx) (by show kcd 49 I0 (ys.getD k 0) ≤ nx k; rw [← es, enx]; exact Nat.le_refl _)] at hF
      obtain ⟨y3, ey3⟩ : ∃ y : Int32, y = x3 + (-1 : Int32) := ⟨_, rfl⟩
      have mk : y3.toInt = (k : Int) - 1 := by
        rw [ey3]
        exact (ml_ad h3 cm1 (by omega) (by omega)).trans (by omega)
      rw [← ey3]
      have T2 : ∀ j, g49_74_T I2 n j = g49_74_T J n j := fun j => by
        funext a b
        unfold g49_74_T
        rw [o2 76 _ (by omega)]
      have K2 : kbk ys tr fd lg wy I2 L' := ⟨fun i hi h1 => by rw [o2 46 i (by omega)]; exact rK.1 i hi h1, fun w hw => by rw [o2 47 w (by omega)]; exact rK.2 w hw⟩
      refine pg49_74_X2_goThrough_19 (d := d + 4) ?_
      cases k with
      | zero =>
        rw [rn_0 rfl] at hF
        have fin : Φ (none, (xLay, I2, L', kG49_74 R)) := hΦ I2 L' (by
          rw [← hF]
          exact ⟨⟨f2, fl⟩, ⟨by rw [o2 74 13 (by omega)]; exact r13, by rw [o2 74 14 (by omega)]; exact r14, by rw [o2 74 15 (by omega)]; exact r15, by rw [o2 74 6 (by omega)]; exact r6⟩, K2, fun _ => by rw [T2]; exact rT 0 (Nat.le_refl _)⟩)
        refine pg49_74_X2_goThrough_5 (d := d + 4) ⟨fun _ => fin, fun _ => ⟨fun _ => fin, fun a => ?_⟩⟩
        have a := kl_nlt0 a
        omega
      | succ k =>
        exact ih k nx tr fd lg wy I2 L' _ _ (st + 1) ⟨⟨f2, fl⟩, ⟨by rw [o2 74 13 (by omega)]; exact r13, by rw [o2 74 14 (by omega)]; exact r14, by rw [o2 74 15 (by omega)]; exact r15, by rw [o2 74 6 (by omega)]; exact r6⟩, fun j hj => by rw [o2 81 j (by omega)]; exact r81 j (by omega), fun j hj => rn1 j (by omega), fun j hj => by rw [T2]; exact rT j (by omega), K2, t1000, fdt⟩ (by omega) (by omega) (by omega) (by omega) hF hz
    · -- a TRY
      rw [fi2] at ev
      have a := kl_lt.mp a
      rw [q1, ev] at a
      have enx : nx k < kcd 49 I0 s := by omega
      have c : ¬ kcd 49 I0 (ys.getD k 0) ≤ nx k := by rw [← es]; omega
      intro I6 e6
      have o6 : ∀ p j, ¬ (p = 74 ∧ j = 13) → I6 p j = I2 p j := fun p j q => by rw [e6, en_up_ne _ _ _ _ q]
      have q13 : (I6 74 13).toInt = tr + 1 := by rw [e6, en_up_eq, o2 74 13 (by omega), ml_in1 (by omega), r13]
      have f6 : g49_74_gfr I0 I6 := fun p j a1 a2 a3 a4 a5 => (o6 p j (by omega)).trans (f2 p j a1 a2 a3 a4 a5)
      have oo : ∀ p j, ¬ (p = 81 ∧ j = k) → ¬ (p = 74 ∧ j = 13) → I6 p j = J p j := fun p j a1 a2 => (o6 p j a2).trans (o2 p j a1)
      have T6 : ∀ j, g49_74_T I6 n j = g49_74_T J n j := fun j => by
        funext a b
        unfold g49_74_T
        rw [oo 76 _ (by omega) (by omega)]
      refine ⟨fun a => ⟨v, v, ?_⟩, fun a => ?_⟩
      rotate_left
      · -- SPENT
        have a := kl_nle a
        rw [q13, c1000] at a
        rw [rn_spent (nc := fun j => kcd 49 I0 (ys.getD j 0)) c (by omega)] at hF
        have o31 : ∀ p j, ¬ (p = 74 ∧ j = 15) → (sm_up I6 74 15 (1 : Int32)) p j = I6 p j := fun p j q => en_up_ne _ _ _ _ q
        refine hΦ _ L' ?_
        rw [← hF]
        refine ⟨⟨fun p j a1 a2 a3 a4 a5 => (o31 p j (by omega)).trans (f6 p j a1 a2 a3 a4 a5), fl⟩, ⟨?_, ?_, ?_, ?_⟩, ⟨fun i hi h1 => ?_, fun w hw => ?_⟩, fun _ => ?_⟩
        · rw [o31 74 13 (by omega), q13]; rfl
        · rw [o31 74 14 (by omega), oo 74 14 (by omega) (by omega)]; exact r14
        · exact en_up_eq _ _ _ _
        · rw [o31 74 6 (by omega), oo 74 6 (by omega) (by omega)]; exact r6
        · have hi : i < tr + 1 := hi
          rw [o31 46 i (by omega), oo 46 i (by omega) (by omega)]
          exact rK.1 i (by omega) h1
        · rw [o31 47 w (by omega), oo 47 w (by omega) (by omega)]
          exact rK.2 w hw
        · have e : g49_74_T (sm_up I6 74 15 (1 : Int32)) n 0 = g49_74_T I6 n 0 := by
            funext a b
            unfold g49_74_T
            rw [o31 76 _ (by omega)]
          rw [e, T6]
          exact rT 0 (Nat.zero_le _)
      have a := kl_le.mp a
      rw [q13, c1000] at a
      have tt : ¬ 1000 ≤ tr := by omega
      have s3 := ml_in1 (x := x3) (by omega)
      obtain ⟨B6, ehd⟩ := g49_74_fB f6 B
      obtain ⟨gi1, gi2, gi3⟩ := g49_74_fi (n := n) (s := s) f6
      have i80' : I6 80 k = Int32.ofNat s := (o6 80 k (by omega)).trans i80
      have i81' : I6 81 k = Int32.ofNat (nx k) := by rw [o6 81 k (by omega), k81, n1e]
      rw [i80', i81']
      refine g49_74_push (d := d + 1) B6 (g49_74_lv nw (by omega)) (by omega) h3 its (Int32.toInt_ofNat_of_lt (by omega)) (gi3 ik) (by rw [gi2]; exact enx) (by rw [T6]; exact rT k (Nat.le_refl _)) (fun r J7 z => ⟨r, J7, L', rfl, v, v, ?_⟩)
      rw [gi1, ehd] at z
      obtain ⟨cg7, z⟩ := z
      have chk : kcc 49 74 I0 (g49_74_hd I0) s (nx k) ++ cl B0 (fun i c => kcv 49 74 I0 (g49_74_hd I0) (ys.getD i 0) c) (fun i => nx i - 1) k = cl B0 (fun i c => kcv 49 74 I0 (g49_74_hd I0) (ys.getD i 0) c) (chs nx k (nx k)) (k + 1) := by
        show _ = kcv 49 74 I0 (g49_74_hd I0) (ys.getD k 0) (chs nx k (nx k) k) ++ cl B0 _ (chs nx k (nx k)) k
        have e1 : chs nx k (nx k) k = nx k := if_pos rfl
        have e2 : kcv 49 74 I0 (g49_74_hd I0) s (nx k) = kcc 49 74 I0 (g49_74_hd I0) s (nx k) := if_pos enx
        rw [e1, ← es, e2]
        congr 1
        exact cl_cg k (fun i hi => by
          have : chs nx k (nx k) i = nx i - 1 := if_neg (by omega)
          rw [this])
      rw [chk] at z
      have o7 : ∀ p j, p ≠ 76 → J7 p j = I6 p j := fun p j q => cg7 p j (by omega)
      have f7 : g49_74_gfr I0 J7 := fun p j a1 a2 a3 a4 a5 => (o7 p j a2).trans (f6 p j a1 a2 a3 a4 a5)
      have rr : r = 0 ∨ r = 1 := by
        rcases z with ⟨e, -⟩ | ⟨e, -⟩
        · exact Or.inl e
        · exact Or.inr e
      have q7 : (J7 74 13 - 1).toInt = (tr : Int) := by
        rw [o7 74 13 (by omega), Int32.toInt_sub, kl_1, q13]
        exact en_bmod (by omega) (by omega) (Or.inl (by omega))
      rw [o7 80 k (by omega), o7 81 k (by omega), i80', i81']
      refine g49_74_at (a := s) (b := nx k) q7 (by omega) rfl rfl rr (fun J10 o10 v10 => ⟨J10, L', rfl, ?_⟩)
      -- what all three ways on have in common
      have f10 : g49_74_gfr I0 J10 := fun p j a1 a2 a3 a4 a5 => (o10 p j (by omega)).trans (f7 p j a1 a2 a3 a4 a5)
      have oA : ∀ p j, p ≠ 76 → p ≠ 46 → ¬ (p = 81 ∧ j = k) → ¬ (p = 74 ∧ j = 13) → J10 p j = J p j := fun p j a1 a2 a3 a4 => by rw [o10 p j (by omega), o7 p j a1, oo p j a3 a4]
      have d13 : (J10 74 13).toInt = ((tr + 1 : Nat) : Int) := by rw [o10 74 13 (by omega), o7 74 13 (by omega), q13]; omega
      have d14 : (J10 74 14).toInt = fd := by rw [oA 74 14 (by omega) (by omega) (by omega) (by omega)]; exact r14
      have d15 : J10 74 15 = 0 := by rw [oA 74 15 (by omega) (by omega) (by omega) (by omega)]; exact r15
      have d6 : J10 74 6 = 0 := by rw [oA 74 6 (by omega) (by omega) (by omega) (by omega)]; exact r6
      have c81 : J10 81 k = Int32.ofNat (nx k) := by rw [o10 81 k (by omega), o7 81 k (by omega)]; exact i81'
      have d81 : ∀ j, j ≤ k → (J10 81 j).toInt = ((sup nx k (nx k + 1) j : Nat) : Int) - 1 ∧ sup nx k (nx k + 1) j ≤ kcd 49 I0 (ys.getD j 0) := fun j hj => by
        by_cases e : j = k
        · rw [e, sup_eq, c81, Int32.toInt_ofNat_of_lt (by omega), ← es]
          exact ⟨by omega, enx⟩
        · rw [sup_ne _ _ e, oA 81 j (by omega) (by omega) (by omega) (by omega)]
          exact r81 j hj
      have Tk : ∀ nx' : Nat → Nat, (∀ i, i < k → nx' i = nx i) → ∀ j, j ≤ k → ttop n (cl B0 (fun i c => kcv 49 74 I0 (g49_74_hd I0) (ys.getD i 0) c) (fun i => nx' i - 1) j) (g49_74_T J10 n j) := fun nx' e j hj => by
        rw [cl_nx (nx := nx') (nx' := nx) (fun i hi => e i (by omega))]
        refine ttop_eq (fun u v hu hv => ?_) (rT j hj)
        have tl := tix_lt hu hv
        have e1 : g49_74_T J10 n j u v = g49_74_T J7 n j u v := by unfold g49_74_T; rw [o10 76 _ (by omega)]
        have e2 : g49_74_T J7 n j u v = g49_74_T I6 n j u v := by
          unfold g49_74_T tix
          rw [cg7 76 _ (fun q => ?_)]
          have := Nat.mul_le_mul_right (n * n) (show j + 1 ≤ k + 1 by omega)
          rw [Nat.succ_mul] at this
          omega
        rw [e1, e2, T6]
      have lgb : kbk ys (tr + 1) fd (sup lg tr (k, nx k, !decide (r = 0))) wy J10 L' := by
        refine ⟨fun i hi h1 => ?_, fun w hw => ?_⟩
        · by_cases e : i = tr
          · rw [e, sup_eq, v10, es]
          · rw [sup_ne _ _ e, o10 46 i (by omega), o7 46 i (by omega), oo 46 i (by omega) (by omega)]
            exact rK.1 i (by omega) h1
        · rw [oA 47 w (by omega) (by omega) (by omega) (by omega)]
          exact rK.2 w hw
      have iM : (J10 74 11 - 1).toInt = (ys.length : Int) - 1 := by
        rw [f10 74 11 (by omega) (by omega) (by omega) (by omega) (by omega), Int32.toInt_sub, kl_1, k1]
        exact en_bmod (by omega) (by omega) (Or.inl rfl)
      have s41 : (x4 + 1).toInt = ((st + 1 : Nat) : Int) := by rw [s4, h4]; omega
      refine ⟨fun r0 => pg49_74_X2_goThrough_16 (d := d + 4) ⟨fun _ => pg49_74_X2_goThrough_19 (d := d + 4) ?_, fun q => absurd r0 q⟩, fun r0 => ?_⟩
      · -- it failed
        have zn : tno n (cl B0 (fun i c => kcv 49 74 I0 (g49_74_hd I0) (ys.getD i 0) c) (chs nx k (nx k)) (k + 1)) := by
          rcases z with ⟨-, q⟩ | ⟨q, -⟩
          · exact q
          · rw [r0] at q; exact absurd q (by decide)
        rw [rn_fail (nc := fun j => kcd 49 I0 (ys.getD j 0)) c tt (fz_f zn)] at hF
        rw [decide_eq_true r0] at lgb
        exact ih k (sup nx k (nx k + 1)) (tr + 1) fd (sup lg tr (k, nx k, false)) wy J10 L' x3 _ (st + 1) ⟨⟨f10, fl⟩, ⟨d13, d14, d15, d6⟩, d81, fun j hj => by rw [sup_ne _ _ (show j ≠ k by omega)]; exact rn1 j hj, Tk _ (fun i hi => sup_ne _ _ (by omega)), lgb, by omega, by omega⟩ km h3 s41 (by omega) hF hz
      have zt : ttop n (cl B0 (fun i c => kcv 49 74 I0 (g49_74_hd I0) (ys.getD i 0) c) (chs nx k (nx k)) (k + 1)) (g49_74_T J10 n (k + 1)) := by
        have e : g49_74_T J10 n (k + 1) = g49_74_T J7 n (k + 1) := by
          funext u v
          unfold g49_74_T
          rw [o10 76 _ (by omega)]
        rw [e]
        rcases z with ⟨q, -⟩ | ⟨-, q⟩
        · exact absurd q r0
        · exact q
      have ft := fz_t zt
      rw [decide_eq_false r0] at lgb
      have lgb : kbk ys (tr + 1) fd (sup lg tr (k, nx k, true)) wy J10 L' := lgb
      refine ⟨fun a => ?_, fun a => ⟨kl_in (by omega) (by omega), fun I13 e13 => pg49_74_X2_goThrough_19 (d := d + 4) ?_⟩⟩
      · -- a WAY
        have a := kl_le.mp a
        rw [iM, h3] at a
        have lm : ¬ k + 1 < ys.length := by omega
        rw [rn_way0 (nc := fun j => kcd 49 I0 (ys.getD j 0)) c tt ft lm] at hF
        refine pg49_74_X2_goThrough_16 (d := d + 4) ⟨fun q => absurd q r0, fun _ => ?_⟩
        refine g49_74_nw (d := d + 3) (ys := ys) (f := chs nx k (nx k)) (w := fd) ⟨?_, ?_⟩ (by omega) d14 (by omega) ?_ (fun i hi => ?_) mono (fun i hi => ?_) (fun J15 L15 o15 l15 wb15 d14' => ⟨J15, L15, rfl, fun _ => pg49_74_X2_goThrough_19 (d := d + 4) ?_, fun q => absurd rfl q⟩)
        · show (J10 74 11).toInt = _
          rw [f10 74 11 (by omega) (by omega) (by omega) (by omega) (by omega)]; exact k1
        · intro i hi
          show J10 80 i = _
          rw [f10 80 i (by omega) (by omega) (by omega) (by omega) (by omega)]; exact k2 i hi
        · rw [f10 74 10 (by omega) (by omega) (by omega) (by omega) (by omega)]; exact ng
        · by_cases e : i = k
          · rw [show chs nx k (nx k) i = nx k from if_pos e, e]
            exact c81
          · rw [show chs nx k (nx k) i = nx i - 1 from if_neg e]
            have b := (d81 i (by omega)).1
            rw [sup_ne _ _ e] at b
            have b1 := rn1 i (by omega)
            have b2 := (r81 i (by omega)).2
            have b3 := g49_74_c4 (iok i hi)
            exact en_ofI (by rw [b, Int32.toInt_ofNat_of_lt (by omega)]; omega)
        · have b3 := g49_74_c4 (iok i hi)
          by_cases e : i = k
          · rw [show chs nx k (nx k) i = nx k from if_pos e, e, ← es]
            omega
          · rw [show chs nx k (nx k) i = nx i - 1 from if_neg e]
            have b1 := rn1 i (by omega)
            have b2 := (r81 i (by omega)).2
            omega
        · have oB : ∀ p j, p ≠ 47 → ¬ (p = 74 ∧ j = 14) → J15 p j = J10 p j := fun p j q1 q2 => o15 p j (by omega) q2
          refine ih k (sup nx k (nx k + 1)) (tr + 1) (fd + 1) (sup lg tr (k, nx k, true)) (sup wy fd (chs nx k (nx k))) J15 L15 x3 _ (st + 1) ⟨⟨fun p j a1 a2 a3 a4 a5 => (oB p j a5 (by omega)).trans (f10 p j a1 a2 a3 a4 a5), fun p j q => (l15 p j (by omega)).trans (fl p j q)⟩, ⟨by rw [oB 74 13 (by omega) (by omega)]; exact d13, d14', by rw [oB 74 15 (by omega) (by omega)]; exact d15, by rw [oB 74 6 (by omega) (by omega)]; exact d6⟩, fun j hj => by rw [oB 81 j (by omega) (by omega)]; exact d81 j hj, fun j hj => by rw [sup_ne _ _ (show j ≠ k by omega)]; exact rn1 j hj, fun j hj => ttop_eq (fun u v _ _ => by unfold g49_74_T; rw [oB 76 _ (by omega) (by omega)]) (Tk _ (fun i hi => sup_ne _ _ (by omega)) j hj), ⟨fun i hi h1 => by rw [oB 46 i (by omega) (by omega)]; exact lgb.1 i hi h1, fun w hw => ?_⟩, by omega, by omega⟩ km h3 s41 (by omega) hF hz
          by_cases e : w = fd
          · rw [e, sup_eq]; exact wb15
          · rw [sup_ne _ _ e, o15 47 w (by omega) (by omega), l15 48 w (by omega)]
            exact lgb.2 w (by omega)
      · -- one ITEM further
        have a := kl_nle a
        rw [iM, h3] at a
        have lm : k + 1 < ys.length := by omega
        rw [rn_down (nc := fun j => kcd 49 I0 (ys.getD j 0)) c tt ft lm] at hF
        have x31 : (x3 + 1).toInt = ((k + 1 : Nat) : Int) := by rw [s3, h3]; omega
        rw [tk_nat x31] at e13
        have o16 : ∀ p j, ¬ (p = 81 ∧ j = k + 1) → I13 p j = J10 p j := fun p j q => by rw [e13, en_up_ne _ _ _ _ q]
        refine ih (k + 1) (sup (sup nx k (nx k + 1)) (k + 1) 0) (tr + 1) fd (sup lg tr (k, nx k, true)) wy I13 L' (x3 + 1) _ (st + 1) ⟨⟨fun p j a1 a2 a3 a4 a5 => (o16 p j (by omega)).trans (f10 p j a1 a2 a3 a4 a5), fl⟩, ⟨by rw [o16 74 13 (by omega)]; exact d13, by rw [o16 74 14 (by omega)]; exact d14, by rw [o16 74 15 (by omega)]; exact d15, by rw [o16 74 6 (by omega)]; exact d6⟩, fun j hj => ?_, fun j hj => ?_, fun j hj => ?_, ⟨fun i hi h1 => by rw [o16 46 i (by omega)]; exact lgb.1 i hi h1, fun w hw => by rw [o16 47 w (by omega)]; exact lgb.2 w hw⟩, by omega, by omega⟩ lm x31 s41 (by omega) hF hz
        · by_cases e : j = k + 1
          · rw [e, sup_eq, e13, en_up_eq]
            exact ⟨by rw [cm1]; rfl, Nat.zero_le _⟩
          · rw [sup_ne _ _ e, o16 81 j (by omega)]
            exact d81 j (by omega)
        · rw [sup_ne _ _ (show j ≠ k + 1 by omega)]
          by_cases e : j = k
          · rw [e, sup_eq]
            omega
          · rw [sup_ne _ _ e]
            exact rn1 j (by omega)
        · by_cases e : j = k + 1
          · rw [e]
            have ec : cl B0 (fun i c => kcv 49 74 I0 (g49_74_hd I0) (ys.getD i 0) c) (fun i => sup (sup nx k (nx k + 1)) (k + 1) 0 i - 1) (k + 1) = cl B0 (fun i c => kcv 49 74 I0 (g49_74_hd I0) (ys.getD i 0) c) (chs nx k (nx k)) (k + 1) := cl_cg (k + 1) (fun i hi => by
              show sup (sup nx k (nx k + 1)) (k + 1) 0 i - 1 = chs nx k (nx k) i
              rw [sup_ne _ _ (show i ≠ k + 1 by omega)]
              by_cases q : i = k
              · rw [q, sup_eq, Nat.add_sub_cancel]
                exact (if_pos rfl).symm
              · rw [sup_ne _ _ q]
                exact (if_neg q).symm)
            rw [ec]
            exact ttop_eq (fun u v _ _ => by unfold g49_74_T; rw [o16 76 _ (by omega)]) zt
          · exact ttop_eq (fun u v _ _ => by unfold g49_74_T; rw [o16 76 _ (by omega)]) (Tk _ (fun i hi => by rw [sup_ne _ _ (show i ≠ k + 1 by omega), sup_ne _ _ (show i ≠ k by omega)]) j (by omega))
end
end
section
/-! the class's GOING THROUGH all, exact; told = 12, going = 74 (wip/pe/mkg2.py) -/
section
variable {S : sm_C} {d : Nat} {Φ : sm_Z → Prop} {I : sm_I} {L : sm_L} {R : sm_R}
theorem g12_74_go {ys : List Nat} {n : Nat} {B0 : List tC} (ok : g12_74_ok ys I n) (bs : g12_74_st n B0 B0 I) (h : ∀ (J : sm_I) (L' : sm_L), g12_74_fin ys I L n B0 (GT n ys.length B0 (fun i c => kcv 12 74 I (g12_74_hd I) (ys.getD i 0) c) (fun j => kcd 12 I (ys.getD j 0)) false) J L' → Φ (none, (xLay, J, L', kG12_74 R))) : sm_wp sm_P S (d + 5) 225 0 [.ref 74, .ref 45, .int 0] [] (xLay, I, L, kG12_74 R) (0, 0) Φ := by
  have ok' := ok
  obtain ⟨B, kk, m55, ng, mono, iok⟩ := ok'
  refine pg12_74_X2_goThrough_0 (d := d + 4) (fun I1 e1 I2 e2 => ?_)
  have o2 : ∀ p j, ¬ (p = 74 ∧ (j = 6 ∨ j = 13 ∨ j = 14 ∨ j = 15)) → I2 p j = I p j := fun p j q => by rw [e2, en_up_ne _ _ _ _ (by omega), en_up_ne _ _ _ _ (by omega), e1, en_up_ne _ _ _ _ (by omega), en_up_ne _ _ _ _ (by omega)]
  have a13 : I2 74 13 = 0 := by rw [e2, en_up_ne _ _ _ _ (by omega), en_up_ne _ _ _ _ (by omega), e1, en_up_ne _ _ _ _ (by omega), en_up_eq]
  have a14 : I2 74 14 = 0 := by rw [e2, en_up_ne _ _ _ _ (by omega), en_up_ne _ _ _ _ (by omega), e1, en_up_eq]
  have a15 : I2 74 15 = 0 := by rw [e2, en_up_ne _ _ _ _ (by omega), en_up_eq]
  have a6 : I2 74 6 = 0 := by rw [e2, en_up_eq]
  have a12 : I2 74 12 = I 74 12 := o2 74 12 (by omega)
  have a11 : (I2 74 11).toInt = ys.length := by rw [o2 74 11 (by omega)]; exact kk.1
  have f2 : g12_74_gfr I I2 := fun p j a1 _ _ _ _ => o2 p j a1
  have lf : g12_74_lfr L L := fun _ _ _ => rfl
  have T2 : g12_74_T I2 n 0 = g12_74_T I n 0 := by
    funext a b
    unfold g12_74_T
    rw [o2 76 _ (by omega)]
  refine ⟨fun e => ?_, fun e => ⟨fun e0 => ?_, fun e0 => ⟨kl_in (by decide) (by decide), fun I3 e3 => ?_⟩⟩⟩
  · rw [a12] at e
    have zn : tno n B0 := by
      rcases bs with ⟨-, q⟩ | ⟨q, -⟩
      · exact q
      · rw [e] at q; exact absurd q (by decide)
    rw [GT_no zn] at h
    exact h I2 L ⟨⟨f2, lf⟩, ⟨by rw [a13]; rfl, by rw [a14]; rfl, by rw [a15]; rfl, a6⟩, ⟨fun i hi => absurd hi (Nat.not_lt_zero i), fun w hw => absurd hw (Nat.not_lt_zero w)⟩, fun q => absurd e q⟩
  all_goals
    rw [a12] at e
    have zt : ttop n B0 (g12_74_T I n 0) := by
      rcases bs with ⟨q, -⟩ | ⟨-, q⟩
      · exact absurd q e
      · exact q
    have z : fz n B0 (fun i c => kcv 12 74 I (g12_74_hd I) (ys.getD i 0) c) 0 (fun _ => 0) = true := fz_t (k := 0) zt
    unfold GT at h
    rw [if_pos z] at h
  · have m0 : ys.length = 0 := by rw [e0, kl_0] at a11; omega
    rw [if_pos m0] at h
    refine g12_74_nw (d := d + 3) (ys := ys) (f := fun _ => 0) (w := 0) ⟨a11, fun k hk => absurd hk (by omega)⟩ (by omega) (by rw [a14]; rfl) (by decide) (by rw [o2 74 10 (by omega)]; exact ng) (fun k hk => absurd hk (by omega)) mono (fun k hk => absurd hk (by omega)) (fun J L' fr fl wb q14 => ⟨J, L', rfl, ?_⟩)
    refine h J L' ⟨⟨fun p j a1 a2 a3 a4 a5 => (fr p j (by omega) (by omega)).trans (f2 p j a1 a2 a3 a4 a5), fun p j q => fl p j (by omega)⟩, ⟨by rw [fr 74 13 (by omega) (by omega), a13]; rfl, q14, by rw [fr 74 15 (by omega) (by omega), a15]; rfl, by rw [fr 74 6 (by omega) (by omega)]; exact a6⟩, ⟨fun i hi => absurd hi (Nat.not_lt_zero i), fun w hw => ?_⟩, fun _ => ?_⟩
    · have hw : w < 1 := hw
      have : w = 0 := by omega
      subst this
      exact wb
    · exact ttop_eq (fun u v _ _ => by unfold g12_74_T; rw [fr 76 _ (by omega) (by omega), o2 76 _ (by omega)]) zt
  · have m1 : 1 ≤ ys.length := by
      rcases Nat.eq_zero_or_pos ys.length with q | q
      · exfalso
        refine e0 (en_ofI ?_)
        rw [a11, q]; decide
      · exact q
    rw [if_neg (show ¬ ys.length = 0 by omega)] at h
    have z0 : (0 : Int32).toNatClampNeg = 0 := by decide
    rw [z0] at e3
    have o3 : ∀ p j, ¬ (p = 81 ∧ j = 0) → I3 p j = I2 p j := fun p j q => by rw [e3, en_up_ne _ _ _ _ q]
    refine g12_74_gt (d := d) ok m1 h 2001 0 (fun _ => 0) 0 0 (fun _ => (0, 0, false)) (fun _ _ => 0) I3 L 0 0 0 ⟨⟨fun p j a1 a2 a3 a4 a5 => (o3 p j (by omega)).trans (f2 p j a1 a2 a3 a4 a5), lf⟩, ⟨by rw [o3 74 13 (by omega), a13]; rfl, by rw [o3 74 14 (by omega), a14]; rfl, by rw [o3 74 15 (by omega)]; exact a15, by rw [o3 74 6 (by omega)]; exact a6⟩, fun j hj => ?_, fun j hj => absurd hj (Nat.not_lt_zero j), fun j hj => ?_, ⟨fun i hi => absurd hi (Nat.not_lt_zero i), fun w hw => absurd hw (Nat.not_lt_zero w)⟩, Nat.zero_le _, Nat.le_refl _⟩ (by omega) (by decide) (by decide) (by omega) rfl rn_s0
    · have : j = 0 := by omega
      rw [this, e3, en_up_eq]
      exact ⟨by decide, Nat.zero_le _⟩
    · have : j = 0 := by omega
      rw [this]
      exact ttop_eq (fun u v _ _ => by unfold g12_74_T; rw [o3 76 _ (by omega), o2 76 _ (by omega)]) zt
/-- what isGoneThrough writes -/
def g12_74_ifr (I J : sm_I) : Prop := ∀ p q, ¬ (p = 0 ∧ q = 12) → ¬ (p = 74 ∧ (q = 6 ∨ q = 7 ∨ q = 8 ∨ (10 ≤ q ∧ q ≤ 15))) → ¬ (p = 75 ∧ (q = 4 ∨ q = 5)) → ¬ (76 ≤ p ∧ p ≤ 81) → ¬ (p = 46 ∨ p = 47) → J p q = I p q
/-- the levels, as isGoneThrough leaves them -/
def g12_74_l0 (n : Nat) (J : sm_I) : Prop := g12_74_B J n ∧ (∀ a, a < n → J 77 a = Int32.ofNat a ∧ J 78 a = 0 ∧ J 79 a = 0) ∧ (J 74 6 = 0 ∧ J 74 7 = 0 ∧ J 74 8 = 0 ∧ J 74 10 = 0) ∧ ((J 74 12 = 0 ∧ tno n (kbaC 12 (kst J) id)) ∨ (J 74 12 = 1 ∧ ttop n (kbaC 12 (kst J) id) (g12_74_T J n 0)))
theorem g12_74_id {n : Nat} {J : sm_I} (h : ∀ a, a < n → J 77 a = Int32.ofNat a ∧ J 78 a = 0 ∧ J 79 a = 0) (n12 : n ≤ 12) : ∀ c : tC, c.1 < n → c.2.1 < n → g12_74_hd J c = c := fun c h1 h2 => by
  unfold g12_74_hd
  by_cases e : c.1 = c.2.1
  · rw [if_pos e]
  · rw [if_neg e, (h _ h1).1, (h _ h2).1, (h _ h1).2.2, (h _ h2).2.1, kl_0, tk_nat (Int32.toInt_ofNat_of_lt (by omega)), tk_nat (Int32.toInt_ofNat_of_lt (by omega))]
    show (c.1, c.2.1, c.2.2 - 0 + 0) = c
    rw [show c.2.2 - 0 + 0 = c.2.2 by omega]
theorem g12_74_ig (w : kW 12 I) (soft : I 74 1 = 0) (go : I 0 12 ≠ 0 → I 74 15 = if (KF 12 I).2.2.2.2.1 = true then 1 else 0) (h1 : I 0 12 ≠ 0 → Φ (some (.int (if (KF 12 I).2.2.2.2.1 = true then 0 else 1)), (xLay, I, L, kF12_74 R))) (h2 : I 0 12 = 0 → ∀ (J : sm_I) (L' : sm_L), g12_74_ifr I J → g12_74_lfr L L' → J 0 12 = 1 → kall 12 (kys 12 I) (KF 12 I) J L' → g12_74_l0 ((I 12 2).toNatClampNeg + 1) J → Φ (some (.int (if (KF 12 I).2.2.2.2.1 = true then 0 else 1)), (xLay, J, L', kG12_74 R))) : sm_wp sm_P S (d + 6) 56 0 [.ref 0] [] (xLay, I, L, kF12_74 R) (0, 0) Φ := by
  obtain ⟨w1, w2, w3, w4, w5, w6, w7⟩ := w
  have w1 : 0 ≤ (I 12 2).toInt ∧ (I 12 2).toInt ≤ 10 := w1
  have w2 : 0 ≤ (I 12 3).toInt ∧ (I 12 3).toInt ≤ 10 := w2
  have w3 : 0 ≤ (I 12 5).toInt ∧ (I 12 5).toInt ≤ 45 := w3
  have nt := kl_nat w1.1
  have ns := kl_nat w2.1
  have nm := kl_nat w3.1
  have nM := kl_nat w4.1
  refine pg12_74_X11_isGoneThrough_0 (d := d + 5) ⟨fun e0 => pg12_74_X10_allBitsF_0 ⟨_, I, L, rfl, fun n5 e5 => ?_⟩, fun e0 => ?_⟩
  · have e5 : n5 = kdb 12 I := e5
    rw [e5]
    refine g12_74_begin (d := d + 1) (n := (I 12 2).toNatClampNeg + 1) (s := (I 12 3).toNatClampNeg) (m := (I 12 5).toNatClampNeg) (M := (I 37 1).toNatClampNeg) soft nM.symm (by omega) w5 (by omega) (by omega) (by omega) (fun k hk => w6 k hk) ns.symm (by omega) nm.symm (by omega) (fun J6 fr6 z6 k6 B6 st6 bs6 => ⟨J6, L, rfl, ?_⟩)
    have k6 : kyM 74 J6 (kys 12 I) := k6
    have len : (kys 12 I).length ≤ 55 := by
      have := kitL_len (set := kdb 12 I) (s := (I 12 3).toNatClampNeg) (m := (I 12 5).toNatClampNeg)
      show (kitL (kdb 12 I) (I 12 3).toNatClampNeg (I 12 5).toNatClampNeg).length ≤ 55
      omega
    have inx : ∀ k, k < (kys 12 I).length → (kys 12 I).getD k 0 < (I 12 3).toNatClampNeg ∨ (100 ≤ (kys 12 I).getD k 0 ∧ (kys 12 I).getD k 0 < 100 + (I 12 5).toNatClampNeg) := fun k hk => kitL_in hk
    have t6 : ktf 12 (kst I) J6 := fun p j q => by
      unfold kst
      by_cases c : p = 74 ∧ (j = 7 ∨ j = 8)
      · rw [if_pos c]
        rcases c with ⟨rfl, rfl | rfl⟩
        · exact z6.2.1
        · exact z6.2.2.1
      · rw [if_neg c]; exact fr6 p j (by omega) (by omega) (by omega)
    have hdi := g12_74_id st6 (by omega)
    have iok6 : ∀ k, k < (kys 12 I).length → kiok 12 74 J6 ((I 12 2).toNatClampNeg + 1) ((kys 12 I).getD k 0) := fun k hk => k_iok t6 (w7 _ (inx k hk))
    have eB : kbaC 12 J6 (g12_74_hd J6) = kbaC 12 (kst I) id := by
      rw [← k_kba t6 id]
      have e1 : (J6 37 1).toNatClampNeg = (I 37 1).toNatClampNeg := by rw [fr6 37 1 (by omega) (by omega) (by omega)]
      have e2 : (J6 12 2).toNatClampNeg = (I 12 2).toNatClampNeg := by rw [fr6 12 2 (by omega) (by omega) (by omega)]
      show kmoL J6 (g12_74_hd J6) (J6 37 1).toNatClampNeg ++ kopL 12 J6 (g12_74_hd J6) (J6 12 2).toNatClampNeg = kmoL J6 id (J6 37 1).toNatClampNeg ++ kopL 12 J6 id (J6 12 2).toNatClampNeg
      have w5' : ∀ k, k < (I 37 1).toNatClampNeg → kmok J6 ((I 12 2).toNatClampNeg + 1) k := fun k hk => by
        have a := w5 k hk
        unfold kmok at a ⊢
        rw [fr6 41 k (by omega) (by omega) (by omega), fr6 42 k (by omega) (by omega) (by omega), fr6 43 k (by omega) (by omega) (by omega), fr6 44 k (by omega) (by omega) (by omega)]; exact a
      have w6' : ∀ k, k < (I 12 2).toNatClampNeg → kopk 12 J6 ((I 12 2).toNatClampNeg + 1) k := fun k hk => by
        have a := w6 k hk
        unfold kopk at a ⊢
        rw [fr6 (12 + 6) k (by omega) (by omega) (by omega), fr6 (12 + 7) k (by omega) (by omega) (by omega), fr6 (12 + 8) k (by omega) (by omega) (by omega)]; exact a
      rw [e1, e2, kmoL_id hdi _ w5', kopL_id hdi _ (by omega) w6']
    rw [eB] at bs6
    have eG : GT ((I 12 2).toNatClampNeg + 1) (kys 12 I).length (kbaC 12 (kst I) id) (fun i c => kcv 12 74 J6 (g12_74_hd J6) ((kys 12 I).getD i 0) c) (fun j => kcd 12 J6 ((kys 12 I).getD j 0)) false = KF 12 I := GT_cg (fun c => Iff.rfl) (fun k _ => k_kcd t6 _) (fun j hj c x => by rw [kcv_id hdi (iok6 j hj), k_kcv t6])
    refine g12_74_go (d := d) (ys := kys 12 I) ⟨B6, k6, len, z6.2.2.2, fun i j hij hj => kitL_mono (by omega) hij hj, iok6⟩ bs6 (fun J9 L9 fin9 => ⟨J9, L9, rfl, ?_⟩)
    rw [eG] at fin9
    obtain ⟨⟨f9, l9⟩, ⟨q13, q14, q15, q6⟩, kb9, T9⟩ := fin9
    have oU : ∀ p j, ¬ (p = 0 ∧ j = 12) → (sm_up J9 0 12 (1 : Int32)) p j = J9 p j := fun p j q => en_up_ne _ _ _ _ q
    have o9 : ∀ p j, ¬ (p = 0 ∧ j = 12) → ¬ (p = 74 ∧ (j = 6 ∨ j = 13 ∨ j = 14 ∨ j = 15)) → p ≠ 76 → p ≠ 81 → p ≠ 46 → p ≠ 47 → (sm_up J9 0 12 (1 : Int32)) p j = J6 p j := fun p j a0 a1 a2 a3 a4 a5 => (oU p j a0).trans (f9 p j a1 a2 a3 a4 a5)
    have fin : Φ (some (.int (if (KF 12 I).2.2.2.2.1 = true then 0 else 1)), (xLay, sm_up J9 0 12 (1 : Int32), L9, kG12_74 R)) := by
      refine h2 e0 _ L9 (fun p q a0 a1 a2 a3 a4 => ?_) l9 (en_up_eq _ _ _ _) ⟨⟨?_, fun k hk => ?_⟩, ⟨?_, ?_, ?_⟩, ⟨fun i hi h1 => ?_, fun w hw => ?_⟩⟩ ⟨?_, fun a ha => ?_, ⟨?_, ?_, ?_, ?_⟩, ?_⟩
      · rw [o9 p q a0 (by omega) (by omega) (by omega) (by omega) (by omega)]
        exact fr6 p q (by omega) (by omega) (by omega)
      · show (sm_up J9 0 12 (1 : Int32) 74 11).toInt = _
        rw [o9 74 11 (by omega) (by omega) (by omega) (by omega) (by omega) (by omega)]; exact k6.1
      · show sm_up J9 0 12 (1 : Int32) 80 k = _
        rw [o9 80 k (by omega) (by omega) (by omega) (by omega) (by omega) (by omega)]; exact k6.2 k hk
      · rw [oU 74 13 (by omega)]; exact q13
      · rw [oU 74 14 (by omega)]; exact q14
      · rw [oU 74 15 (by omega)]; exact q15
      · rw [oU 46 i (by omega)]; exact kb9.1 i hi h1
      · rw [oU 47 w (by omega)]; exact kb9.2 w hw
      · obtain ⟨b1, b2, b3, b4, b5⟩ := B6
        exact ⟨by rw [o9 75 4 (by omega) (by omega) (by omega) (by omega) (by omega) (by omega)]; exact b1, b2, b3, by rw [o9 75 5 (by omega) (by omega) (by omega) (by omega) (by omega) (by omega)]; exact b4, fun i hi => by rw [o9 77 i (by omega) (by omega) (by omega) (by omega) (by omega) (by omega), o9 78 i (by omega) (by omega) (by omega) (by omega) (by omega) (by omega), o9 79 i (by omega) (by omega) (by omega) (by omega) (by omega) (by omega)]; exact b5 i hi⟩
      · rw [o9 77 a (by omega) (by omega) (by omega) (by omega) (by omega) (by omega), o9 78 a (by omega) (by omega) (by omega) (by omega) (by omega) (by omega), o9 79 a (by omega) (by omega) (by omega) (by omega) (by omega) (by omega)]; exact st6 a ha
      · rw [oU 74 6 (by omega)]; exact q6
      · rw [o9 74 7 (by omega) (by omega) (by omega) (by omega) (by omega) (by omega)]; exact z6.2.1
      · rw [o9 74 8 (by omega) (by omega) (by omega) (by omega) (by omega) (by omega)]; exact z6.2.2.1
      · rw [o9 74 10 (by omega) (by omega) (by omega) (by omega) (by omega) (by omega)]; exact z6.2.2.2
      · have eb : kbaC 12 (kst (sm_up J9 0 12 (1 : Int32))) id = kbaC 12 (kst I) id := k_kba (kst_t (by decide) (fun p j q => by
          rw [o9 p j (by omega) (by omega) (by omega) (by omega) (by omega) (by omega)]
          exact fr6 p j (by omega) (by omega) (by omega))) id
        rw [eb, o9 74 12 (by omega) (by omega) (by omega) (by omega) (by omega) (by omega)]
        rcases bs6 with s | ⟨s1, s2⟩
        · exact Or.inl s
        · refine Or.inr ⟨s1, ttop_eq (fun u v _ _ => ?_) (T9 (by rw [s1]; decide))⟩
          unfold g12_74_T
          rw [oU 76 _ (by omega)]
    have e15 : (sm_up J9 0 12 (1 : Int32)) 74 15 = if (KF 12 I).2.2.2.2.1 = true then 1 else 0 := (oU 74 15 (by omega)).trans q15
    rw [e15]
    by_cases c : (KF 12 I).2.2.2.2.1 = true
    · rw [if_pos c] at fin ⊢
      exact ⟨fun q => absurd q (by decide), fun _ => fin⟩
    · rw [if_neg c] at fin ⊢
      exact ⟨fun _ => fin, fun q => absurd rfl q⟩
  · rw [go e0]
    have fin := h1 e0
    by_cases c : (KF 12 I).2.2.2.2.1 = true
    · rw [if_pos c] at fin ⊢
      exact ⟨fun q => absurd q (by decide), fun _ => fin⟩
    · rw [if_neg c] at fin ⊢
      exact ⟨fun _ => fin, fun q => absurd rfl q⟩
end
end
section
/-! the class's GOING THROUGH all, exact; told = 49, going = 74 (wip/pe/mkg2.py) -/
section
variable {S : sm_C} {d : Nat} {Φ : sm_Z → Prop} {I : sm_I} {L : sm_L} {R : sm_R}
theorem g49_74_go {ys : List Nat} {n : Nat} {B0 : List tC} (ok : g49_74_ok ys I n) (bs : g49_74_st n B0 B0 I) (h : ∀ (J : sm_I) (L' : sm_L), g49_74_fin ys I L n B0 (GT n ys.length B0 (fun i c => kcv 49 74 I (g49_74_hd I) (ys.getD i 0) c) (fun j => kcd 49 I (ys.getD j 0)) false) J L' → Φ (none, (xLay, J, L', kG49_74 R))) : sm_wp sm_P S (d + 5) 225 0 [.ref 74, .ref 45, .int 0] [] (xLay, I, L, kG49_74 R) (0, 0) Φ := by
  have ok' := ok
  obtain ⟨B, kk, m55, ng, mono, iok⟩ := ok'
  refine pg49_74_X2_goThrough_0 (d := d + 4) (fun I1 e1 I2 e2 => ?_)
  have o2 : ∀ p j, ¬ (p = 74 ∧ (j = 6 ∨ j = 13 ∨ j = 14 ∨ j = 15)) → I2 p j = I p j := fun p j q => by rw [e2, en_up_ne _ _ _ _ (by omega), en_up_ne _ _ _ _ (by omega), e1, en_up_ne _ _ _ _ (by omega), en_up_ne _ _ _ _ (by omega)]
  have a13 : I2 74 13 = 0 := by rw [e2, en_up_ne _ _ _ _ (by omega), en_up_ne _ _ _ _ (by omega), e1, en_up_ne _ _ _ _ (by omega), en_up_eq]
  have a14 : I2 74 14 = 0 := by rw [e2, en_up_ne _ _ _ _ (by omega), en_up_ne _ _ _ _ (by omega), e1, en_up_eq]
  have a15 : I2 74 15 = 0 := by rw [e2, en_up_ne _ _ _ _ (by omega), en_up_eq]
  have a6 : I2 74 6 = 0 := by rw [e2, en_up_eq]
  have a12 : I2 74 12 = I 74 12 := o2 74 12 (by omega)
  have a11 : (I2 74 11).toInt = ys.length := by rw [o2 74 11 (by omega)]; exact kk.1
  have f2 : g49_74_gfr I I2 := fun p j a1 _ _ _ _ => o2 p j a1
  have lf : g49_74_lfr L L := fun _ _ _ => rfl
  have T2 : g49_74_T I2 n 0 = g49_74_T I n 0 := by
    funext a b
    unfold g49_74_T
    rw [o2 76 _ (by omega)]
  refine ⟨fun e => ?_, fun e => ⟨fun e0 => ?_, fun e0 => ⟨kl_in (by decide) (by decide), fun I3 e3 => ?_⟩⟩⟩
  · rw [a12] at e
    have zn : tno n B0 := by
      rcases bs with ⟨-, q⟩ | ⟨q, -⟩
      · exact q
      · rw [e] at q; exact absurd q (by decide)
    rw [GT_no zn] at h
    exact h I2 L ⟨⟨f2, lf⟩, ⟨by rw [a13]; rfl, by rw [a14]; rfl, by rw [a15]; rfl, a6⟩, ⟨fun i hi => absurd hi (Nat.not_lt_zero i), fun w hw => absurd hw (Nat.not_lt_zero w)⟩, fun q => absurd e q⟩
  all_goals
    rw [a12] at e
    have zt : ttop n B0 (g49_74_T I n 0) := by
      rcases bs with ⟨q, -⟩ | ⟨-, q⟩
      · exact absurd q e
      · exact q
    have z : fz n B0 (fun i c => kcv 49 74 I (g49_74_hd I) (ys.getD i 0) c) 0 (fun _ => 0) = true := fz_t (k := 0) zt
    unfold GT at h
    rw [if_pos z] at h
  · have m0 : ys.length = 0 := by rw [e0, kl_0] at a11; omega
    rw [if_pos m0] at h
    refine g49_74_nw (d := d + 3) (ys := ys) (f := fun _ => 0) (w := 0) ⟨a11, fun k hk => absurd hk (by omega)⟩ (by omega) (by rw [a14]; rfl) (by decide) (by rw [o2 74 10 (by omega)]; exact ng) (fun k hk => absurd hk (by omega)) mono (fun k hk => absurd hk (by omega)) (fun J L' fr fl wb q14 => ⟨J, L', rfl, ?_⟩)
    refine h J L' ⟨⟨fun p j a1 a2 a3 a4 a5 => (fr p j (by omega) (by omega)).trans (f2 p j a1 a2 a3 a4 a5), fun p j q => fl p j (by omega)⟩, ⟨by rw [fr 74 13 (by omega) (by omega), a13]; rfl, q14, by rw [fr 74 15 (by omega) (by omega), a15]; rfl, by rw [fr 74 6 (by omega) (by omega)]; exact a6⟩, ⟨fun i hi => absurd hi (Nat.not_lt_zero i), fun w hw => ?_⟩, fun _ => ?_⟩
    · have hw : w < 1 := hw
      have : w = 0 := by omega
      subst this
      exact wb
    · exact ttop_eq (fun u v _ _ => by unfold g49_74_T; rw [fr 76 _ (by omega) (by omega), o2 76 _ (by omega)]) zt
  · have m1 : 1 ≤ ys.length := by
      rcases Nat.eq_zero_or_pos ys.length with q | q
      · exfalso
        refine e0 (en_ofI ?_)
        rw [a11, q]; decide
      · exact q
    rw [if_neg (show ¬ ys.length = 0 by omega)] at h
    have z0 : (0 : Int32).toNatClampNeg = 0 := by decide
    rw [z0] at e3
    have o3 : ∀ p j, ¬ (p = 81 ∧ j = 0) → I3 p j = I2 p j := fun p j q => by rw [e3, en_up_ne _ _ _ _ q]
    refine g49_74_gt (d := d) ok m1 h 2001 0 (fun _ => 0) 0 0 (fun _ => (0, 0, false)) (fun _ _ => 0) I3 L 0 0 0 ⟨⟨fun p j a1 a2 a3 a4 a5 => (o3 p j (by omega)).trans (f2 p j a1 a2 a3 a4 a5), lf⟩, ⟨by rw [o3 74 13 (by omega), a13]; rfl, by rw [o3 74 14 (by omega), a14]; rfl, by rw [o3 74 15 (by omega)]; exact a15, by rw [o3 74 6 (by omega)]; exact a6⟩, fun j hj => ?_, fun j hj => absurd hj (Nat.not_lt_zero j), fun j hj => ?_, ⟨fun i hi => absurd hi (Nat.not_lt_zero i), fun w hw => absurd hw (Nat.not_lt_zero w)⟩, Nat.zero_le _, Nat.le_refl _⟩ (by omega) (by decide) (by decide) (by omega) rfl rn_s0
    · have : j = 0 := by omega
      rw [this, e3, en_up_eq]
      exact ⟨by decide, Nat.zero_le _⟩
    · have : j = 0 := by omega
      rw [this]
      exact ttop_eq (fun u v _ _ => by unfold g49_74_T; rw [o3 76 _ (by omega), o2 76 _ (by omega)]) zt
/-- what isGoneThrough writes -/
def g49_74_ifr (I J : sm_I) : Prop := ∀ p q, ¬ (p = 0 ∧ q = 12) → ¬ (p = 74 ∧ (q = 6 ∨ q = 7 ∨ q = 8 ∨ (10 ≤ q ∧ q ≤ 15))) → ¬ (p = 75 ∧ (q = 4 ∨ q = 5)) → ¬ (76 ≤ p ∧ p ≤ 81) → ¬ (p = 46 ∨ p = 47) → J p q = I p q
/-- the levels, as isGoneThrough leaves them -/
def g49_74_l0 (n : Nat) (J : sm_I) : Prop := g49_74_B J n ∧ (∀ a, a < n → J 77 a = Int32.ofNat a ∧ J 78 a = 0 ∧ J 79 a = 0) ∧ (J 74 6 = 0 ∧ J 74 7 = 0 ∧ J 74 8 = 0 ∧ J 74 10 = 0) ∧ ((J 74 12 = 0 ∧ tno n (kbaC 49 (kst J) id)) ∨ (J 74 12 = 1 ∧ ttop n (kbaC 49 (kst J) id) (g49_74_T J n 0)))
theorem g49_74_id {n : Nat} {J : sm_I} (h : ∀ a, a < n → J 77 a = Int32.ofNat a ∧ J 78 a = 0 ∧ J 79 a = 0) (n12 : n ≤ 12) : ∀ c : tC, c.1 < n → c.2.1 < n → g49_74_hd J c = c := fun c h1 h2 => by
  unfold g49_74_hd
  by_cases e : c.1 = c.2.1
  · rw [if_pos e]
  · rw [if_neg e, (h _ h1).1, (h _ h2).1, (h _ h1).2.2, (h _ h2).2.1, kl_0, tk_nat (Int32.toInt_ofNat_of_lt (by omega)), tk_nat (Int32.toInt_ofNat_of_lt (by omega))]
    show (c.1, c.2.1, c.2.2 - 0 + 0) = c
    rw [show c.2.2 - 0 + 0 = c.2.2 by omega]
theorem g49_74_ig (w : kW 49 I) (soft : I 74 1 = 0) (go : I 0 12 ≠ 0 → I 74 15 = if (KF 49 I).2.2.2.2.1 = true then 1 else 0) (h1 : I 0 12 ≠ 0 → Φ (some (.int (if (KF 49 I).2.2.2.2.1 = true then 0 else 1)), (xLay, I, L, kF49_74 R))) (h2 : I 0 12 = 0 → ∀ (J : sm_I) (L' : sm_L), g49_74_ifr I J → g49_74_lfr L L' → J 0 12 = 1 → kall 49 (kys 49 I) (KF 49 I) J L' → g49_74_l0 ((I 49 2).toNatClampNeg + 1) J → Φ (some (.int (if (KF 49 I).2.2.2.2.1 = true then 0 else 1)), (xLay, J, L', kG49_74 R))) : sm_wp sm_P S (d + 6) 56 0 [.ref 0] [] (xLay, I, L, kF49_74 R) (0, 0) Φ := by
  obtain ⟨w1, w2, w3, w4, w5, w6, w7⟩ := w
  have w1 : 0 ≤ (I 49 2).toInt ∧ (I 49 2).toInt ≤ 10 := w1
  have w2 : 0 ≤ (I 49 3).toInt ∧ (I 49 3).toInt ≤ 10 := w2
  have w3 : 0 ≤ (I 49 5).toInt ∧ (I 49 5).toInt ≤ 45 := w3
  have nt := kl_nat w1.1
  have ns := kl_nat w2.1
  have nm := kl_nat w3.1
  have nM := kl_nat w4.1
  refine pg49_74_X11_isGoneThrough_0 (d := d + 5) ⟨fun e0 => pg49_74_X10_allBitsF_0 ⟨_, I, L, rfl, fun n5 e5 => ?_⟩, fun e0 => ?_⟩
  · have e5 : n5 = kdb 49 I := e5
    rw [e5]
    refine g49_74_begin (d := d + 1) (n := (I 49 2).toNatClampNeg + 1) (s := (I 49 3).toNatClampNeg) (m := (I 49 5).toNatClampNeg) (M := (I 37 1).toNatClampNeg) soft nM.symm (by omega) w5 (by omega) (by omega) (by omega) (fun k hk => w6 k hk) ns.symm (by omega) nm.symm (by omega) (fun J6 fr6 z6 k6 B6 st6 bs6 => ⟨J6, L, rfl, ?_⟩)
    have k6 : kyM 74 J6 (kys 49 I) := k6
    have len : (kys 49 I).length ≤ 55 := by
      have := kitL_len (set := kdb 49 I) (s := (I 49 3).toNatClampNeg) (m := (I 49 5).toNatClampNeg)
      show (kitL (kdb 49 I) (I 49 3).toNatClampNeg (I 49 5).toNatClampNeg).length ≤ 55
      omega
    have inx : ∀ k, k < (kys 49 I).length → (kys 49 I).getD k 0 < (I 49 3).toNatClampNeg ∨ (100 ≤ (kys 49 I).getD k 0 ∧ (kys 49 I).getD k 0 < 100 + (I 49 5).toNatClampNeg) := fun k hk => kitL_in hk
    have t6 : ktf 49 (kst I) J6 := fun p j q => by
      unfold kst
      by_cases c : p = 74 ∧ (j = 7 ∨ j = 8)
      · rw [if_pos c]
        rcases c with ⟨rfl, rfl | rfl⟩
        · exact z6.2.1
        · exact z6.2.2.1
      · rw [if_neg c]; exact fr6 p j (by omega) (by omega) (by omega)
    have hdi := g49_74_id st6 (by omega)
    have iok6 : ∀ k, k < (kys 49 I).length → kiok 49 74 J6 ((I 49 2).toNatClampNeg + 1) ((kys 49 I).getD k 0) := fun k hk => k_iok t6 (w7 _ (inx k hk))
    have eB : kbaC 49 J6 (g49_74_hd J6) = kbaC 49 (kst I) id := by
      rw [← k_kba t6 id]
      have e1 : (J6 37 1).toNatClampNeg = (I 37 1).toNatClampNeg := by rw [fr6 37 1 (by omega) (by omega) (by omega)]
      have e2 : (J6 49 2).toNatClampNeg = (I 49 2).toNatClampNeg := by rw [fr6 49 2 (by omega) (by omega) (by omega)]
      show kmoL J6 (g49_74_hd J6) (J6 37 1).toNatClampNeg ++ kopL 49 J6 (g49_74_hd J6) (J6 49 2).toNatClampNeg = kmoL J6 id (J6 37 1).toNatClampNeg ++ kopL 49 J6 id (J6 49 2).toNatClampNeg
      have w5' : ∀ k, k < (I 37 1).toNatClampNeg → kmok J6 ((I 49 2).toNatClampNeg + 1) k := fun k hk => by
        have a := w5 k hk
        unfold kmok at a ⊢
        rw [fr6 41 k (by omega) (by omega) (by omega), fr6 42 k (by omega) (by omega) (by omega), fr6 43 k (by omega) (by omega) (by omega), fr6 44 k (by omega) (by omega) (by omega)]; exact a
      have w6' : ∀ k, k < (I 49 2).toNatClampNeg → kopk 49 J6 ((I 49 2).toNatClampNeg + 1) k := fun k hk => by
        have a := w6 k hk
        unfold kopk at a ⊢
        rw [fr6 (49 + 6) k (by omega) (by omega) (by omega), fr6 (49 + 7) k (by omega) (by omega) (by omega), fr6 (49 + 8) k (by omega) (by omega) (by omega)]; exact a
      rw [e1, e2, kmoL_id hdi _ w5', kopL_id hdi _ (by omega) w6']
    rw [eB] at bs6
    have eG : GT ((I 49 2).toNatClampNeg + 1) (kys 49 I).length (kbaC 49 (kst I) id) (fun i c => kcv 49 74 J6 (g49_74_hd J6) ((kys 49 I).getD i 0) c) (fun j => kcd 49 J6 ((kys 49 I).getD j 0)) false = KF 49 I := GT_cg (fun c => Iff.rfl) (fun k _ => k_kcd t6 _) (fun j hj c x => by rw [kcv_id hdi (iok6 j hj), k_kcv t6])
    refine g49_74_go (d := d) (ys := kys 49 I) ⟨B6, k6, len, z6.2.2.2, fun i j hij hj => kitL_mono (by omega) hij hj, iok6⟩ bs6 (fun J9 L9 fin9 => ⟨J9, L9, rfl, ?_⟩)
    rw [eG] at fin9
    obtain ⟨⟨f9, l9⟩, ⟨q13, q14, q15, q6⟩, kb9, T9⟩ := fin9
    have oU : ∀ p j, ¬ (p = 0 ∧ j = 12) → (sm_up J9 0 12 (1 : Int32)) p j = J9 p j := fun p j q => en_up_ne _ _ _ _ q
    have o9 : ∀ p j, ¬ (p = 0 ∧ j = 12) → ¬ (p = 74 ∧ (j = 6 ∨ j = 13 ∨ j = 14 ∨ j = 15)) → p ≠ 76 → p ≠ 81 → p ≠ 46 → p ≠ 47 → (sm_up J9 0 12 (1 : Int32)) p j = J6 p j := fun p j a0 a1 a2 a3 a4 a5 => (oU p j a0).trans (f9 p j a1 a2 a3 a4 a5)
    have fin : Φ (some (.int (if (KF 49 I).2.2.2.2.1 = true then 0 else 1)), (xLay, sm_up J9 0 12 (1 : Int32), L9, kG49_74 R)) := by
      refine h2 e0 _ L9 (fun p q a0 a1 a2 a3 a4 => ?_) l9 (en_up_eq _ _ _ _) ⟨⟨?_, fun k hk => ?_⟩, ⟨?_, ?_, ?_⟩, ⟨fun i hi h1 => ?_, fun w hw => ?_⟩⟩ ⟨?_, fun a ha => ?_, ⟨?_, ?_, ?_, ?_⟩, ?_⟩
      · rw [o9 p q a0 (by omega) (by omega) (by omega) (by omega) (by omega)]
        exact fr6 p q (by omega) (by omega) (by omega)
      · show (sm_up J9 0 12 (1 : Int32) 74 11).toInt = _
        rw [o9 74 11 (by omega) (by omega) (by omega) (by omega) (by omega) (by omega)]; exact k6.1
      · show sm_up J9 0 12 (1 : Int32) 80 k = _
        rw [o9 80 k (by omega) (by omega) (by omega) (by omega) (by omega) (by omega)]; exact k6.2 k hk
      · rw [oU 74 13 (by omega)]; exact q13
      · rw [oU 74 14 (by omega)]; exact q14
      · rw [oU 74 15 (by omega)]; exact q15
      · rw [oU 46 i (by omega)]; exact kb9.1 i hi h1
      · rw [oU 47 w (by omega)]; exact kb9.2 w hw
      · obtain ⟨b1, b2, b3, b4, b5⟩ := B6
        exact ⟨by rw [o9 75 4 (by omega) (by omega) (by omega) (by omega) (by omega) (by omega)]; exact b1, b2, b3, by rw [o9 75 5 (by omega) (by omega) (by omega) (by omega) (by omega) (by omega)]; exact b4, fun i hi => by rw [o9 77 i (by omega) (by omega) (by omega) (by omega) (by omega) (by omega), o9 78 i (by omega) (by omega) (by omega) (by omega) (by omega) (by omega), o9 79 i (by omega) (by omega) (by omega) (by omega) (by omega) (by omega)]; exact b5 i hi⟩
      · rw [o9 77 a (by omega) (by omega) (by omega) (by omega) (by omega) (by omega), o9 78 a (by omega) (by omega) (by omega) (by omega) (by omega) (by omega), o9 79 a (by omega) (by omega) (by omega) (by omega) (by omega) (by omega)]; exact st6 a ha
      · rw [oU 74 6 (by omega)]; exact q6
      · rw [o9 74 7 (by omega) (by omega) (by omega) (by omega) (by omega) (by omega)]; exact z6.2.1
      · rw [o9 74 8 (by omega) (by omega) (by omega) (by omega) (by omega) (by omega)]; exact z6.2.2.1
      · rw [o9 74 10 (by omega) (by omega) (by omega) (by omega) (by omega) (by omega)]; exact z6.2.2.2
      · have eb : kbaC 49 (kst (sm_up J9 0 12 (1 : Int32))) id = kbaC 49 (kst I) id := k_kba (kst_t (by decide) (fun p j q => by
          rw [o9 p j (by omega) (by omega) (by omega) (by omega) (by omega) (by omega)]
          exact fr6 p j (by omega) (by omega) (by omega))) id
        rw [eb, o9 74 12 (by omega) (by omega) (by omega) (by omega) (by omega) (by omega)]
        rcases bs6 with s | ⟨s1, s2⟩
        · exact Or.inl s
        · refine Or.inr ⟨s1, ttop_eq (fun u v _ _ => ?_) (T9 (by rw [s1]; decide))⟩
          unfold g49_74_T
          rw [oU 76 _ (by omega)]
    have e15 : (sm_up J9 0 12 (1 : Int32)) 74 15 = if (KF 49 I).2.2.2.2.1 = true then 1 else 0 := (oU 74 15 (by omega)).trans q15
    rw [e15]
    by_cases c : (KF 49 I).2.2.2.2.1 = true
    · rw [if_pos c] at fin ⊢
      exact ⟨fun q => absurd q (by decide), fun _ => fin⟩
    · rw [if_neg c] at fin ⊢
      exact ⟨fun _ => fin, fun q => absurd rfl q⟩
  · rw [go e0]
    have fin := h1 e0
    by_cases c : (KF 49 I).2.2.2.2.1 = true
    · rw [if_pos c] at fin ⊢
      exact ⟨fun q => absurd q (by decide), fun _ => fin⟩
    · rw [if_neg c] at fin ⊢
      exact ⟨fun _ => fin, fun q => absurd rfl q⟩
end
end
section
/-! the levels of the class's net (wip/pe/mkl1.py) -/
def nT (I : sm_I) (n lev i j : Nat) : Int := (I 76 (tix n lev i j)).toInt
def nB (I : sm_I) (n : Nat) : Prop := (I 75 4).toInt = n ∧ 1 ≤ n ∧ n ≤ 11 ∧ (I 75 5).toInt = ((n * n : Nat) : Int) ∧ ∀ i, i < n → (0 ≤ (I 77 i).toInt ∧ (I 77 i).toInt < n) ∧ (-1440 ≤ (I 78 i).toInt ∧ (I 78 i).toInt ≤ 1440) ∧ (-1440 ≤ (I 79 i).toInt ∧ (I 79 i).toInt ≤ 1440)
def kB0 (Q : Nat) (I : sm_I) : List tC := kbaC Q (kst I) id
def kC0 (Q : Nat) (I : sm_I) (i c : Nat) : List tC := kcv Q 74 (kst I) id ((kys Q I).getD i 0) c
def kn (Q : Nat) (I : sm_I) : Nat := (I Q 2).toNatClampNeg + 1
/-- level 0 holds what holds always, the next ones a choice each -/
def klv (Q : Nat) (I : sm_I) : Prop := nB I (kn Q I) ∧ (∀ a, a < kn Q I → I 77 a = Int32.ofNat a ∧ I 78 a = 0 ∧ I 79 a = 0) ∧ (I 74 7 = 0 ∧ I 74 8 = 0 ∧ I 74 10 = 0) ∧ ((I 74 6 = 0 ∧ tno (kn Q I) (kB0 Q I)) ∨ ∃ (b : Nat) (ch : Nat → Nat), b ≤ (kys Q I).length ∧ (I 74 6).toInt = b ∧ (∀ k, k < b → I 81 k = Int32.ofNat (ch k) ∧ ch k < 4) ∧ ∀ j, j ≤ b → ttop (kn Q I) (cl (kB0 Q I) (kC0 Q I) ch j) (nT I (kn Q I) j))
theorem kB0_cg {Q : Nat} {I J : sm_I} (hQ : Q = 12 ∨ Q = 49) (h : ∀ p j, (Q ≤ p ∧ p < Q + 25) ∨ p = 37 ∨ (41 ≤ p ∧ p ≤ 44) → J p j = I p j) : kB0 Q J = kB0 Q I ∧ kC0 Q J = kC0 Q I ∧ kn Q J = kn Q I := by
  refine ⟨k_kba (kst_t hQ h) id, ?_, ?_⟩
  · funext i c
    unfold kC0
    rw [kys_cg h, k_kcv (kst_t hQ h)]
  · unfold kn
    rw [h Q 2 (by omega)]
theorem klv_cg {Q : Nat} {I J : sm_I} (hQ : Q = 12 ∨ Q = 49) (h : ∀ p j, (Q ≤ p ∧ p < Q + 25) ∨ p = 37 ∨ (41 ≤ p ∧ p ≤ 44) → J p j = I p j) (g : ∀ p j, (p = 74 ∧ (j = 6 ∨ j = 7 ∨ j = 8 ∨ j = 10)) ∨ (p = 75 ∧ (j = 4 ∨ j = 5)) ∨ (77 ≤ p ∧ p ≤ 79) ∨ p = 81 → J p j = I p j) (t : ∀ j, j ≤ (kys Q I).length → ∀ a b, a < kn Q I → b < kn Q I → nT J (kn Q I) j a b = nT I (kn Q I) j a b) (k : klv Q I) : klv Q J := by
  obtain ⟨e1, e2, e3⟩ := kB0_cg hQ h
  obtain ⟨⟨b1, b2, b3, b4, b5⟩, i1, ⟨z7, z8, z10⟩, w⟩ := k
  unfold klv nB
  rw [e1, e2, e3, kys_cg h, g 75 4 (by omega), g 75 5 (by omega), g 74 6 (by omega), g 74 7 (by omega), g 74 8 (by omega), g 74 10 (by omega)]
  refine ⟨⟨b1, b2, b3, b4, fun i hi => by rw [g 77 i (by omega), g 78 i (by omega), g 79 i (by omega)]; exact b5 i hi⟩, fun a ha => by rw [g 77 a (by omega), g 78 a (by omega), g 79 a (by omega)]; exact i1 a ha, ⟨z7, z8, z10⟩, ?_⟩
  rcases w with w | ⟨b, ch, w1, w2, w3, w4⟩
  · exact Or.inl w
  · exact Or.inr ⟨b, ch, w1, w2, fun k hk => by rw [g 81 k (by omega)]; exact w3 k hk, fun j hj => ttop_eq (fun a c ha hc => (t j (by omega) a c ha hc).symm) (w4 j hj)⟩
theorem cl_le {B : List tC} {cc : Nat → Nat → List tC} {ch : Nat → Nat} {c : tC} : ∀ k m, k ≤ m → c ∈ cl B cc ch k → c ∈ cl B cc ch m := by
  intro k m h hc
  obtain ⟨t, rfl⟩ : ∃ t, m = k + t := ⟨m - k, by omega⟩
  clear h
  induction t with
  | zero => exact hc
  | succ t ih => exact List.mem_append.mpr (Or.inr ih)
/-- what a WAY's levels are -/
def brf (I J : sm_I) : Prop := ∀ p j, p ≠ 76 → p ≠ 81 → ¬ (p = 74 ∧ j = 6) → J p j = I p j
noncomputable def kwy (Q : Nat) (I : sm_I) (w : Nat) : Nat → Nat := (KF Q I).2.2.2.2.2.2 w
def brd (Q w : Nat) (I J : sm_I) : Prop := (J 74 6).toInt = (kys Q I).length ∧ (∀ k, k < (kys Q I).length → J 81 k = Int32.ofNat (kwy Q I w k) ∧ kwy Q I w k < 4) ∧ ∀ j, j ≤ (kys Q I).length → ttop (kn Q I) (cl (kB0 Q I) (kC0 Q I) (kwy Q I w) j) (nT J (kn Q I) j)
theorem klv_br {Q w : Nat} {I J : sm_I} (hQ : Q = 12 ∨ Q = 49) (f : brf I J) (d : brd Q w I J) (k : klv Q I) : klv Q J := by
  have h : ∀ p j, (Q ≤ p ∧ p < Q + 25) ∨ p = 37 ∨ (41 ≤ p ∧ p ≤ 44) → J p j = I p j := fun p j q => f p j (by omega) (by omega) (by omega)
  obtain ⟨e1, e2, e3⟩ := kB0_cg hQ h
  obtain ⟨⟨b1, b2, b3, b4, b5⟩, i1, ⟨z7, z8, z10⟩, -⟩ := k
  obtain ⟨d1, d2, d3⟩ := d
  unfold klv nB
  rw [e1, e2, e3, kys_cg h, f 75 4 (by omega) (by omega) (by omega), f 75 5 (by omega) (by omega) (by omega), f 74 7 (by omega) (by omega) (by omega), f 74 8 (by omega) (by omega) (by omega), f 74 10 (by omega) (by omega) (by omega)]
  refine ⟨⟨b1, b2, b3, b4, fun i hi => by rw [f 77 i (by omega) (by omega) (by omega), f 78 i (by omega) (by omega) (by omega), f 79 i (by omega) (by omega) (by omega)]; exact b5 i hi⟩, fun a ha => by rw [f 77 a (by omega) (by omega) (by omega), f 78 a (by omega) (by omega) (by omega), f 79 a (by omega) (by omega) (by omega)]; exact i1 a ha, ⟨z7, z8, z10⟩, Or.inr ⟨_, kwy Q I w, Nat.le_refl _, d1, d2, d3⟩⟩
/-- of a WAY that was found -/
theorem kwy_f {Q : Nat} {I : sm_I} {w : Nat} (wf : w < (KF Q I).2.2.2.1) : (KF Q I).2.2.2.1 ≤ 1000 ∧ (∀ k, k < (kys Q I).length → kwy Q I w k < kcd Q (kst I) ((kys Q I).getD k 0)) ∧ ∀ k, k ≤ (kys Q I).length → ¬ tno (kn Q I) (cl (kB0 Q I) (kC0 Q I) (kwy Q I w) k) := by
  have g := GT_wf (n := kn Q I) (m := (kys Q I).length) (B := kB0 Q I) (cc := kC0 Q I) (nc := fun j => kcd Q (kst I) ((kys Q I).getD j 0)) (tf := false)
  have g1 : (∀ i, i < (kys Q I).length → kwy Q I w i < kcd Q (kst I) ((kys Q I).getD i 0)) ∧ fz (kn Q I) (kB0 Q I) (kC0 Q I) (kys Q I).length (kwy Q I w) = true := g.2.2.1 w wf
  refine ⟨g.2.2.2.2.1.1, g1.1, fun k hk q => ?_⟩
  have t := fz_f (tno_cg (fun c hc => cl_le k (kys Q I).length hk hc) q)
  rw [g1.2] at t
  exact absurd t (by decide)
end
section
/-! the class's bring, exact; told = 12, going = 74 (wip/pe/mkl1.py) -/
section
variable {S : sm_C} {d : Nat} {Φ : sm_Z → Prop} {I : sm_I} {L : sm_L} {R : sm_R}
theorem kwy12_4 {I : sm_I} {w : Nat} (hk : kW 12 I) (wf : w < (KF 12 I).2.2.2.1) {k : Nat} (hk' : k < (kys 12 I).length) : ((kys 12 I).getD k 0 < 10 ∧ kwy 12 I w k < 4) ∨ (100 ≤ (kys 12 I).getD k 0 ∧ (kys 12 I).getD k 0 < 145 ∧ kwy 12 I w k < 2) := by
  have yin : (kys 12 I).getD k 0 < (I 12 3).toNatClampNeg ∨ (100 ≤ (kys 12 I).getD k 0 ∧ (kys 12 I).getD k 0 < 100 + (I 12 5).toNatClampNeg) := kitL_in hk'
  have v := (kwy_f wf).2.1 k hk'
  rcases g12_74_c4 (hk.2.2.2.2.2.2 _ yin) with ⟨b1, b2⟩ | ⟨b1, b2, b3⟩
  · exact Or.inl ⟨b1, by omega⟩
  · exact Or.inr ⟨b1, b2, by omega⟩
theorem chB12 {J : sm_I} {w k : Nat} {x y : Int32} (hk : kW 12 I) (wf : w < (KF 12 I).2.2.2.1) (hx : x.toInt = w) (bk : wbk (J 47 w) (L 48 w) (gyw (kys 12 I) (kwy 12 I w) (kys 12 I).length)) (hk' : k < (kys 12 I).length) (hy : y = Int32.ofNat ((kys 12 I).getD k 0)) (h : Φ (some (.int (Int32.ofNat (kwy 12 I w k))), (xLay, J, L, kG12_74 R))) : sm_wp sm_P S d 216 0 [.ref 45, .int x, .int y] [] (xLay, J, L, kG12_74 R) (0, 0) Φ := by
  have f1 := (kwy_f wf).1
  have x0 : 0 ≤ x.toInt := by omega
  have nx : x.toNatClampNeg = w := tk_nat hx
  have s10 : (I 12 3).toNatClampNeg ≤ 10 := by
    have := kl_nat hk.2.1.1
    have := hk.2.1.2
    omega
  have gy : gyw (kys 12 I) (kwy 12 I w) (kys 12 I).length ((kys 12 I).getD k 0) = kwy 12 I w k := gyw_at _ hk' (fun j a b => by
    have : (kys 12 I).getD k 0 < (kys 12 I).getD j 0 := kitL_mono s10 a b
    omega)
  have h1000 : (1000 : Int32).toInt = 1000 := by decide
  have h100 : (100 : Int32).toInt = 100 := by decide
  refine pg12_74_X1_choiceOf_0 ⟨fun q => ?_, fun _ => ⟨fun _ => ⟨fun a => ⟨kl_in x0 (by omega), ?_⟩, fun a => ⟨kl_in x0 (by omega), ?_⟩⟩, fun q => absurd (Int32.lt_iff_toInt_lt.mpr (by rw [h1000]; omega)) q⟩⟩
  · have := Int32.lt_iff_toInt_lt.mp q
    rw [kl_0] at this
    omega
  · have a' := kl_le.mp a
    rcases kwy12_4 hk wf hk' with ⟨b1, b2⟩ | ⟨b1, b2, b3⟩
    · rw [hy, Int32.toInt_ofNat_of_lt (by omega), h100] at a'
      omega
    · obtain ⟨t, ht⟩ : ∃ t, (kys 12 I).getD k 0 = 100 + t := ⟨(kys 12 I).getD k 0 - 100, by omega⟩
      rw [ht] at gy
      have e := wbk_dm (k := t) bk (by omega) (by rw [gy]; exact b3)
      rw [gy] at e
      rw [nx, hy, ht, e]
      exact h
  · rcases kwy12_4 hk wf hk' with ⟨b1, b2⟩ | ⟨b1, b2, b3⟩
    · have e := wbk_ds bk b1 (by rw [gy]; exact b2)
      rw [gy] at e
      rw [nx, hy, e]
      exact h
    · exact absurd (kl_le.mpr (by rw [hy, Int32.toInt_ofNat_of_lt (by omega), h100]; omega)) a
theorem br12_lp {I0 : sm_I} {w : Nat} {x2 : Int32} (hk : kW 12 I0) (ka : kall 12 (kys 12 I0) (KF 12 I0) I0 L) (lv : klv 12 I0) (wf : w < (KF 12 I0).2.2.2.1) (hx : x2.toInt = w) (h : ∀ J, brf I0 J → brd 12 w I0 J → Φ (some (.int 1), (xLay, J, L, kG12_74 R))) : ∀ (m k : Nat) (x3 : Int32) (J : sm_I) (b : Nat) (ch : Nat → Nat), x3.toInt = k → k + m = (kys 12 I0).length → brf I0 J → k ≤ b → b ≤ (kys 12 I0).length → (J 74 6).toInt = b → (∀ j, j < b → J 81 j = Int32.ofNat (ch j) ∧ ch j < 4) → (∀ j, j < k → ch j = kwy 12 I0 w j) → (∀ j, j ≤ b → ttop (kn 12 I0) (cl (kB0 12 I0) (kC0 12 I0) ch j) (nT J (kn 12 I0) j)) → sm_wp sm_P S (d + 4) 222 1 [.ref 74, .ref 45, .int x2, .int x3] [] (xLay, J, L, kG12_74 R) (0, 0) Φ := by
  obtain ⟨f1, f2, f3⟩ := kwy_f wf
  obtain ⟨⟨a1, a2⟩, -, -, bks⟩ := ka
  obtain ⟨bB, ids, ⟨z7, z8, z10⟩, -⟩ := lv
  have n11 : kn 12 I0 ≤ 11 := bB.2.2.1
  have len : (kys 12 I0).length ≤ 55 := by
    have := kitL_len (set := kdb 12 I0) (s := (I0 12 3).toNatClampNeg) (m := (I0 12 5).toNatClampNeg)
    have := kl_nat hk.2.1.1
    have := kl_nat hk.2.2.1.1
    have := hk.2.1.2
    have := hk.2.2.1.2
    unfold kys
    omega
  have w4 : ∀ k, k < (kys 12 I0).length → kwy 12 I0 w k < 4 := fun k hk' => by
    rcases kwy12_4 hk wf hk' with q | q
    · exact q.2
    · omega
  intro m
  induction m with
  | zero =>
    intro k x3 J b ch h3 hm fr kb bl h6 h81 hch hT
    have a11 : J 74 11 = I0 74 11 := fr 74 11 (by omega) (by omega) (by omega)
    have bl' : b = (kys 12 I0).length := by omega
    refine pg12_74_X2_bring_1 (d := d + 3) ⟨fun _ => h J fr ⟨by omega, fun j hj => ?_, fun j hj => ?_⟩, fun c => ?_⟩
    · have := h81 j (by omega)
      rw [hch j (by omega)] at this
      exact this
    · rw [← cl_cg j (fun i hi => hch i (by omega))]
      exact hT j (by omega)
    · have c := kl_nle c
      rw [a11, a1] at c
      omega
  | succ m ih =>
    intro k x3 J b ch h3 hm fr kb bl h6 h81 hch hT
    have a11 : J 74 11 = I0 74 11 := fr 74 11 (by omega) (by omega) (by omega)
    have n3 := tk_nat h3
    have s3 := ml_in1 (x := x3) (by omega)
    have kl : k < (kys 12 I0).length := by omega
    have v : vp_in x3 60 := kl_in (by omega) (by omega)
    have i80 : J 80 k = Int32.ofNat ((kys 12 I0).getD k 0) := by rw [fr 80 k (by omega) (by omega) (by omega)]; exact a2 k kl
    have c4 := w4 k kl
    have cs := kwy12_4 hk wf kl
    have go : ∀ I4 : sm_I, I4 = sm_up (sm_up J 74 6 x3) 81 x3.toNatClampNeg (Int32.ofNat (kwy 12 I0 w k)) → sm_wp sm_P S (d + 3) 234 0 [.ref 74, .int x3, .int (I4 80 x3.toNatClampNeg), .int (Int32.ofNat (kwy 12 I0 w k))] [] (xLay, I4, L, kG12_74 R) (0, 0) (fun z => ∃ (r7 : Int32) (I5 : sm_I) (L6 : sm_L), z = (some (.int r7), (xLay, I5, L6, (kG12_74 R))) ∧ ((r7 = 0 → Φ (some (.int (0 : Int32)), (xLay, I5, L6, (kG12_74 R)))) ∧ (¬ r7 = 0 → ∀ I8 : sm_I, I8 = (sm_up I5 74 6 (x3 + (1 : Int32))) → sm_wp sm_P S (d + 4) 222 1 [.ref 74, .ref 45, .int x2, .int (x3 + (1 : Int32))] [] (xLay, I8, L6, (kG12_74 R)) (0, 0) Φ))) := by
      intro I4 e4
      have o4 : ∀ p j, ¬ (p = 74 ∧ j = 6) → ¬ (p = 81 ∧ j = k) → I4 p j = J p j := fun p j q1 q2 => by rw [e4, n3, en_up_ne _ _ _ _ q2, en_up_ne _ _ _ _ q1]
      have k81 : I4 81 k = Int32.ofNat (kwy 12 I0 w k) := by rw [e4, n3, en_up_eq]
      have fr4 : brf I0 I4 := fun p j q1 q2 q3 => (o4 p j q3 (by omega)).trans (fr p j q1 q2 q3)
      have B4 : g12_74_B I4 (kn 12 I0) := by
        obtain ⟨b1, b2, b3, b4, b5⟩ := bB
        exact ⟨by rw [fr4 75 4 (by omega) (by omega) (by omega)]; exact b1, b2, b3, by rw [fr4 75 5 (by omega) (by omega) (by omega)]; exact b4, fun i hi => by rw [fr4 77 i (by omega) (by omega) (by omega), fr4 78 i (by omega) (by omega) (by omega), fr4 79 i (by omega) (by omega) (by omega)]; exact b5 i hi⟩
      have hd4 : ∀ c : tC, c.1 < kn 12 I0 → c.2.1 < kn 12 I0 → g12_74_hd I4 c = c := g12_74_id (n := kn 12 I0) (fun a ha => by rw [fr4 77 a (by omega) (by omega) (by omega), fr4 78 a (by omega) (by omega) (by omega), fr4 79 a (by omega) (by omega) (by omega)]; exact ids a ha) (by omega)
      have kt : ktf 12 (kst I0) I4 := fun p j q => by
        unfold kst
        by_cases c : p = 74 ∧ (j = 7 ∨ j = 8)
        · rw [if_pos c]
          obtain ⟨rfl, rfl | rfl⟩ := c
          · rw [fr4 74 7 (by omega) (by omega) (by omega)]; exact z7
          · rw [fr4 74 8 (by omega) (by omega) (by omega)]; exact z8
        · rw [if_neg c]; exact fr4 p j (by omega) (by omega) (by omega)
      obtain ⟨s, es⟩ : ∃ s, s = (kys 12 I0).getD k 0 := ⟨_, rfl⟩
      have yin : (kys 12 I0).getD k 0 < (I0 12 3).toNatClampNeg ∨ (100 ≤ (kys 12 I0).getD k 0 ∧ (kys 12 I0).getD k 0 < 100 + (I0 12 5).toNatClampNeg) := kitL_in kl
      have ok : kiok 12 74 (kst I0) (kn 12 I0) s := by rw [es]; exact hk.2.2.2.2.2.2 _ yin
      have cn : kwy 12 I0 w k < kcd 12 (kst I0) s := by rw [es]; exact f2 k kl
      have T4 : ttop (kn 12 I0) (cl (kB0 12 I0) (kC0 12 I0) ch k) (g12_74_T I4 (kn 12 I0) k) := ttop_eq (fun a c ha hc => by
        show (J 76 _).toInt = (I4 76 _).toInt
        rw [o4 76 _ (by omega) (by omega)]) (hT k kb)
      rw [n3, o4 80 k (by omega) (by omega), i80, ← es]
      refine g12_74_push (d := d) B4 (g12_74_lv n11 (by omega)) (by omega) h3 (Int32.toInt_ofNat_of_lt (by omega)) (Int32.toInt_ofNat_of_lt (by omega)) (k_iok kt ok) (by rw [k_kcd kt]; exact cn) T4 (fun r J7 z => ⟨r, J7, L, rfl, ?_⟩)
      have chk : kcc 12 74 I4 (g12_74_hd I4) s (kwy 12 I0 w k) ++ cl (kB0 12 I0) (kC0 12 I0) ch k = cl (kB0 12 I0) (kC0 12 I0) (kwy 12 I0 w) (k + 1) := by
        show _ = kC0 12 I0 k (kwy 12 I0 w k) ++ cl (kB0 12 I0) (kC0 12 I0) (kwy 12 I0 w) k
        rw [cl_cg k (fun i hi => hch i hi)]
        congr 1
        unfold kC0
        rw [← es, ← k_kcv kt, ← kcv_id hd4 (k_iok kt ok)]
        unfold kcv
        rw [if_pos (by rw [k_kcd kt]; exact cn)]
      rw [chk] at z
      obtain ⟨cg7, z⟩ := z
      have o7 : ∀ p j, p ≠ 76 → J7 p j = I4 p j := fun p j q => cg7 p j (by omega)
      rcases z with ⟨-, z⟩ | ⟨r1, z⟩
      · exact absurd z (f3 (k + 1) (by omega))
      · refine ⟨fun q => by rw [r1] at q; exact absurd q (by decide), fun _ I8 e8 => ?_⟩
        have o8 : ∀ p j, ¬ (p = 74 ∧ j = 6) → I8 p j = J7 p j := fun p j q => by rw [e8, en_up_ne _ _ _ _ q]
        refine ih (k + 1) _ I8 (k + 1) (kwy 12 I0 w) (by omega) (by omega) (fun p j q1 q2 q3 => by rw [o8 p j q3, o7 p j q1]; exact fr4 p j q1 q2 q3) (Nat.le_refl _) (by omega) (by rw [e8, en_up_eq, s3, h3]; omega) (fun j hj => ?_) (fun _ _ => rfl) (fun j hj => ?_)
        · rw [o8 81 j (by omega), o7 81 j (by omega)]
          refine ⟨?_, w4 j (by omega)⟩
          by_cases c : j = k
          · rw [c]; exact k81
          · rw [o4 81 j (by omega) (by omega), (h81 j (by omega)).1, hch j (by omega)]
        · by_cases c : j = k + 1
          · rw [c]
            refine ttop_eq (fun a e ha he => ?_) z
            show (J7 76 _).toInt = (I8 76 _).toInt
            rw [o8 76 _ (by omega)]
          · rw [← cl_cg j (fun i hi => hch i (by omega))]
            refine ttop_eq (fun a e ha he => ?_) (hT j (by omega))
            have tl := tix_lt ha he
            show (J 76 _).toInt = (I8 76 _).toInt
            rw [o8 76 _ (by omega), cg7 76 _ (fun q => ?_), o4 76 _ (by omega) (by omega)]
            unfold tix at q
            have := Nat.mul_le_mul_right (kn 12 I0 * kn 12 I0) (show j + 1 ≤ k + 1 by omega)
            rw [Nat.succ_mul] at this
            omega
    refine pg12_74_X2_bring_1 (d := d + 3) ⟨fun c => ?_, fun _ => ⟨v, ?_⟩⟩
    · have c := kl_le.mp c
      rw [a11, a1] at c
      omega
    rw [n3] at *
    refine chB12 hk wf hx (by rw [fr 47 w (by omega) (by omega) (by omega)]; exact bks w wf) kl i80 ⟨_, J, L, rfl, fun c => ⟨v, fun I4 e4 => ⟨v, go I4 e4⟩⟩, fun c => ⟨v, fun c2 => ?_, fun c2 => ⟨v, fun I4 e4 => ⟨v, go I4 e4⟩⟩⟩⟩
    have c := kl_nle c
    have q := h81 k (by omega)
    rw [q.1] at c2
    have e := congrArg Int32.toInt c2
    rw [Int32.toInt_ofNat_of_lt (by omega), Int32.toInt_ofNat_of_lt (by omega)] at e
    exact ih (k + 1) _ J b ch (by omega) (by omega) fr (by omega) bl h6 h81 (fun j hj => by
      by_cases u : j = k
      · rw [u]; omega
      · exact hch j (by omega)) hT
theorem br12 {w : Nat} {x2 : Int32} (hk : kW 12 I) (ka : kall 12 (kys 12 I) (KF 12 I) I L) (lv : klv 12 I) (wf : w < (KF 12 I).2.2.2.1) (hx : x2.toInt = w) (h : ∀ J, brf I J → brd 12 w I J → Φ (some (.int 1), (xLay, J, L, kG12_74 R))) : sm_wp sm_P S (d + 4) 222 0 [.ref 74, .ref 45, .int x2] [] (xLay, I, L, kG12_74 R) (0, 0) Φ := by
  obtain ⟨-, -, -, c⟩ := id lv
  rcases c with ⟨-, t⟩ | ⟨b, ch, c1, c2, c3, c4⟩
  · have e : KF 12 I = gz 0 := GT_no t
    rw [e] at wf
    exact absurd wf (Nat.not_lt_zero _)
  · exact pg12_74_X2_bring_0 (d := d + 3) (br12_lp hk ka lv wf hx h (kys 12 I).length 0 0 I b ch kl_0 (by omega) (fun _ _ _ _ _ => rfl) (Nat.zero_le _) c1 c2 c3 (fun _ q => absurd q (Nat.not_lt_zero _)) c4)
end
end
