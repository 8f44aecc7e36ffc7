/-! the reference's search, step by step -/
section
variable {S : sm_C} {d : Nat} {Φ : sm_Z → Prop} {I : sm_I} {L : sm_L} {R : sm_R}
theorem rx_notes {x1 x2 x3 : Int32} {a b t : Nat} (h1 : x1 = Int32.ofNat a) (h2 : x2 = Int32.ofNat b) (a1 : a < 128) (b1 : b < 128) (h3 : x3 = 0 ∨ x3 = 1) (ht : (I 107 63).toInt = ((t + 1 : Nat) : Int)) (t1 : t < 1000) (h : ∀ J, (∀ p j, ¬ ((154 ≤ p ∧ p ≤ 156) ∧ j = t) → J p j = I p j) → J 154 t = Int32.ofNat a → J 155 t = Int32.ofNat b → J 156 t = x3 → Φ (none, (xLay, J, L, kM R))) : sm_wp sm_P S d 168 0 [.ref 107, .int x1, .int x2, .int x3] [] (xLay, I, L, kM R) (0, 0) Φ := by
  have s : ∀ J : sm_I, J 107 63 = I 107 63 → (J 107 63 - 1).toInt = (t : Int) := fun J e => by
    rw [e, Int32.toInt_sub, kl_1]
    exact en_bmod (by omega) (by omega) (Or.inl (by omega))
  have s0 := s I rfl
  refine p_X12_notes_0 ⟨kl_in (by omega) (by omega), fun I1 e1 => ?_⟩
  rw [tk_nat s0, h1, nar_y a a1] at e1
  have s1 := s I1 (by rw [e1, en_up_ne _ _ _ _ (by omega)])
  refine ⟨kl_in (by omega) (by omega), fun I2 e2 => ?_⟩
  rw [tk_nat s1, h2, nar_y b b1] at e2
  have s2 := s I2 (by rw [e2, en_up_ne _ _ _ _ (by omega), e1, en_up_ne _ _ _ _ (by omega)])
  refine ⟨kl_in (by omega) (by omega), fun I3 e3 => ?_⟩
  have en : vp_nar .boolean x3 = x3 := by
    rcases h3 with q | q
    · rw [q]; exact nar_yz.1
    · rw [q]; exact nar_yz.2
  rw [tk_nat s2, en] at e3
  refine h I3 (fun p j hp => ?_) ?_ ?_ ?_
  · rw [e3, en_up_ne _ _ _ _ (by omega), e2, en_up_ne _ _ _ _ (by omega), e1, en_up_ne _ _ _ _ (by omega)]
  · rw [e3, en_up_ne _ _ _ _ (by omega), e2, en_up_ne _ _ _ _ (by omega), e1, en_up_eq]
  · rw [e3, en_up_ne _ _ _ _ (by omega), e2, en_up_eq]
  · rw [e3, en_up_eq]
theorem rx_search {kp : Bool} {xs : List Nat} {I0 : sm_I} {l n : Nat} {B0 : List tC} {x1 : Int32} {F : ss} (bs : rBs I0 n l) (hM : lM I0 xs) (m1 : 1 ≤ xs.length) (m65 : xs.length ≤ 65) (m55 : kp = true → xs.length ≤ 55) (hx : x1 = if kp = true then 1 else 0) (sr : ∀ k, k < xs.length → xs.getD k 0 < 55 ∨ (60 ≤ xs.getD k 0 ∧ xs.getD k 0 < 70)) (ok : ∀ k, k < xs.length → iok I0 l n (xs.getD k 0)) (b128 : ∀ j, j < 20 → 0 ≤ (I0 128 j).toInt ∧ (I0 128 j).toInt ≤ 4) (g0 : 0 ≤ (I0 107 69).toInt) (g1 : (I0 107 69).toInt ≤ 5000) (hΦ : ∀ J, zfin kp xs I0 F J → Φ (some (.int (Int32.ofNat F.2.2.2.1)), (xLay, J, L, kM R))) : ∀ (f k : Nat) (nx : Nat → Nat) (tr fd : Nat) (lg : Nat → Nat × Nat × Bool) (wy : Nat → Nat → Nat) (J : sm_I) (x2 x3 : Int32), srl kp xs I0 l n B0 k nx tr fd lg wy J → k < xs.length → x3.toInt = k → x2.toInt = fd → rn xs.length (fun j => icd I0 l (xs.getD j 0)) (fz n B0 (fun i c => icv I0 l (xs.getD i 0) c)) (!kp) f (k + 1, nx, tr, fd, false, lg, wy) = F → F.1 = 0 → sm_wp sm_P S (d + 5) 186 3 [.ref 107, .int x1, .int x2, .int x3] [] (xLay, J, L, kM R) (0, 0) Φ := by
  intro f
  induction f with
  | zero =>
    intro k nx tr fd lg wy J x2 x3 _ _ _ _ e z
    have e : (k + 1, nx, tr, fd, false, lg, wy) = F := e
    rw [← e] at z
    exact absurd z (Nat.succ_ne_zero k)
  | succ f ih =>
    intro k nx tr fd lg wy J x2 x3 rel km h3 h2 hF hz
    obtain ⟨⟨fr, fk⟩, r63, r64, r150, r149, rT, rL, t1000, fdt, fd0⟩ := id rel
    have p3 := tk_nat h3
    have v70 : vp_in x3 70 := kl_in (by omega) (by omega)
    have hL := s_lM fr hM
    have l18 : (J 107 18).toInt = l := by rw [fr 107 18 (by omega)]; exact bs.2.2.1
    have l1 := bs.2.2.2.1
    have bJ : ∀ j, j < 20 → 0 ≤ (J 128 j).toInt ∧ (J 128 j).toInt ≤ 4 := fun j hj => by rw [fr 128 j (by omega)]; exact b128 j hj
    obtain ⟨s, es⟩ : ∃ s, s = xs.getD k 0 := ⟨_, rfl⟩
    have sk := sr k km
    have okk := ok k km
    rw [← es] at sk okk
    have it : J 148 k = Int32.ofNat s := by rw [es]; exact hL.2 k km
    have its : (Int32.ofNat s).toInt = s := Int32.toInt_ofNat_of_lt (by omega)
    obtain ⟨n0, nk⟩ := r150 k (Nat.le_refl _)
    have ic4 : ∀ s, icd I0 l s ≤ 4 := fun s => by
      unfold icd
      split
      · next c =>
        have b := b128 (10 * l + s) (by omega)
        have := kl_nat b.1
        omega
      · split
        · split <;> omega
        · split <;> omega
    have ic4s := ic4 s
    rw [← es] at nk
    refine p_X12_searches_3 ⟨fun a => ?_, fun _ => ⟨v70, v70, ?_⟩⟩
    · have a := kl_lt.mp a
      rw [kl_0] at a; omega
    rw [p3, it]
    refine rx_nc its sk l18 l1 bJ (fun v ev => ⟨v, J, L, rfl, fun e => ?_, fun e => ?_⟩)
    · -- back
      rw [s_icd fr] at ev
      have enx : nx k = icd I0 l s := by
        rw [n0] at e
        have := congrArg Int32.toInt e
        rw [Int32.toInt_ofNat_of_lt (by omega), ev] at this
        omega
      rw [rn_back (nc := fun j => icd I0 l (xs.getD j 0)) (k := k) (nx := nx) (by show icd I0 l (xs.getD k 0) ≤ nx k; rw [← es, enx]; exact Nat.le_refl _)] at hF
      obtain ⟨y3, ey3⟩ : ∃ y : Int32, y = x3 + (-1 : Int32) := ⟨_, rfl⟩
      have hy3 : y3.toInt = (k : Int) - 1 := by
        rw [ey3]
        exact (ml_ad h3 (by decide : (-1 : Int32).toInt = -1) (by omega) (by omega)).trans (by omega)
      rw [← ey3]
      cases k with
      | zero =>
        rw [rn_0 rfl] at hF
        refine p_X12_searches_3 ⟨fun _ => ?_, fun a => ?_⟩
        · have ex2 : x2 = Int32.ofNat fd := en_ofI (by rw [h2, Int32.toInt_ofNat_of_lt (by omega)])
          have g := hΦ J (by rw [← hF]; exact ⟨⟨fr, fk⟩, r63, r64, rL⟩)
          rw [← hF] at g
          rw [ex2]; exact g
        · have a := kl_nlt0 a
          omega
      | succ k =>
        have mk : y3.toInt = (k : Int) := by omega
        exact ih k nx tr fd lg wy J x2 _ ⟨⟨fr, fk⟩, r63, r64, fun j hj => r150 j (by omega), fun j hj => r149 j (by omega), fun j hj => rT j (by omega), rL, t1000, fdt, fd0⟩ (by omega) mk h2 hF hz
    · -- a TRY
      rw [s_icd fr] at ev
      have enx : nx k < icd I0 l s := by
        rcases Nat.lt_or_ge (nx k) (icd I0 l s) with u | u
        · exact u
        · exfalso
          refine e ?_
          rw [n0]
          exact en_ofI (by rw [Int32.toInt_ofNat_of_lt (by omega), ev]; omega)
      have c : ¬ icd I0 l (xs.getD k 0) ≤ nx k := by rw [← es]; omega
      refine ⟨v70, v70, fun n4 e4 => ⟨v70, fun I5 e5 I6 e6 => ?_⟩⟩
      have i5 : I5 107 63 = J 107 63 := by rw [e5, en_up_ne _ _ _ _ (by omega)]
      have q6 : (I6 107 63).toInt = tr + 1 := by rw [e6, en_up_eq, i5, ml_in1 (by omega), r63]
      have o6 : ∀ p j, ¬ (p = 150 ∧ j = k) → ¬ (p = 107 ∧ j = 63) → I6 p j = J p j := fun p j a b => by rw [e6, en_up_ne _ _ _ _ b, e5, en_up_ne _ _ _ _ a]
      have n4e : n4 = Int32.ofNat (nx k + 1) := by
        rw [e4, n0]
        exact en_ofI (by rw [ml_in1 (by rw [Int32.toInt_ofNat_of_lt (by omega)]; omega), Int32.toInt_ofNat_of_lt (by omega), Int32.toInt_ofNat_of_lt (by omega)]; omega)
      have k6 : I6 150 k = Int32.ofNat (nx k + 1) := by rw [e6, en_up_ne _ _ _ _ (by omega), e5, en_up_eq, n4e]
      have f6 : zfr I0 I6 := fun p j q => (o6 p j (by omega) (by omega)).trans (fr p j q)
      have c1000 : (1000 : Int32).toInt = 1000 := by decide
      refine ⟨fun a => ?_, fun a I31 e31 => ?_⟩
      rotate_left
      · -- SPENT
        have a := kl_nle a
        rw [q6, c1000] at a
        rw [rn_spent (nc := fun j => icd I0 l (xs.getD j 0)) c (by omega)] at hF
        have ex2 : x2 = Int32.ofNat fd := en_ofI (by rw [h2, Int32.toInt_ofNat_of_lt (by omega)])
        have o31 : ∀ p j, ¬ (p = 107 ∧ j = 64) → I31 p j = I6 p j := fun p j b => by rw [e31, en_up_ne _ _ _ _ b]
        have g := hΦ I31 (by
          rw [← hF]
          refine ⟨⟨fun p j q => (o31 p j (by omega)).trans (f6 p j q), fun hk p j q1 q2 => by rw [o31 p j (by omega), o6 p j (by omega) (by omega)]; exact fk hk p j q1 q2⟩, by rw [o31 107 63 (by omega), q6]; rfl, by rw [e31, en_up_eq]; rfl, fun hk => ?_⟩
          obtain ⟨a1, a2⟩ := rL hk
          refine ⟨fun i hi h1 => ?_, fun w i hw hi => ?_⟩
          · have hi : i < tr + 1 := hi
            rw [o31 154 i (by omega), o31 155 i (by omega), o31 156 i (by omega), o6 154 i (by omega) (by omega), o6 155 i (by omega) (by omega), o6 156 i (by omega) (by omega)]
            exact a1 i (by omega) h1
          · rw [o31 153 _ (by omega), o6 153 _ (by omega) (by omega)]
            exact a2 w i hw hi)
        rw [← hF] at g
        rw [ex2]; exact g
      have a := kl_le.mp a
      rw [q6, c1000] at a
      have tt : ¬ 1000 ≤ tr := by omega
      have s3 := ml_in1 (x := x3) (by omega)
      refine rx_copies (a := k) (b := k + 1) h3 (by omega) (by omega) (by omega) (by omega) (fun J7 cg7 v7 => ⟨J7, L, rfl, fun I10 e10 => ⟨v70, ?_⟩⟩)
      have o10 : ∀ p j, ¬ (p = 107 ∧ j = 52) → I10 p j = J7 p j := fun p j b => by rw [e10, en_up_ne _ _ _ _ b]
      have f10 : zfr I0 I10 := fun p j q => ((o10 p j (by omega)).trans (cg7 p j (by omega))).trans (f6 p j q)
      have pg10 : (I10 107 52).toInt = ((k + 1 : Nat) : Int) := by rw [e10, en_up_eq]; omega
      have oo : ∀ p j, p ≠ 143 → ¬ (p = 107 ∧ (j = 52 ∨ j = 63)) → ¬ (p = 150 ∧ j = k) → I10 p j = J p j := fun p j a b c => by rw [o10 p j (by omega), cg7 p j (by omega), o6 p j c (by omega)]
      -- the table of the level behind
      have T10 : ttop n (cl B0 (fun i c => icv I0 l (xs.getD i 0) c) (fun i => nx i - 1) k) (mT I10 (k + 1)) := by
        refine ttop_eq (fun i j hi hj => ?_) (rT k (Nat.le_refl _))
        have n12 := bs.2.1
        have e1 : mT I10 (k + 1) i j = mT J7 (k + 1) i j := by unfold mT; rw [o10 143 _ (by omega)]
        have e2 : mT J7 (k + 1) i j = mT I6 k i j := mT_cp v7 (by omega) (by omega)
        have e3 : mT I6 k i j = mT J k i j := by unfold mT; rw [o6 143 _ (by omega) (by omega)]
        rw [e1, e2, e3]
      rw [oo 148 k (by omega) (by omega) (by omega), it, n0]
      refine rx_choose (d := d) (s_rB f10 bs pg10 (by omega)) its (Int32.toInt_ofNat_of_lt (by omega)) (fun j hj => by rw [f10 128 j (by omega)]; exact b128 j hj) (by rw [s_icd f10]; exact enx) (s_iok f10 okk) (by rw [f10 107 69 (by omega)]; exact g0) (by rw [f10 107 69 (by omega)]; exact g1) T10 (fun r J11 z => ⟨r, J11, L, rfl, ?_⟩)
      rw [s_icc f10] at z
      obtain ⟨cg11, z⟩ := z
      have chk : icc I0 l s (nx k) ++ cl B0 (fun i c => icv I0 l (xs.getD i 0) c) (fun i => nx i - 1) k = cl B0 (fun i c => icv I0 l (xs.getD i 0) c) (chs nx k (nx k)) (k + 1) := by
        show _ = icv I0 l (xs.getD k 0) (chs nx k (nx k) k) ++ cl B0 _ (chs nx k (nx k)) k
        have e1 : chs nx k (nx k) k = nx k := if_pos rfl
        have e2 : icv I0 l s (nx k) = icc I0 l s (nx k) := if_pos enx
        rw [e1, ← es, e2]
        congr 1
        exact cl_cg k (fun i hi => by
          have : chs nx k (nx k) i = nx i - 1 := if_neg (by omega)
          rw [this])
      rw [chk] at z
      have oB : ∀ p j, p ≠ 143 → ¬ (p = 107 ∧ (j = 52 ∨ j = 63)) → ¬ (p = 150 ∧ j = k) → J11 p j = J p j := fun p j a b c => (cg11 p j (by omega)).trans (oo p j a b c)
      have f11 : zfr I0 J11 := zfr_t f10 (zfr_c cg11)
      have c63 : (J11 107 63).toInt = tr + 1 := by rw [cg11 107 63 (by omega), o10 107 63 (by omega), cg7 107 63 (by omega)]; exact q6
      have c150 : J11 150 k = Int32.ofNat (nx k + 1) := by rw [cg11 150 k (by omega), o10 150 k (by omega), cg7 150 k (by omega)]; exact k6
      have n12 := bs.2.1
      have m59 := hM.1
      have rr : r = 0 ∨ r = 1 := by
        rcases z with ⟨e, -⟩ | ⟨e, -⟩
        · exact Or.inl e
        · exact Or.inr e
      -- what both ways of keeping have in common
      have key : ∀ (J12 : sm_I) (b : Bool), (∀ p j, ¬ (154 ≤ p ∧ p ≤ 156) → J12 p j = J11 p j) → znk kp I0 J12 → (kp = true → slg xs (tr + 1) fd (sup lg tr (k, nx k, b)) wy J12) → (r = 0 → b = false) → (¬ r = 0 → b = true) → ((r = 0 → sm_wp sm_P S (d + 5) 186 3 [.ref 107, .int x1, .int x2, .int x3] [] (xLay, J12, L, kM R) (0, 0) Φ) ∧ (¬ r = 0 → (vp_in x3 70) ∧ ∀ I14 : sm_I, I14 = sm_up J12 149 k (Int32.ofNat (nx k)) → ((I14 107 59 ≤ x3 + 1 → ((x1 = 0 → Φ (some (.int 1), (xLay, I14, L, kM R))) ∧ (¬ x1 = 0 → sm_wp sm_P S (d + 5) 186 17 [.ref 107, .int x1, .int x2, .int x3, .int 0] [] (xLay, I14, L, kM R) (0, 0) Φ))) ∧ (¬ I14 107 59 ≤ x3 + 1 → (vp_in (x3 + 1) 70) ∧ ∀ I16 : sm_I, I16 = sm_up I14 150 (x3 + 1).toNatClampNeg 0 → sm_wp sm_P S (d + 5) 186 3 [.ref 107, .int x1, .int x2, .int (x3 + 1)] [] (xLay, I16, L, kM R) (0, 0) Φ)))) := by
        intro J12 b o12 k12 s12 b0 b1
        have oJ : ∀ p j, p ≠ 143 → ¬ (p = 107 ∧ (j = 52 ∨ j = 63)) → ¬ (p = 150 ∧ j = k) → ¬ (154 ≤ p ∧ p ≤ 156) → J12 p j = J p j := fun p j q1 q2 q3 q4 => (o12 p j q4).trans (oB p j q1 q2 q3)
        have f12 : zfr I0 J12 := fun p j q => (o12 p j (by omega)).trans (f11 p j q)
        have d63 : (J12 107 63).toInt = ((tr + 1 : Nat) : Int) := by rw [o12 107 63 (by omega), c63]; omega
        have d64 : J12 107 64 = 0 := by rw [oJ 107 64 (by omega) (by omega) (by omega) (by omega)]; exact r64
        have d150 : ∀ j, j ≤ k → J12 150 j = Int32.ofNat (sup nx k (nx k + 1) j) ∧ sup nx k (nx k + 1) j ≤ icd I0 l (xs.getD j 0) := fun j hj => by
          by_cases e : j = k
          · rw [e, sup_eq, o12 150 k (by omega), c150, ← es]
            exact ⟨rfl, enx⟩
          · rw [sup_ne _ _ e, oJ 150 j (by omega) (by omega) (by omega) (by omega)]
            exact r150 j hj
        have d149 : ∀ j, j < k → 1 ≤ nx j ∧ J12 149 j = Int32.ofNat (nx j - 1) := fun j hj => by
          rw [oJ 149 j (by omega) (by omega) (by omega) (by omega)]
          exact r149 j hj
        have Tk : ∀ nx' : Nat → Nat, (∀ i, i < k → nx' i = nx i) → ∀ j, j ≤ k → ttop n (cl B0 (fun i c => icv I0 l (xs.getD i 0) c) (fun i => nx' i - 1) j) (mT J12 j) := fun nx' e j hj => by
          rw [cl_nx (nx := nx') (nx' := nx) (fun i hi => e i (by omega))]
          refine ttop_eq (fun u v hu hv => ?_) (rT j hj)
          unfold mT
          rw [o12 143 _ (by omega), cg11 143 _ (by omega), o10 143 _ (by omega), cg7 143 _ (by omega), o6 143 _ (by omega) (by omega)]
        refine ⟨fun r0 => ?_, fun r0 => ⟨v70, fun I14 e14 => ?_⟩⟩
        · have zn : tno n (cl B0 (fun i c => icv I0 l (xs.getD i 0) c) (chs nx k (nx k)) (k + 1)) := by
            rcases z with ⟨-, q⟩ | ⟨q, -⟩
            · exact q
            · rw [r0] at q; exact absurd q (by decide)
          rw [rn_fail (nc := fun j => icd I0 l (xs.getD j 0)) c tt (fz_f zn)] at hF
          exact ih k (sup nx k (nx k + 1)) (tr + 1) fd (sup lg tr (k, nx k, false)) wy J12 x2 x3 ⟨⟨f12, k12⟩, d63, d64, d150, fun j hj => by rw [sup_ne _ _ (show j ≠ k by omega)]; exact d149 j hj, Tk _ (fun i hi => sup_ne _ _ (by omega)), fun hk => by rw [← b0 r0]; exact s12 hk, by omega, by omega, fd0⟩ km h3 h2 hF hz
        have zt : ttop n (cl B0 (fun i c => icv I0 l (xs.getD i 0) c) (chs nx k (nx k)) (k + 1)) (mT J11 (k + 1)) := by
          rcases z with ⟨q, -⟩ | ⟨-, q⟩
          · exact absurd q r0
          · exact q
        have ft := fz_t zt
        have bt := b1 r0
        subst bt
        have o14 : ∀ p j, ¬ (p = 149 ∧ j = k) → I14 p j = J12 p j := fun p j q => by rw [e14, en_up_ne _ _ _ _ q]
        have k14 : I14 149 k = Int32.ofNat (nx k) := by rw [e14, en_up_eq]
        have f14 : zfr I0 I14 := fun p j q => (o14 p j (by omega)).trans (f12 p j q)
        have k14' : znk kp I0 I14 := fun hk p j q1 q2 => (o14 p j (by omega)).trans (k12 hk p j q1 q2)
        have e59 : I14 107 59 = I0 107 59 := f14 107 59 (by omega)
        have T14 : ∀ nx' : Nat → Nat, (∀ i, i < k → nx' i = nx i) → ∀ j, j ≤ k → ttop n (cl B0 (fun i c => icv I0 l (xs.getD i 0) c) (fun i => nx' i - 1) j) (mT I14 j) := fun nx' e j hj => ttop_eq (fun u v _ _ => by unfold mT; rw [o14 143 _ (by omega)]) (Tk nx' e j hj)
        have slg14 : kp = true → slg xs (tr + 1) fd (sup lg tr (k, nx k, true)) wy I14 := fun hk => by
          obtain ⟨a1, a2⟩ := s12 hk
          refine ⟨fun i hi h1 => ?_, fun w i hw hi => ?_⟩
          · rw [o14 154 i (by omega), o14 155 i (by omega), o14 156 i (by omega)]
            exact a1 i hi h1
          · rw [o14 153 _ (by omega)]
            exact a2 w i hw hi
        refine ⟨fun a => ?_, fun a => ⟨kl_in (by omega) (by omega), fun I16 e16 => ?_⟩⟩
        · -- a WAY
          have a := kl_le.mp a
          rw [e59, m59, s3, h3] at a
          have lm : ¬ k + 1 < xs.length := by omega
          refine ⟨fun xz => ?_, fun xz => ?_⟩
          · have hk : kp = false := by
              rcases Bool.eq_false_or_eq_true kp with q | q
              · rw [q] at hx; rw [hx] at xz; exact absurd xz (by decide)
              · exact q
            have hF : rn xs.length (fun j => icd I0 l (xs.getD j 0)) (fz n B0 (fun i c => icv I0 l (xs.getD i 0) c)) true (f + 1) (k + 1, nx, tr, fd, false, lg, wy) = F := by rw [hk] at hF; exact hF
            rw [rn_way1 (nc := fun j => icd I0 l (xs.getD j 0)) c tt ft lm] at hF
            have eF : F.2.2.2.1 = fd + 1 := by rw [← hF]
            have e1 : Int32.ofNat (fd + 1) = 1 := by rw [fd0 hk]; decide
            have g := hΦ I14 (by
              rw [← hF]
              exact ⟨⟨f14, k14'⟩, by show (I14 107 63).toInt = ((tr + 1 : Nat) : Int); rw [o14 107 63 (by omega)]; exact d63, by rw [o14 107 64 (by omega)]; exact d64, fun q => absurd (hk.symm.trans q) (by decide)⟩)
            rw [eF, e1] at g
            exact g
          · have hk : kp = true := by
              rcases Bool.eq_false_or_eq_true kp with q | q
              · exact q
              · rw [q] at hx; rw [hx] at xz; exact absurd (by decide) xz
            have hF : rn xs.length (fun j => icd I0 l (xs.getD j 0)) (fz n B0 (fun i c => icv I0 l (xs.getD i 0) c)) false (f + 1) (k + 1, nx, tr, fd, false, lg, wy) = F := by rw [hk] at hF; exact hF
            rw [rn_way0 (nc := fun j => icd I0 l (xs.getD j 0)) c tt ft lm] at hF
            have hF : rn xs.length (fun j => icd I0 l (xs.getD j 0)) (fz n B0 (fun i c => icv I0 l (xs.getD i 0) c)) (!kp) f (k + 1, sup nx k (nx k + 1), tr + 1, fd + 1, false, sup lg tr (k, nx k, true), sup wy fd (chs nx k (nx k))) = F := by rw [hk]; exact hF
            refine rx_way (d := d + 4) (kp := kp) (k := k) (I := I14) (ch := chs nx k (nx k)) (wy := wy) m59 (m55 hk) h2 (by omega) (fun i hi => ?_) (fun J15 o15 v15 => ?_) e59 (fun i hi => ?_) (slg14 hk).2 xs.length 0 0 I14 (by decide) (by omega) (fun _ _ _ => rfl) (fun q hq => absurd hq (Nat.not_lt_zero q))
            · by_cases e : i = k
              · rw [show chs nx k (nx k) i = nx k from if_pos e]
                omega
              · rw [show chs nx k (nx k) i = nx i - 1 from if_neg e]
                have := (r150 i (by omega)).2
                have := ic4 (xs.getD i 0)
                omega
            · have sl := slg14 hk
              exact ih k (sup nx k (nx k + 1)) (tr + 1) (fd + 1) (sup lg tr (k, nx k, true)) (sup wy fd (chs nx k (nx k))) J15 (x2 + 1) x3 ⟨⟨fun p j q => (o15 p j (by omega)).trans (f14 p j q), fun q => absurd (hk.symm.trans q) (by decide)⟩, by rw [o15 107 63 (by omega), o14 107 63 (by omega)]; exact d63, by rw [o15 107 64 (by omega), o14 107 64 (by omega)]; exact d64, fun j hj => by rw [o15 150 j (by omega), o14 150 j (by omega)]; exact d150 j hj, fun j hj => by rw [sup_ne _ _ (show j ≠ k by omega), o15 149 j (by omega), o14 149 j (by omega)]; exact d149 j hj, fun j hj => ttop_eq (fun u v _ _ => by unfold mT; rw [o15 143 _ (by omega)]) (T14 _ (fun i hi => sup_ne _ _ (by omega)) j hj), fun _ => ⟨fun i hi h1 => by rw [o15 154 i (by omega), o15 155 i (by omega), o15 156 i (by omega)]; exact sl.1 i hi h1, v15⟩, by omega, by omega, fun q => absurd (hk.symm.trans q) (by decide)⟩ km h3 (by rw [ml_in1 (by omega), h2]; omega) hF hz
            · by_cases e : i = k
              · rw [show chs nx k (nx k) i = nx k from if_pos e, e]
                exact k14
              · rw [show chs nx k (nx k) i = nx i - 1 from if_neg e, o14 149 i (by omega)]
                exact (d149 i (by omega)).2
        · -- one ITEM further
          have a := kl_nle a
          rw [e59, m59, s3, h3] at a
          have lm : k + 1 < xs.length := by omega
          rw [rn_down (nc := fun j => icd I0 l (xs.getD j 0)) c tt ft lm] at hF
          have x31 : (x3 + 1).toInt = ((k + 1 : Nat) : Int) := by rw [s3, h3]; omega
          rw [tk_nat x31] at e16
          have o16 : ∀ p j, ¬ (p = 150 ∧ j = k + 1) → I16 p j = I14 p j := fun p j q => by rw [e16, en_up_ne _ _ _ _ q]
          refine ih (k + 1) (sup (sup nx k (nx k + 1)) (k + 1) 0) (tr + 1) fd (sup lg tr (k, nx k, true)) wy I16 x2 (x3 + 1) ⟨⟨fun p j q => (o16 p j (by omega)).trans (f14 p j q), fun hk p j q1 q2 => (o16 p j (by omega)).trans (k14' hk p j q1 q2)⟩, by rw [o16 107 63 (by omega), o14 107 63 (by omega)]; exact d63, by rw [o16 107 64 (by omega), o14 107 64 (by omega)]; exact d64, fun j hj => ?_, fun j hj => ?_, fun j hj => ?_, fun hk => ?_, by omega, by omega, fd0⟩ lm x31 h2 hF hz
          · by_cases e : j = k + 1
            · rw [e, sup_eq, e16, en_up_eq]
              exact ⟨rfl, Nat.zero_le _⟩
            · rw [sup_ne _ _ e, o16 150 j (by omega), o14 150 j (by omega)]
              exact d150 j (by omega)
          · rw [sup_ne _ _ (show j ≠ k + 1 by omega), o16 149 j (by omega)]
            by_cases e : j = k
            · rw [e, sup_eq, Nat.add_sub_cancel]
              exact ⟨by omega, k14⟩
            · rw [sup_ne _ _ e, o14 149 j (by omega)]
              exact d149 j (by omega)
          · by_cases e : j = k + 1
            · rw [e]
              have ec : cl B0 (fun i c => icv I0 l (xs.getD i 0) c) (fun i => sup (sup nx k (nx k + 1)) (k + 1) 0 i - 1) (k + 1) = cl B0 (fun i c => icv I0 l (xs.getD i 0) c) (chs nx k (nx k)) (k + 1) := cl_cg (k + 1) (fun i hi => by
                show sup (sup nx k (nx k + 1)) (k + 1) 0 i - 1 = chs nx k (nx k) i
                rw [sup_ne _ _ (show i ≠ k + 1 by omega)]
                by_cases q : i = k
                · rw [q, sup_eq, Nat.add_sub_cancel]
                  exact (if_pos rfl).symm
                · rw [sup_ne _ _ q]
                  exact (if_neg q).symm)
              rw [ec]
              exact ttop_eq (fun u v _ _ => by unfold mT; rw [o16 143 _ (by omega), o14 143 _ (by omega), o12 143 _ (by omega)]) zt
            · exact ttop_eq (fun u v _ _ => by unfold mT; rw [o16 143 _ (by omega)]) (T14 _ (fun i hi => by rw [sup_ne _ _ (show i ≠ k + 1 by omega), sup_ne _ _ (show i ≠ k by omega)]) j (by omega))
          · obtain ⟨a1, a2⟩ := slg14 hk
            refine ⟨fun i hi h1 => ?_, fun w i hw hi => ?_⟩
            · rw [o16 154 i (by omega), o16 155 i (by omega), o16 156 i (by omega)]
              exact a1 i hi h1
            · rw [o16 153 _ (by omega)]
              exact a2 w i hw hi
      refine ⟨fun xz => key J11 (!decide (r = 0)) (fun _ _ _ => rfl) (fun hk p j q1 q2 => by rw [oB p j (by omega) (by omega) (by omega)]; exact fk hk p j q1 q2) (fun hk => ?_) (fun q => by rw [decide_eq_true q]; rfl) (fun q => by rw [decide_eq_false q]; rfl), fun xz => ⟨v70, ?_⟩⟩
      · rw [hk] at hx; rw [hx] at xz; exact absurd xz (by decide)
      have hk : kp = true := by
        rcases Bool.eq_false_or_eq_true kp with q | q
        · exact q
        · rw [q] at hx; rw [hx] at xz; exact absurd (by decide) xz
      have e148 : J11 148 k = Int32.ofNat s := by rw [oB 148 k (by omega) (by omega) (by omega)]; exact it
      refine rx_notes (I := J11) (a := s) (b := nx k) (t := tr) e148 rfl (by omega) (by omega) rr (by rw [c63]; omega) (by omega) (fun J19 o19 v1 v2 v3 => ⟨J19, L, rfl, ?_⟩)
      refine key J19 (!decide (r = 0)) (fun p j q => o19 p j (by omega)) (fun q => absurd (hk.symm.trans q) (by decide)) (fun _ => ?_) (fun q => by rw [decide_eq_true q]; rfl) (fun q => by rw [decide_eq_false q]; rfl)
      obtain ⟨a1, a2⟩ := rL hk
      refine ⟨fun i hi h1 => ?_, fun w i hw hi => ?_⟩
      · by_cases e : i = tr
        · rw [e, sup_eq, v1, v2, v3]
          refine ⟨by rw [es], rfl, ?_⟩
          rcases rr with q | q
          · rw [q]; rfl
          · rw [q]; rfl
        · rw [sup_ne _ _ e, o19 154 i (by omega), o19 155 i (by omega), o19 156 i (by omega), oB 154 i (by omega) (by omega) (by omega), oB 155 i (by omega) (by omega) (by omega), oB 156 i (by omega) (by omega) (by omega)]
          exact a1 i (by omega) h1
      · rw [o19 153 _ (by omega), oB 153 _ (by omega) (by omega) (by omega)]
        exact a2 w i hw hi
end
