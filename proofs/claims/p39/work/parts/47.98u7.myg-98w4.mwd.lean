section
/-! the reference's contracts with what was gone through (wip/pe/mkYm.py) -/
section
variable {c48 : Nat → Int64}
theorem mx_meetsAll2Y {S : sm_C} {d : Nat} {Φ : sm_Z → Prop} {w0 : sm_W} (hd : 4 ≤ d) (hΦ : ∀ (I : sm_I) (L : sm_L) (R : sm_R), en_mem ml_tb2 (mlY c48) (xLay, I, L, R) → en_fr ml_SW w0 (xLay, I, L, R) → Φ (none, (xLay, I, L, kM R))) : ∀ (m : Nat) (I : sm_I) (L : sm_L) (R : sm_R) (x3 : Int32), en_mem ml_tb2 (mlY c48) (xLay, I, L, R) → en_fr ml_SW w0 (xLay, I, L, R) → -1 ≤ x3.toInt → (x3.toInt < (I 107 59).toInt ∨ (I 107 59).toInt = 0) → (I 107 63).toInt ≤ 1000 → ml_nc I x3.toInt → 2 * (1000 - (I 107 63).toInt) + x3.toInt + 1 < m → sm_wp sm_P S (d + 1) 162 2 [.ref 107, .int x3] [] (xLay, I, L, kM R) (0, 0) Φ := by
  intro m
  induction m with
  | zero =>
    intro I L R x3 hm hf k0 k1 t1 hn hM
    omega
  | succ m ih =>
    intro I L R x3 hm hf k0 k1 t1 hn hM
    have bi : 0 ≤ (I 107 59).toInt ∧ (I 107 59).toInt ≤ 70 := hm.2.1 107 59 (0, 70) (by decide +kernel)
    have bt : 0 ≤ (I 107 63).toInt ∧ (I 107 63).toInt ≤ 1001 := hm.2.1 107 63 (0, 1001) (by decide +kernel)
    refine u_X12_meetsAll_2 ⟨fun a => hΦ I L R hm hf, fun a => ⟨fun _ => hΦ I L R hm hf, fun a0 => ?_⟩⟩
    have a0 := kl_nle a0
    rw [kl_0] at a0
    have k1 : x3.toInt < (I 107 59).toInt := by omega
    have k2 := kl_nlt0 a
    have nk := kl_nat k2
    have v : vp_in x3 70 := kl_in k2 (by omega)
    have bo : 0 ≤ (I 148 x3.toNatClampNeg).toInt ∧ (I 148 x3.toNatClampNeg).toInt ≤ 69 := ml_rowY hm (p := 148) (n := 70) (q := (0, 69)) (fun _ => rfl) _ (by omega)
    have gap : (I 148 x3.toNatClampNeg).toInt ≤ 54 ∨ 60 ≤ (I 148 x3.toNatClampNeg).toInt := hm.2.2.2.2.2.1 _ (by omega)
    have bn : 0 ≤ (I 150 x3.toNatClampNeg).toInt ∧ (I 150 x3.toNatClampNeg).toInt ≤ 4 := ml_rowY hm (p := 150) (n := 70) (q := (0, 4)) (fun _ => rfl) _ (by omega)
    have hk := hn x3.toNatClampNeg (by omega)
    obtain ⟨ch, hch⟩ : ∃ ch, ch = ml_ch I (I 148 x3.toNatClampNeg) := ⟨_, rfl⟩
    rw [← hch] at hk
    refine ⟨v, v, mx_choicesY hm bo.1 bo.2 gap (fun c0 c4 => ⟨_, I, L, R, rfl, fun e => ?_, fun e => ⟨v, v, fun n4 e4 => ⟨v, fun I5 e5 I6 e6 => ?_⟩⟩⟩)⟩
    · rw [← hch] at c0 c4 e
      obtain ⟨y, hy, sd⟩ : ∃ y, y = x3 + (-1 : Int32) ∧ y.toInt = x3.toInt - 1 := ⟨_, rfl, ml_de1 (by omega)⟩
      rw [← hy]
      exact ih I L R y hm hf (by omega) (by omega) t1 (fun j hj => hn j (by omega)) (by omega)
    rw [← hch] at c0 c4 e
    have sk := ml_in1 (x := x3) (by omega)
    have lt : (I 150 x3.toNatClampNeg).toInt < ch.toInt := by
      have : (I 150 x3.toNatClampNeg).toInt ≠ ch.toInt := fun q => e (en_ofI q)
      omega
    obtain ⟨m6, f6, g6, o6, q6⟩ := ml_tryY (W := ml_SW) (fun _ => rfl) (by decide +kernel) hm hf hn k2 (by omega) t1 (by rw [← hch]; exact lt) (by rw [← hch]; exact c4) e4 e5 e6
    have g63 : (I 107 63 + 1).toInt = (I 107 63).toInt + 1 := ml_in1 (by omega)
    refine ⟨fun g => ?_, fun g I31 e31 => ?_⟩
    · have g := kl_le.mp g
      rw [g6, (by decide : (1000 : Int32).toInt = 1000)] at g
      have nx : ∀ (J : sm_I) (Lj : sm_L) (Rj : sm_R) (y : Int32), en_mem ml_tb2 (mlY c48) (xLay, J, Lj, Rj) → en_fr ml_SW w0 (xLay, J, Lj, Rj) → (∀ p j, p ≠ 143 → p ≠ 150 → ¬ (p = 107 ∧ (j = 63 ∨ j = 52 ∨ 90 ≤ j)) → J p j = I p j) → J 107 63 = I6 107 63 → -1 ≤ y.toInt → y.toInt < (I 107 59).toInt → y.toInt ≤ x3.toInt + 1 → (∀ j : Nat, (j : Int) ≤ y.toInt → (J 150 j).toInt ≤ (ml_ch I (I 148 j)).toInt) → sm_wp sm_P S (d + 1) 162 2 [.ref 107, .int y] [] (xLay, J, Lj, (kM Rj)) (0, 0) Φ := by
        intro J Lj Rj y hmJ hfJ oJ tJ y0 y1 y2 hy
        have itJ : J 107 59 = I 107 59 := oJ 107 59 (by decide) (by decide) (by omega)
        refine ih J Lj Rj y hmJ hfJ y0 (Or.inl (by rw [itJ]; exact y1)) (by rw [tJ, g6]; omega) (ml_nc_cg (I := I) (fun j => oJ _ _ (by decide) (by decide) (by omega)) (fun j => oJ _ _ (by decide) (by decide) (by omega)) (fun j => oJ _ _ (by decide) (by decide) (by omega)) (oJ _ _ (by decide) (by decide) (by omega)) (fun j => oJ _ _ (by decide) (by decide) (by omega)) hy) (by rw [tJ, g6]; omega)
      refine ml_cvY (c := mlc_8) mly_8 (Nat.zero_le _) ⟨⟨rfl, rfl⟩, ⟨rfl, k2, (by omega : x3.toInt ≤ 69)⟩, ⟨rfl, (by omega : 1 ≤ (x3 + 1).toInt), (by omega : (x3 + 1).toInt ≤ 70)⟩, trivial⟩ m6 ml_pf0 rfl (fun I7 L7 R7 m7 f7 I10 e10 => ?_)
      obtain ⟨m10, f10, o10⟩ := ml_copY ml_t143 (by decide +kernel) m7 f6 f7 (by omega : 0 ≤ (x3 + 1).toInt) (by omega) e10
      have i10 : I10 148 x3.toNatClampNeg = I 148 x3.toNatClampNeg := by rw [o10 _ _ (by decide) (by omega), o6 _ _ (by decide) (by omega)]
      refine ⟨v, ?_⟩
      rw [i10]
      refine ml_choosesY hd m10 bo.1 bo.2 gap bn.1 (by omega) (fun r I11 L11 R11 r0 r1 m11 f11 => ?_)
      have f11' : en_fr ml_SW w0 (xLay, I11, L11, R11) := ml_frt f10 f11 ml_t143
      have o11 : ∀ p j, p ≠ 143 → I11 p j = I10 p j := fun p j h1 => ml_g f11 (ml_143 h1)
      have oI : ∀ p j, p ≠ 143 → p ≠ 150 → ¬ (p = 107 ∧ (j = 63 ∨ j = 52 ∨ 90 ≤ j)) → I11 p j = I p j := fun p j h1 h2 h6 => by rw [o11 _ _ h1, o10 _ _ h1 (by omega), o6 _ _ h2 (by omega)]
      have t11 : I11 107 63 = I6 107 63 := by rw [o11 _ _ (by decide), o10 _ _ (by decide) (by omega)]
      have c11 : ∀ j, I11 150 j = I6 150 j := fun j => by rw [o11 _ _ (by decide), o10 _ _ (by decide) (by omega)]
      have b52 : 0 ≤ (I11 107 52).toInt ∧ (I11 107 52).toInt ≤ 70 := m11.2.1 107 52 (0, 70) (by decide +kernel)
      have i59 : I11 107 59 = I 107 59 := oI _ _ (by decide) (by decide) (by omega)
      refine ⟨fun _ => nx I11 L11 R11 x3 m11 f11' oI t11 (by omega) k1 (by omega) (fun j hj => by rw [c11]; exact q6 j hj), fun _ => ⟨fun _ => ?_, fun c => ?_⟩⟩
      · refine ml_cvY (c := mlc_12) mly_12 (Nat.zero_le _) ⟨⟨rfl, rfl⟩, ⟨rfl, b52.1, b52.2⟩, trivial⟩ m11 ml_pf0 rfl (fun I18 L18 R18 m18 f18 => ?_)
        have o18 : ∀ p j, ¬ (p = 107 ∧ 90 ≤ j) → I18 p j = I11 p j := fun p j h => ml_g f18 (ml_90 h)
        exact nx I18 L18 R18 x3 m18 (ml_frt f11' f18 (by decide +kernel)) (fun p j h1 h2 h6 => by rw [o18 _ _ (by omega), oI _ _ h1 h2 h6]) (by rw [o18 _ _ (by omega), t11]) (by omega) k1 (by omega) (fun j hj => by rw [o18 _ _ (by omega), c11]; exact q6 j hj)
      · have c' : x3.toInt + 1 ≠ (I 107 59).toInt := fun q => c (by rw [i59]; exact en_ofI (by rw [sk]; exact q))
        refine ⟨kl_in (by omega) (by omega), fun I17 e17 => ?_⟩
        have nk1 := kl_nat (i := x3 + 1) (by omega)
        have o17 : ∀ p j, p ≠ 150 → I17 p j = I11 p j := fun p j h => by rw [e17, en_up_ne _ _ _ _ (fun c => h c.1)]
        have m17 : en_mem ml_tb2 (mlY c48) (xLay, I17, L11, R11) := by
          rw [e17]
          exact ml_we2Y m11 rfl (n := 70) (q := (0, 4)) rfl (by decide)
        refine nx I17 L11 R11 _ m17 (by rw [e17]; exact ml_fr f11' rfl) (fun p j h1 h2 h6 => by rw [o17 _ _ h2, oI _ _ h1 h2 h6]) (by rw [o17 _ _ (by decide), t11]) (by omega) (by omega) (by omega) (fun j hj => ?_)
        rw [e17]
        by_cases c : j = (x3 + 1).toNatClampNeg
        · have bo' : 0 ≤ (I 148 j).toInt ∧ (I 148 j).toInt ≤ 69 := ml_rowY hm (p := 148) (n := 70) (q := (0, 69)) (fun _ => rfl) _ (by omega)
          rw [c, en_up_eq, kl_0, ← c]
          exact ml_ch0Y hm bo'.1 bo'.2 (hm.2.2.2.2.2.1 _ (by omega))
        · rw [en_up_ne _ _ _ _ (fun q => c q.2), c11]; exact q6 j (by omega)
    · have m31 : en_mem ml_tb2 (mlY c48) (xLay, I31, L, R) := by
        rw [e31]
        exact ml_wfY m6 (by decide +kernel) (q := (0, 1)) (by decide +kernel) (by decide)
      exact hΦ I31 L R m31 (by rw [e31]; exact ml_fr f6 (by decide +kernel))
theorem mx_meetsAllY {S : sm_C} {d : Nat} {Φ : sm_Z → Prop} {w0 : sm_W} (hd : 4 ≤ d) (hΦ : ∀ (I : sm_I) (L : sm_L) (R : sm_R), en_mem ml_tb2 (mlY c48) (xLay, I, L, R) → en_fr ml_SW w0 (xLay, I, L, R) → Φ (none, (xLay, I, L, kM R))) {I : sm_I} {L : sm_L} {R : sm_R} (hm : en_mem ml_tb2 (mlY c48) (xLay, I, L, R)) (hf : en_fr ml_SW w0 (xLay, I, L, R)) (ht : I 107 63 = 0) : sm_wp sm_P S (d + 1) 162 0 [.ref 107] [] (xLay, I, L, kM R) (0, 0) Φ := by
  refine u_X12_meetsAll_0 ⟨kl_in (by decide) (by decide), fun I1 e1 => ?_⟩
  have m1 : en_mem ml_tb2 (mlY c48) (xLay, I1, L, R) := by
    rw [e1]
    exact ml_we2Y hm rfl (n := 70) (q := (0, 4)) rfl (by decide)
  have f1 : en_fr ml_SW w0 (xLay, I1, L, R) := by rw [e1]; exact ml_fr hf rfl
  have o1 : ∀ p j, p ≠ 150 → I1 p j = I p j := fun p j h => by rw [e1, en_up_ne _ _ _ _ (fun c => h c.1)]
  have z1 : I1 150 0 = 0 := by rw [e1]; exact en_up_eq _ _ _ _
  have go : ∀ (J : sm_I) (Lj : sm_L) (Rj : sm_R), en_mem ml_tb2 (mlY c48) (xLay, J, Lj, Rj) → en_fr ml_SW w0 (xLay, J, Lj, Rj) → J 107 63 = 0 → J 150 0 = 0 → sm_wp sm_P S (d + 1) 162 2 [.ref 107, .int (0 : Int32)] [] (xLay, J, Lj, kM Rj) (0, 0) Φ := by
    intro J Lj Rj mJ fJ tJ zJ
    have bi : 0 ≤ (J 107 59).toInt ∧ (J 107 59).toInt ≤ 70 := mJ.2.1 107 59 (0, 70) (by decide +kernel)
    refine mx_meetsAll2Y hd hΦ 2002 J Lj Rj 0 mJ fJ (by decide) (by rw [kl_0]; omega) (by rw [tJ]; decide) (fun j hj => ?_) (by rw [tJ, kl_0]; omega)
    have hj0 : j = 0 := by rw [kl_0] at hj; omega
    have bo : 0 ≤ (J 148 j).toInt ∧ (J 148 j).toInt ≤ 69 := ml_rowY mJ (p := 148) (n := 70) (q := (0, 69)) (fun _ => rfl) _ (by omega)
    rw [show J 150 j = 0 by rw [hj0]; exact zJ, kl_0]
    exact ml_ch0Y mJ bo.1 bo.2 (mJ.2.2.2.2.2.1 _ (by omega))
  refine ⟨fun _ => ?_, fun _ => go I1 L R m1 f1 (by rw [o1 _ _ (by decide), ht]) z1⟩
  refine ml_cvY (c := mlc_12) mly_12 (Nat.zero_le _) ⟨⟨rfl, rfl⟩, ⟨rfl, by decide, by decide⟩, trivial⟩ m1 ml_pf0 rfl (fun I2 L2 R2 m2 f2 => ?_)
  have o2 : ∀ p j, ¬ (p = 107 ∧ 90 ≤ j) → I2 p j = I1 p j := fun p j h => ml_g f2 (ml_90 h)
  exact go I2 L2 R2 m2 (ml_frt f1 f2 (by decide +kernel)) (by rw [o2 _ _ (by omega), o1 _ _ (by decide), ht]) (by rw [o2 _ _ (by omega), z1])
theorem mx_isPersonY {S : sm_C} {d : Nat} {Φ : sm_Z → Prop} {I : sm_I} {L : sm_L} {R : sm_R} {x : Int32} (hm : en_mem ml_tb2 (mlY c48) (xLay, I, L, R)) (h : ∀ r : Int32, (r = 0 ∨ (0 ≤ x.toInt ∧ x.toInt ≤ 3)) → Φ (some (.int r), (xLay, I, L, kM R))) : sm_wp sm_P S (d + 1) 148 0 [.ref 107, .int x] [] (xLay, I, L, kM R) (0, 0) Φ := by
  obtain ⟨l0, l1, ln, lc⟩ := ml_liveY hm
  have l0 : 0 ≤ (I 107 18).toInt := l0
  have l1 : (I 107 18).toInt ≤ 1 := l1
  have ln : ((I 107 18).toNatClampNeg : Int) = (I 107 18).toInt := ln
  have b : 0 ≤ (I 118 (I 107 18).toNatClampNeg).toInt ∧ (I 118 (I 107 18).toNatClampNeg).toInt ≤ 4 := ml_rowY hm (p := 118) (n := 2) (q := (0, 4)) (fun _ => rfl) _ (by omega)
  refine u_X12_isPerson_0 ⟨kl_in l0 (by omega), fun n1 e1 => mx_in (fun r hr h2 => ⟨r, I, L, R, rfl, hr, h r ?_⟩)⟩
  rcases h2 with h2 | h2
  · exact Or.inl h2
  · refine Or.inr ?_
    have s : n1.toInt = (I 118 (I 107 18).toNatClampNeg).toInt - 1 := by
      rw [e1, Int32.toInt_sub, kl_1]; exact en_bmod (by omega) (by omega) (Or.inl rfl)
    rw [s, kl_0] at h2
    omega
theorem mly_13 {Sc : sm_C} : en_hold ml_tb2 (mlY c48) sm_P Sc mlc_13 := by
  intro d hd vs w hv hm _
  obtain ⟨vs1, rfl, hv1⟩ := kl_vr (q := 107) rfl hv
  obtain ⟨x1, vs2, rfl, b1, hv2⟩ := kl_vi hv1
  obtain ⟨x2, vs3, rfl, b2, hv3⟩ := kl_vi hv2
  obtain ⟨x3, vs4, rfl, b3, hv4⟩ := kl_vi hv3
  obtain rfl := kl_v0 hv4
  have hd : 9 ≤ d := hd
  obtain ⟨d, rfl⟩ : ∃ d', d = d' + 1 + 1 := ⟨d - 2, by omega⟩
  refine ml_topY hm (fun I L R hw hm => ?_)
  have fin : ∀ (r : Int32) (I2 : sm_I) (L2 : sm_L) (R2 : sm_R), en_mem ml_tb2 (mlY c48) (xLay, I2, L2, R2) → en_fr ml_SW (xLay, I, L, R) (xLay, I2, L2, R2) → ∃ (o : Option Value) (I3 : sm_I) (L3 : sm_L) (R3 : sm_R), ((some (.int r) : Option Value), ((xLay, I2, L2, kM R2) : sm_W)) = (o, (xLay, I3, L3, kM R3)) ∧ en_pr mlc_13.2.2.2.1 o ∧ en_mem ml_tb2 (mlY c48) (xLay, I3, L3, R3) ∧ en_fr mlc_13.2.2.2.2.1 (xLay, I, L, R) (xLay, I3, L3, R3) := fun r I2 L2 R2 m f => ⟨_, I2, L2, R2, rfl, Or.inl ⟨rfl, en_crange.1, en_crange.2⟩, m, f⟩
  refine u_X12_been_0 (mx_isPersonY hm (fun r hr => ⟨r, I, L, R, rfl, fun _ => fin _ _ _ _ hm en_fr_rf, fun hr1 => ?_⟩))
  have a1 := hr.resolve_left hr1
  obtain ⟨l0, l1, ln, lc⟩ := ml_liveY hm
  have l0 : 0 ≤ (I 107 18).toInt := l0
  have l1 : (I 107 18).toInt ≤ 1 := l1
  have ln : ((I 107 18).toNatClampNeg : Int) = (I 107 18).toInt := ln
  have bp : 0 ≤ (I 119 (I 107 18).toNatClampNeg).toInt ∧ (I 119 (I 107 18).toNatClampNeg).toInt ≤ 6 := ml_rowY hm (p := 119) (n := 2) (q := (0, 6)) (fun _ => rfl) _ (by omega)
  refine ⟨kl_in l0 (by omega), fun n5 e5 => mx_in (fun r9 _ h9 => ⟨r9, I, L, R, rfl, fun _ => fin _ _ _ _ hm en_fr_rf, fun hr9 => ?_⟩)⟩
  have s5 : n5.toInt = (I 119 (I 107 18).toNatClampNeg).toInt - 1 := by
    rw [e5, Int32.toInt_sub, kl_1]; exact en_bmod (by omega) (by omega) (Or.inl rfl)
  have a2 := h9.resolve_left hr9
  rw [kl_0] at a2
  refine mx_oneMoreY a1 (by omega) hm en_fr_rf (fun I10 L10 R10 m10 f10 t10 => ⟨I10, L10, R10, rfl, fun I14 e14 => ?_⟩)
  have m14 : en_mem ml_tb2 (mlY c48) (xLay, I14, L10, R10) := by
    rw [e14]
    exact ml_wfY m10 (by decide +kernel) (q := (0, 1)) (by decide +kernel) (by decide)
  have f14 : en_fr ml_SW (xLay, I, L, R) (xLay, I14, L10, R10) := by rw [e14]; exact ml_fr f10 (by decide +kernel)
  have t14 : I14 107 63 = 0 := by rw [e14, en_up_ne _ _ _ _ (by omega), t10]
  obtain ⟨k0, k1, kn, kc⟩ := ml_liveY m14
  have k0 : 0 ≤ (I14 107 18).toInt := k0
  have k1 : (I14 107 18).toInt ≤ 1 := k1
  have kn : ((I14 107 18).toNatClampNeg : Int) = (I14 107 18).toInt := kn
  have bt : 0 ≤ (I14 122 (I14 107 18).toNatClampNeg).toInt ∧ (I14 122 (I14 107 18).toNatClampNeg).toInt ≤ 10 := ml_rowY m14 (p := 122) (n := 2) (q := (0, 10)) (fun _ => rfl) _ (by omega)
  refine ⟨kl_in k0 (by omega), fun n15 e15 => ?_⟩
  have s15 : n15.toInt = (I14 122 (I14 107 18).toNatClampNeg).toInt + 2 := by rw [e15]; exact ml_ad rfl (by decide) (by omega) (by omega)
  refine ml_ciY (c := mlc_5) mly_5 (by show 4 ≤ d + 1; omega) ⟨⟨rfl, rfl⟩, ⟨rfl, (by omega : (1 : Int) ≤ n15.toInt), (by omega : n15.toInt ≤ (12 : Int))⟩, trivial⟩ m14 ml_pf0 rfl (fun r19 I16 L16 R16 q0 q1 m16 f16 => ?_)
  have hf16 : en_fr ml_SW (xLay, I, L, R) (xLay, I16, L16, R16) := ml_frt f14 f16 (by decide +kernel)
  refine ⟨fun _ => ⟨fun _ => ⟨fun _ => fin _ _ _ _ m16 hf16, fun _ => ⟨fun _ => fin _ _ _ _ m16 hf16, fun _ => fin _ _ _ _ m16 hf16⟩⟩, fun _ => fin _ _ _ _ m16 hf16⟩, fun _ => ?_⟩
  refine mx_meetsAllY (by omega) (fun I23 L23 R23 m23 hf23 => ⟨I23, L23, R23, rfl, fun _ => ⟨fun _ => fin _ _ _ _ m23 hf23, fun _ => ⟨fun _ => fin _ _ _ _ m23 hf23, fun _ => fin _ _ _ _ m23 hf23⟩⟩, fun _ => fin _ _ _ _ m23 hf23⟩) m16 hf16 (by rw [ml_g f16 (by decide), t14])
theorem mx_asksY {S : sm_C} {d : Nat} {Φ : sm_Z → Prop} {I : sm_I} {L : sm_L} {R : sm_R} {x : Int32} (hd : mlc_17.2.2.2.2.2 ≤ d) (hm : en_mem ml_tb2 (mlY c48) (xLay, I, L, R)) (h : ∀ (r : Int32) (I' : sm_I) (L' : sm_L) (R' : sm_R), en_mem ml_tb2 (mlY c48) (xLay, I', L', R') → en_fr ml_SW (xLay, I, L, R) (xLay, I', L', R') → (r = 0 → 0 ≤ x.toInt ∧ x.toInt ≤ 999) → Φ (some (.int r), (xLay, I', L', kM R'))) : sm_wp sm_P S (d + 1) 97 0 [.ref 107, .int x] [] (xLay, I, L, kM R) (0, 0) Φ := by
  refine u_X12_asks_0 ⟨fun a => ?_, fun _ => h _ I L R hm en_fr_rf (fun c => absurd c (by decide))⟩
  have a := kl_le.mp a
  refine ml_cvY (c := mlc_17) mly_17 hd ⟨⟨rfl, rfl⟩, trivial⟩ hm ml_pf0 rfl (fun I1 L1 R1 m1 f1 => ?_)
  have f1 : en_fr ml_SW (xLay, I, L, R) (xLay, I1, L1, R1) := ml_frw f1 (by decide +kernel)
  have b : 0 ≤ (I1 107 73).toInt ∧ (I1 107 73).toInt ≤ 1000 := m1.2.1 107 73 (0, 1000) (by decide +kernel)
  refine ⟨fun _ => ⟨fun _ => h _ I1 L1 R1 m1 f1 (fun c => absurd c (by decide)), fun q => h _ I1 L1 R1 m1 f1 (fun _ => ?_)⟩, fun _ => h _ I1 L1 R1 m1 f1 (fun c => absurd c (by decide))⟩
  have q := kl_nle q
  rw [kl_0] at a
  omega
theorem mx_drawn8Y {S : sm_C} {d : Nat} {Φ : sm_Z → Prop} {I : sm_I} {L : sm_L} {R : sm_R} {x2 x3 : Int32} (hm : en_mem ml_tb2 (mlY c48) (xLay, I, L, R)) (b2 : 0 ≤ x2.toInt) (h : ∀ r : Int32, Φ (some (.int r), (xLay, I, L, kM R))) : ∀ (m : Nat) (x5 x6 x7 : Int32), ml_dk I x5 → ml_dk I x6 → 0 ≤ x7.toInt → x7.toInt ≤ 10 → 10 - x7.toInt < m → sm_wp sm_P S (d + 1) 121 8 [.ref 107, .int x2, .int x3, .int x5, .int x6, .int x7] [] (xLay, I, L, kM R) (0, 0) Φ := by
  obtain ⟨l0, l1, ln, lc⟩ := ml_liveY hm
  have l0 : 0 ≤ (I 107 18).toInt := l0
  have l1 : (I 107 18).toInt ≤ 1 := l1
  have ln : ((I 107 18).toNatClampNeg : Int) = (I 107 18).toInt := ln
  have bt : 0 ≤ (I 122 (I 107 18).toNatClampNeg).toInt ∧ (I 122 (I 107 18).toNatClampNeg).toInt ≤ 10 := ml_rowY hm (p := 122) (n := 2) (q := (0, 10)) (fun _ => rfl) _ (by omega)
  have c10 : (10 : Int32).toInt = 10 := by decide
  have c6 : (6 : Int32).toInt = 6 := by decide
  have e1 : ((10 : Int32) * I 107 18).toInt = 10 * (I 107 18).toInt := ml_mu c10 rfl (by omega) (by omega)
  have idx : ∀ x n : Int32, 0 ≤ x.toInt → x.toInt ≤ 9 → n = (10 : Int32) * I 107 18 + x → n.toInt = 10 * (I 107 18).toInt + x.toInt ∧ vp_in n 20 := by
    intro x n p0 p1 en
    have e2 : n.toInt = 10 * (I 107 18).toInt + x.toInt := by rw [en]; exact ml_ad e1 rfl (by omega) (by omega)
    exact ⟨e2, kl_in (by omega) (by omega)⟩
  intro m
  induction m with
  | zero => intro x5 x6 x7 d5 d6 h0 h1 hM; omega
  | succ m ih =>
    intro x5 x6 x7 d5 d6 h0 h1 hM
    refine u_X12_drawn_8 ⟨kl_in l0 (by omega), fun _ => ⟨fun _ => h _, fun n5 n1 en1 => ?_⟩, fun a n12 en12 => ?_⟩
    · have g5 := d5.resolve_left (ml_m1 n5)
      obtain ⟨t1, v1⟩ := idx x5 n1 g5.1 g5.2.1 en1
      have p1 := g5.2.2 n1 t1
      have nn1 := kl_nat (i := n1) (by omega)
      have q1 : -1 ≤ (I 124 n1.toNatClampNeg).toInt ∧ (I 124 n1.toNatClampNeg).toInt ≤ 5 := ml_rowY hm (p := 124) (n := 20) (q := (-1, 5)) (fun _ => rfl) _ (by omega)
      refine ⟨v1, fun _ => h _, fun n6 n2 en2 => ?_⟩
      have g6 := d6.resolve_left (ml_m1 n6)
      obtain ⟨t2, v2⟩ := idx x6 n2 g6.1 g6.2.1 en2
      have p2 := g6.2.2 n2 t2
      have nn2 := kl_nat (i := n2) (by omega)
      have q2 : -1 ≤ (I 124 n2.toNatClampNeg).toInt ∧ (I 124 n2.toNatClampNeg).toInt ≤ 5 := ml_rowY hm (p := 124) (n := 20) (q := (-1, 5)) (fun _ => rfl) _ (by omega)
      refine ⟨v2, fun n3 en3 => ?_⟩
      have s1 : ((6 : Int32) * I 124 n1.toNatClampNeg).toInt = 6 * (I 124 n1.toNatClampNeg).toInt := ml_mu c6 rfl (by omega) (by omega)
      have s2 : n3.toInt = 6 * (I 124 n1.toNatClampNeg).toInt + (I 124 n2.toNatClampNeg).toInt := by rw [en3]; exact ml_ad s1 rfl (by omega) (by omega)
      have s6 := ml_in1 (x := x6) (by omega)
      exact ⟨kl_in (by omega) (by omega), fun _ => h _, fun _ => mx_gapNow (by omega) (by omega) (fun r => ⟨r, I, L, R, rfl, fun _ => h _, fun _ => h _⟩)⟩
    · have a := kl_nle a
      have s7 := ml_in1 (x := x7) (by omega)
      obtain ⟨t12, v12⟩ := idx x7 n12 h0 (by omega) en12
      have n7 := kl_nat h0
      have nn := kl_nat (i := n12) (by omega)
      have nx : ∀ y z : Int32, ml_dk I y → ml_dk I z → sm_wp sm_P S (d + 1) 121 21 [.ref 107, .int x2, .int x3, .int y, .int z, .int x7] [] (xLay, I, L, kM R) (0, 0) Φ := fun y z hy hz => u_X12_drawn_21 (ih y z _ hy hz (by omega) (by omega) (by omega))
      refine ⟨v12, fun p => ?_, fun _ => nx _ _ d5 d6⟩
      have V := (ml_lvY hm).1 x7.toNatClampNeg (by rw [n7]; exact a) (by
        show (I 123 (10 * (I 107 18).toNatClampNeg + x7.toNatClampNeg)).toInt ≠ -1
        rw [show 10 * (I 107 18).toNatClampNeg + x7.toNatClampNeg = n12.toNatClampNeg by omega, p]; omega)
      have V : 0 ≤ (I 124 n12.toNatClampNeg).toInt := by
        rw [show n12.toNatClampNeg = 10 * (I 107 18).toNatClampNeg + x7.toNatClampNeg by omega]; exact V
      have d7 : ml_dk I x7 := Or.inr ⟨h0, by omega, fun n hn => by
        have k := kl_nat (i := n) (by omega)
        rw [show n.toNatClampNeg = n12.toNatClampNeg by omega]; exact V⟩
      have g17 : ∀ y r : Int32, ml_dk I y → sm_wp sm_P S (d + 1) 121 17 [.ref 107, .int x2, .int x3, .int y, .int x6, .int x7, .int r] [] (xLay, I, L, kM R) (0, 0) Φ := fun y r hy => by
        refine u_X12_drawn_17 ⟨fun _ => nx _ _ hy d6, fun _ => ⟨fun _ => nx _ _ hy d7, fun c => ?_⟩⟩
        have g6 := d6.resolve_left (ml_m1 c)
        have s6 := ml_in1 (x := x6) (by omega)
        exact mx_gapNow (by omega) (by omega) (fun r => ⟨r, I, L, R, rfl, fun _ => nx _ _ hy d6, fun _ => nx _ _ hy d7⟩)
      refine mx_gapNow (by omega) (by omega) (fun r => ⟨r, I, L, R, rfl, fun _ n23 en23 => ⟨(idx x7 n23 h0 (by omega) en23).2, h _⟩, fun _ => ⟨fun _ => g17 _ _ d5, fun _ => ⟨fun _ => g17 _ _ d7, fun c => ?_⟩⟩⟩)
      have g5 := d5.resolve_left (ml_m1 c)
      have s5 := ml_in1 (x := x5) (by omega)
      exact mx_gapNow (by omega) (by omega) (fun r => ⟨r, I, L, R, rfl, fun _ => g17 _ _ d5, fun _ => g17 _ _ d7⟩)
theorem mly_31 {Sc : sm_C} : en_hold ml_tb2 (mlY c48) sm_P Sc mlc_31 := by
  intro d hd vs w hv hm _
  obtain ⟨vs1, rfl, hv1⟩ := kl_vr (q := 107) rfl hv
  obtain ⟨x1, vs2, rfl, b1, hv2⟩ := kl_vi hv1
  obtain ⟨x2, vs3, rfl, b2, hv3⟩ := kl_vi hv2
  obtain ⟨x3, vs4, rfl, b3, hv4⟩ := kl_vi hv3
  obtain rfl := kl_v0 hv4
  have hd : 10 ≤ d := hd
  obtain ⟨d, rfl⟩ : ∃ d', d = d' + 1 + 1 := ⟨d - 2, by omega⟩
  refine ml_topY hm (fun I L R hw hm => ?_)
  have fin : ∀ (r : Int32) (I2 : sm_I) (L2 : sm_L) (R2 : sm_R), en_mem ml_tb2 (mlY c48) (xLay, I2, L2, R2) → en_fr ml_SW (xLay, I, L, R) (xLay, I2, L2, R2) → ∃ (o : Option Value) (I3 : sm_I) (L3 : sm_L) (R3 : sm_R), ((some (.int r) : Option Value), ((xLay, I2, L2, kM R2) : sm_W)) = (o, (xLay, I3, L3, kM R3)) ∧ en_pr mlc_31.2.2.2.1 o ∧ en_mem ml_tb2 (mlY c48) (xLay, I3, L3, R3) ∧ en_fr mlc_31.2.2.2.2.1 (xLay, I, L, R) (xLay, I3, L3, R3) := fun r I2 L2 R2 m f => ⟨_, I2, L2, R2, rfl, Or.inl ⟨rfl, en_crange.1, en_crange.2⟩, m, f⟩
  refine u_X12_drawn_0 (mx_isPersonY hm (fun r hr => ⟨r, I, L, R, rfl, fun _ => fin _ _ _ _ hm en_fr_rf, fun hr1 => ?_⟩))
  have a2 := hr.resolve_left hr1
  refine u_X12_isMinute_0 (mx_in (fun r hr _ => ⟨r, I, L, R, rfl, hr, r, I, L, R, rfl, fun _ => fin _ _ _ _ hm en_fr_rf, fun _ => ?_⟩))
  refine mx_asksY (by exact Nat.le_trans (by decide : _ ≤ 8) (by omega)) hm (fun r9 I7 L7 R7 m7 f7 h9 => ⟨r9, I7, L7, R7, rfl, fun c => ?_, fun _ => fin _ _ _ _ m7 f7⟩)
  have a1 := h9 c
  refine ml_ciY (c := mlc_18) mly_18 (by show 7 ≤ d + 1; omega) ⟨⟨rfl, rfl⟩, ⟨rfl, a1.1, a1.2⟩, ⟨rfl, by decide, by decide⟩, trivial⟩ m7 ml_pf0 rfl (fun r12 I10 L10 R10 q0 q1 m10 f10 => ?_)
  have hf10 : en_fr ml_SW (xLay, I, L, R) (xLay, I10, L10, R10) := ml_frt f7 f10 (by decide +kernel)
  refine ⟨fun _ => fin _ _ _ _ m10 hf10, fun _ => ?_⟩
  exact mx_drawn8Y m10 a2.1 (fun r => fin r _ _ _ m10 hf10) 11 _ _ 0 (Or.inl (by decide)) (Or.inl (by decide)) (by decide) (by decide) (by decide)
theorem mx_plans26Y {S : sm_C} {d : Nat} {Φ : sm_Z → Prop} {w0 : sm_W} {L : sm_L} {R : sm_R} {x1 x2 x4 : Int32} {N : Int} (hN : ml_pk x2.toInt N) (h0 : 0 ≤ x4.toInt) (h1 : x4.toInt < N) (hk : ∀ J : sm_I, en_mem ml_tb2 (mlY c48) (xLay, J, L, R) → en_fr ml_SW w0 (xLay, J, L, R) → sm_wp sm_P S (d + 1) 177 21 [.ref 107, .int x1, .int x2, .int (x4 + (-1 : Int32))] [] (xLay, J, L, kM R) (0, 0) Φ) : ∀ (m : Nat) (I : sm_I) (x5 : Int32), en_mem ml_tb2 (mlY c48) (xLay, I, L, R) → en_fr ml_SW w0 (xLay, I, L, R) → 0 ≤ x5.toInt → x5.toInt ≤ 5 → 5 - x5.toInt < m → sm_wp sm_P S (d + 1) 177 26 [.ref 107, .int x1, .int x2, .int x4, .int x5] [] (xLay, I, L, kM R) (0, 0) Φ := by
  have bN : N ≤ 243 ∧ x2.toInt ≤ 5 := by
    rcases hN with h | h | h | h | h | h <;> omega
  have n4 := kl_nat h0
  have v4 : vp_in x4 243 := kl_in h0 (by omega)
  intro m
  induction m with
  | zero => intro I x5 hm hf k0 k1 hM; omega
  | succ m ih =>
    intro I x5 hm hf k0 k1 hM
    have P := ml_pw hm.2.2.2.2.2.2.2.1 k0 k1
    have P : ml_pk x5.toInt (I 165 x5.toNatClampNeg).toInt := P
    have bp : 1 ≤ (I 165 x5.toNatClampNeg).toInt ∧ (I 165 x5.toNatClampNeg).toInt ≤ 243 := by
      rcases P with h | h | h | h | h | h <;> omega
    have p0 : ¬ (I 165 x5.toNatClampNeg) = 0 := fun c => by rw [c, kl_0] at bp; omega
    have v5 : vp_in x5 6 := kl_in k0 (by omega)
    have s5 := ml_in1 (x := x5) (by omega)
    refine u_X12_plans_26 ⟨fun _ => hk I hm hf, fun a => ⟨v4, fun _ => hk I hm hf, fun _ => ⟨v5, p0, by decide, fun z => ⟨v5, fun n1 e1 => ?_⟩, fun _ => ?_⟩⟩⟩
    all_goals have a := kl_nle a
    · have dv : (x4 / (I 165 x5.toNatClampNeg)).toInt = x4.toInt / (I 165 x5.toNatClampNeg).toInt := ml_dv h0 bp.1
      have dle : x4.toInt / (I 165 x5.toNatClampNeg).toInt ≤ x4.toInt := Int.ediv_le_self _ h0
      have dge : 0 ≤ x4.toInt / (I 165 x5.toNatClampNeg).toInt := Int.ediv_nonneg h0 (by omega)
      have r3 := ml_rem3 (by rw [dv]; exact dge) (by rw [dv]; omega) z
      rw [dv] at r3
      have dg := ml_dig h0 h1 P hN (by omega) r3
      clear r3 dle dge dv z
      have s1 : n1.toInt = x4.toInt + (I 165 x5.toNatClampNeg).toInt := by rw [e1]; exact ml_ad rfl rfl (by omega) (by omega)
      refine ⟨kl_in (by omega) (by omega), v5, fun n2 e2 => ?_⟩
      have m2 : ((2 : Int32) * (I 165 x5.toNatClampNeg)).toInt = 2 * (I 165 x5.toNatClampNeg).toInt := ml_mu (by decide) rfl (by omega) (by omega)
      have s2 : n2.toInt = x4.toInt + 2 * (I 165 x5.toNatClampNeg).toInt := by rw [e2]; exact ml_ad rfl m2 (by omega) (by omega)
      have wr : ∀ n3 : Int32, (vp_in x4 243) ∧ ((n3 < (I 164 x4.toNatClampNeg) → (vp_in x4 243) ∧ ∀ I4 : sm_I, I4 = (sm_up I 164 x4.toNatClampNeg n3) → ((x4 = 0 → sm_wp sm_P S (d + 1) 177 26 [.ref 107, .int x1, .int x2, .int x4, .int (x5 + (1 : Int32))] [] (xLay, (sm_up I4 107 96 x5), L, (kM R)) (0, 0) Φ) ∧ (¬ x4 = 0 → sm_wp sm_P S (d + 1) 177 26 [.ref 107, .int x1, .int x2, .int x4, .int (x5 + (1 : Int32))] [] (xLay, I4, L, (kM R)) (0, 0) Φ))) ∧ (¬ n3 < (I 164 x4.toNatClampNeg) → sm_wp sm_P S (d + 1) 177 26 [.ref 107, .int x1, .int x2, .int x4, .int (x5 + (1 : Int32))] [] (xLay, I, L, (kM R)) (0, 0) Φ)) := by
        intro n3
        refine ⟨v4, fun _ => ⟨v4, fun I4 e4 => ?_⟩, fun _ => ih I _ hm hf (by omega) (by omega) (by omega)⟩
        have m4 : en_mem ml_tb2 (mlY c48) (xLay, I4, L, R) := by
          rw [e4]
          exact ml_we2Y hm rfl (n := 243) (q := (-2147483648, 2147483647)) rfl en_crange
        have f4 : en_fr ml_SW w0 (xLay, I4, L, R) := by rw [e4]; exact ml_fr hf rfl
        refine ⟨fun _ => ih _ _ (ml_wfY m4 (by decide +kernel) (q := (-1, 4)) (by decide +kernel) ?_) (ml_fr f4 (by decide +kernel)) (by omega) (by omega) (by omega), fun _ => ih I4 _ m4 f4 (by omega) (by omega) (by omega)⟩
        show (-1 : Int) ≤ x5.toInt ∧ x5.toInt ≤ 4
        omega
      exact ⟨kl_in (by omega) (by omega), fun _ n3 _ => wr n3, fun _ n3 _ => wr n3⟩
    · exact ih I _ hm hf (by omega) (by omega) (by omega)
theorem mx_plans21Y {S : sm_C} {d : Nat} {Φ : sm_Z → Prop} {w0 : sm_W} {L : sm_L} {R : sm_R} {x1 x2 : Int32} {N : Int} (hN : ml_pk x2.toInt N) (hΦ : ∀ (r : Int32) (I : sm_I), en_mem ml_tb2 (mlY c48) (xLay, I, L, R) → en_fr ml_SW w0 (xLay, I, L, R) → Φ (some (.int r), (xLay, I, L, kM R))) : ∀ (m : Nat) (I : sm_I) (x4 : Int32), en_mem ml_tb2 (mlY c48) (xLay, I, L, R) → en_fr ml_SW w0 (xLay, I, L, R) → -1 ≤ x4.toInt → x4.toInt < N → x4.toInt < m → sm_wp sm_P S (d + 1) 177 21 [.ref 107, .int x1, .int x2, .int x4] [] (xLay, I, L, kM R) (0, 0) Φ := by
  have bN : N ≤ 243 ∧ x2.toInt ≤ 5 := by
    rcases hN with h | h | h | h | h | h <;> omega
  intro m
  induction m with
  | zero =>
    intro I x4 hm hf h0 h1 hM
    refine u_X12_plans_21 ⟨fun _ => ⟨kl_in (by decide) (by decide), hΦ _ I hm hf⟩, fun a => ?_⟩
    have := kl_nlt0 a
    omega
  | succ m ih =>
    intro I x4 hm hf h0 h1 hM
    refine u_X12_plans_21 ⟨fun _ => ⟨kl_in (by decide) (by decide), hΦ _ I hm hf⟩, fun a => ?_⟩
    have a := kl_nlt0 a
    have v4 : vp_in x4 243 := kl_in a (by omega)
    have go : ∀ (J : sm_I), en_mem ml_tb2 (mlY c48) (xLay, J, L, R) → en_fr ml_SW w0 (xLay, J, L, R) → sm_wp sm_P S (d + 1) 177 26 [.ref 107, .int x1, .int x2, .int x4, .int (0 : Int32)] [] (xLay, J, L, kM R) (0, 0) Φ := by
      intro J mJ fJ
      refine mx_plans26Y hN a h1 (fun K mK fK => ?_) 6 J 0 mJ fJ (by decide) (by decide) (by decide)
      obtain ⟨y, hy, sd⟩ : ∃ y, y = x4 + (-1 : Int32) ∧ y.toInt = x4.toInt - 1 := ⟨_, rfl, ml_de1 (by omega)⟩
      rw [← hy]
      exact ih K y mK fK (by omega) (by omega) (by omega)
    have w : ∀ n3 : Int32, (vp_in x4 243) ∧ ∀ I1 : sm_I, I1 = (sm_up I 164 x4.toNatClampNeg n3) → sm_wp sm_P S (d + 1) 177 26 [.ref 107, .int x1, .int x2, .int x4, .int (0 : Int32)] [] (xLay, I1, L, kM R) (0, 0) Φ := fun n3 => ⟨v4, fun I1 e1 => go I1 (by
      rw [e1]
      exact ml_we2Y hm rfl (n := 243) (q := (-2147483648, 2147483647)) rfl en_crange) (by rw [e1]; exact ml_fr hf rfl)⟩
    exact ⟨v4, fun _ => w _, fun _ => w _⟩
theorem mx_plans10Y {S : sm_C} {d : Nat} {Φ : sm_Z → Prop} {w0 : sm_W} {I : sm_I} {L : sm_L} {R : sm_R} {x1 x2 x3 x4 x5 : Int32} (hd : mlc_36.2.2.2.2.2 ≤ d) (b2 : x2.toInt ≤ 5) (h0 : 0 ≤ x5.toInt) (h1 : x5.toInt < 243) (hm : en_mem ml_tb2 (mlY c48) (xLay, I, L, R)) (hf : en_fr ml_SW w0 (xLay, I, L, R)) (hk : ∀ (J : sm_I) (Lj : sm_L) (Rj : sm_R), en_mem ml_tb2 (mlY c48) (xLay, J, Lj, Rj) → en_fr ml_SW w0 (xLay, J, Lj, Rj) → sm_wp sm_P S (d + 1) 177 8 [.ref 107, .int x1, .int x2, .int x3, .int x4, .int (x5 + 1)] [] (xLay, J, Lj, kM Rj) (0, 0) Φ) : ∀ (m : Nat) (x6 x7 x8 : Int32), 0 ≤ x8.toInt → x8.toInt ≤ 5 → 5 - x8.toInt < m → sm_wp sm_P S (d + 1) 177 10 [.ref 107, .int x1, .int x2, .int x3, .int x4, .int x5, .int x6, .int x7, .int x8] [] (xLay, I, L, kM R) (0, 0) Φ := by
  have v5 : vp_in x5 243 := kl_in h0 (by omega)
  intro m
  induction m with
  | zero => intro x6 x7 x8 k0 k1 hM; omega
  | succ m ih =>
    intro x6 x7 x8 k0 k1 hM
    have P : ml_pk x8.toInt (I 165 x8.toNatClampNeg).toInt := ml_pw hm.2.2.2.2.2.2.2.1 k0 k1
    have bp : 1 ≤ (I 165 x8.toNatClampNeg).toInt ∧ (I 165 x8.toNatClampNeg).toInt ≤ 243 := by
      rcases P with h | h | h | h | h | h <;> omega
    have p0 : ¬ (I 165 x8.toNatClampNeg) = 0 := fun c => by rw [c, kl_0] at bp; omega
    have s8 := ml_in1 (x := x8) (by omega)
    refine u_X12_plans_10 ⟨fun _ => ?_, fun a => ⟨kl_in k0 (by omega), p0, by decide, fun n8 _ => ?_⟩⟩
    · refine ml_ciY (c := mlc_36) mly_36 hd ⟨⟨rfl, rfl⟩, ⟨rfl, en_crange.1, en_crange.2⟩, ⟨rfl, en_crange.1, en_crange.2⟩, trivial⟩ hm ml_pf0 rfl (fun r I1 L1 R1 r0 r1 m1 f1 => ?_)
      have hf1 : en_fr ml_SW w0 (xLay, I1, L1, R1) := ml_frt hf f1 (by decide +kernel)
      refine ⟨fun _ => hk I1 L1 R1 m1 hf1, fun _ => ⟨v5, fun n4 _ => ⟨v5, fun I5 e5 => hk I5 L1 R1 ?_ ?_⟩⟩⟩
      · rw [e5]
        exact ml_we2Y m1 rfl (n := 243) (q := (-2147483648, 2147483647)) rfl en_crange
      · rw [e5]; exact ml_fr hf1 rfl
    · have a := kl_nle a
      have go : ∀ y z : Int32, sm_wp sm_P S (d + 1) 177 10 [.ref 107, .int x1, .int x2, .int x3, .int x4, .int x5, .int y, .int z, .int (x8 + 1)] [] (xLay, I, L, kM R) (0, 0) Φ := fun y z => ih y z _ (by omega) (by omega) (by omega)
      exact ⟨fun _ n11 _ => ⟨fun _ n12 _ => go _ _, fun _ => go _ _⟩, fun _ => ⟨fun _ n9 _ => go _ _, fun _ => go _ _⟩⟩
theorem mx_plans8Y {S : sm_C} {d : Nat} {Φ : sm_Z → Prop} {w0 : sm_W} {x1 x2 x3 x4 : Int32} (hd : mlc_36.2.2.2.2.2 ≤ d) (b2 : x2.toInt ≤ 5) (b3 : x3.toInt ≤ 243) (hk : ∀ (J : sm_I) (Lj : sm_L) (Rj : sm_R), en_mem ml_tb2 (mlY c48) (xLay, J, Lj, Rj) → en_fr ml_SW w0 (xLay, J, Lj, Rj) → sm_wp sm_P S (d + 1) 177 4 [.ref 107, .int x1, .int x2, .int x3, .int (x4 + 1)] [] (xLay, J, Lj, kM Rj) (0, 0) Φ) : ∀ (m : Nat) (I : sm_I) (L : sm_L) (R : sm_R) (x5 : Int32), en_mem ml_tb2 (mlY c48) (xLay, I, L, R) → en_fr ml_SW w0 (xLay, I, L, R) → 0 ≤ x5.toInt → x3.toInt - x5.toInt ≤ m → sm_wp sm_P S (d + 1) 177 8 [.ref 107, .int x1, .int x2, .int x3, .int x4, .int x5] [] (xLay, I, L, kM R) (0, 0) Φ := by
  intro m
  induction m with
  | zero =>
    intro I L R x5 hm hf h0 hM
    refine u_X12_plans_8 ⟨fun _ => hk I L R hm hf, fun a => ?_⟩
    have := kl_nle a
    omega
  | succ m ih =>
    intro I L R x5 hm hf h0 hM
    refine u_X12_plans_8 ⟨fun _ => hk I L R hm hf, fun a => ?_⟩
    have a := kl_nle a
    have s5 := ml_in1 (x := x5) (by omega)
    exact mx_plans10Y hd b2 h0 (by omega) hm hf (fun J Lj Rj mJ fJ => ih J Lj Rj _ mJ fJ (by omega) (by omega)) 6 _ _ 0 (by decide) (by decide) (by decide)
theorem mx_plans4Y {S : sm_C} {d : Nat} {Φ : sm_Z → Prop} {w0 : sm_W} {x1 x2 x3 : Int32} (hd : 7 ≤ d) (hN : ml_pk x2.toInt x3.toInt) (hΦ : ∀ (r : Int32) (I : sm_I) (L : sm_L) (R : sm_R), en_mem ml_tb2 (mlY c48) (xLay, I, L, R) → en_fr ml_SW w0 (xLay, I, L, R) → Φ (some (.int r), (xLay, I, L, kM R))) : ∀ (m : Nat) (I : sm_I) (L : sm_L) (R : sm_R) (x4 : Int32), en_mem ml_tb2 (mlY c48) (xLay, I, L, R) → en_fr ml_SW w0 (xLay, I, L, R) → 0 ≤ x4.toInt → x4.toInt ≤ 1000 → 1000 - x4.toInt < m → sm_wp sm_P S (d + 1) 177 4 [.ref 107, .int x1, .int x2, .int x3, .int x4] [] (xLay, I, L, kM R) (0, 0) Φ := by
  have bN : 1 ≤ x3.toInt ∧ x3.toInt ≤ 243 ∧ x2.toInt ≤ 5 := by
    rcases hN with h | h | h | h | h | h <;> omega
  intro m
  induction m with
  | zero => intro I L R x4 hm hf h0 h1 hM; omega
  | succ m ih =>
    intro I L R x4 hm hf h0 h1 hM
    have bw : 0 ≤ (I 107 73).toInt ∧ (I 107 73).toInt ≤ 1000 := hm.2.1 107 73 (0, 1000) (by decide +kernel)
    refine u_X12_plans_4 ⟨fun _ I1 e1 => ?_, fun a => ?_⟩
    · obtain ⟨y, hy, sd⟩ : ∃ y, y = x3 - (1 : Int32) ∧ y.toInt = x3.toInt - 1 := ⟨_, rfl, by rw [Int32.toInt_sub, kl_1]; exact en_bmod (by omega) (by omega) (Or.inl rfl)⟩
      rw [← hy]
      refine mx_plans21Y hN (fun r J mJ fJ => hΦ r J L R mJ fJ) 243 I1 y ?_ ?_ (by omega) (by omega) (by omega)
      · rw [e1]
        exact ml_wfY hm (by decide +kernel) (q := (-1, 4)) (by decide +kernel) (by decide)
      · rw [e1]; exact ml_fr hf (by decide +kernel)
    · have a := kl_nle a
      have s4 := ml_in1 (x := x4) (by omega)
      refine ml_ciY (c := mlc_18) mly_18 hd ⟨⟨rfl, rfl⟩, ⟨rfl, h0, (by omega : x4.toInt ≤ 999)⟩, ⟨rfl, by decide, by decide⟩, trivial⟩ hm ml_pf0 rfl (fun r I2 L2 R2 r0 r1 m2 f2 => ?_)
      have hf2 : en_fr ml_SW w0 (xLay, I2, L2, R2) := ml_frt hf f2 (by decide +kernel)
      refine ⟨fun _ => ih I2 L2 R2 _ m2 hf2 (by omega) (by omega) (by omega), fun _ => ?_⟩
      exact mx_plans8Y (Nat.le_trans (by decide : _ ≤ 7) hd) bN.2.2 bN.2.1 (fun J Lj Rj mJ fJ => ih J Lj Rj _ mJ fJ (by omega) (by omega) (by omega)) 243 I2 L2 R2 0 m2 hf2 (by decide) (by rw [kl_0]; omega)
theorem mx_plans1Y {S : sm_C} {d : Nat} {Φ : sm_Z → Prop} {w0 : sm_W} {L : sm_L} {R : sm_R} {x1 x2 x3 : Int32} (hd : 7 ≤ d) (hN : ml_pk x2.toInt x3.toInt) (hΦ : ∀ (r : Int32) (I : sm_I) (L : sm_L) (R : sm_R), en_mem ml_tb2 (mlY c48) (xLay, I, L, R) → en_fr ml_SW w0 (xLay, I, L, R) → Φ (some (.int r), (xLay, I, L, kM R))) : ∀ (m : Nat) (I : sm_I) (x4 : Int32), en_mem ml_tb2 (mlY c48) (xLay, I, L, R) → en_fr ml_SW w0 (xLay, I, L, R) → 0 ≤ x4.toInt → x3.toInt - x4.toInt ≤ m → sm_wp sm_P S (d + 1) 177 1 [.ref 107, .int x1, .int x2, .int x3, .int x4] [] (xLay, I, L, kM R) (0, 0) Φ := by
  have bN : 1 ≤ x3.toInt ∧ x3.toInt ≤ 243 ∧ x2.toInt ≤ 5 := by
    rcases hN with h | h | h | h | h | h <;> omega
  intro m
  induction m with
  | zero =>
    intro I x4 hm hf h0 hM
    refine u_X12_plans_1 ⟨fun _ => mx_plans4Y hd hN hΦ 1001 I L R 0 hm hf (by decide) (by decide) (by decide), fun a => ?_⟩
    have := kl_nle a
    omega
  | succ m ih =>
    intro I x4 hm hf h0 hM
    refine u_X12_plans_1 ⟨fun _ => mx_plans4Y hd hN hΦ 1001 I L R 0 hm hf (by decide) (by decide) (by decide), fun a => ?_⟩
    have a := kl_nle a
    have s4 := ml_in1 (x := x4) (by omega)
    refine ⟨kl_in h0 (by omega), fun I1 e1 => ih I1 _ ?_ ?_ (by omega) (by omega)⟩
    · rw [e1]
      exact ml_we2Y hm rfl (n := 243) (q := (-2147483648, 2147483647)) rfl (by decide)
    · rw [e1]; exact ml_fr hf rfl
theorem mly_37 {Sc : sm_C} : en_hold ml_tb2 (mlY c48) sm_P Sc mlc_37 := by
  intro d hd vs w hv hm _
  obtain ⟨vs1, rfl, hv1⟩ := kl_vr (q := 107) rfl hv
  obtain ⟨x1, vs2, rfl, b1, hv2⟩ := kl_vi hv1
  obtain rfl := kl_v0 hv2
  have hd : 9 ≤ d := hd
  obtain ⟨d, rfl⟩ : ∃ d', d = d' + 1 := ⟨d - 1, by omega⟩
  refine ml_topY hm (fun I L R hw hm => ?_)
  obtain ⟨l0, l1, ln, lc⟩ := ml_liveY hm
  have l0 : 0 ≤ (I 107 18).toInt := l0
  have l1 : (I 107 18).toInt ≤ 1 := l1
  have ln : ((I 107 18).toNatClampNeg : Int) = (I 107 18).toInt := ln
  have b : 0 ≤ (I 136 (I 107 18).toNatClampNeg).toInt ∧ (I 136 (I 107 18).toNatClampNeg).toInt ≤ 5 := ml_rowY hm (p := 136) (n := 2) (q := (0, 5)) (fun _ => rfl) _ (by omega)
  refine u_X12_plans_0 ⟨kl_in l0 (by omega), fun n1 e1 => ⟨by rw [e1]; exact kl_in b.1 (by omega), ?_⟩⟩
  have P : ml_pk n1.toInt (I 165 n1.toNatClampNeg).toInt := ml_pw hm.2.2.2.2.2.2.2.1 (by rw [e1]; exact b.1) (by rw [e1]; exact b.2)
  have bN : 1 ≤ (I 165 n1.toNatClampNeg).toInt ∧ (I 165 n1.toNatClampNeg).toInt ≤ 243 := by
    rcases P with h | h | h | h | h | h <;> omega
  exact mx_plans1Y (by omega) P (fun r I2 L2 R2 m f => ⟨_, I2, L2, R2, rfl, Or.inl ⟨rfl, en_crange.1, en_crange.2⟩, m, f⟩) 243 I 0 hm en_fr_rf (by decide) (by rw [kl_0]; omega)
end
end
section
/-! the reference's contracts with what was gone through (wip/pe/mkYm.py) -/
section
variable {c48 : Nat → Int64}
theorem mly_38 {Sc : sm_C} : en_hold ml_tb2 (mlY c48) sm_P Sc mlc_38 := en_chk_ok mlY_ok (T := [mlc_17, mlc_37]) (cuts := mlu_38) (List.forall_mem_cons.mpr ⟨mly_17, List.forall_mem_cons.mpr ⟨mly_37, fun _ h => absurd h List.not_mem_nil⟩⟩) (by decide +kernel)
theorem mly_39 {Sc : sm_C} : en_hold ml_tb2 (mlY c48) sm_P Sc mlc_39 := en_chk_ok mlY_ok (T := [mlc_38]) (cuts := mlu_39) (List.forall_mem_cons.mpr ⟨mly_38, fun _ h => absurd h List.not_mem_nil⟩) (by decide +kernel)
theorem mly_60 {Sc : sm_C} : en_hold ml_tb2 (mlY c48) sm_P Sc mlc_60 := en_chk_ok mlY_ok (T := [mlc_38]) (cuts := mlu_60) (List.forall_mem_cons.mpr ⟨mly_38, fun _ h => absurd h List.not_mem_nil⟩) (by decide +kernel)
end
end
section
/-! the reference's contracts with what was gone through (wip/pe/mkYm.py) -/
section
variable {c48 : Nat → Int64}
theorem mlw_30 {Sc : sm_C} : en_hold ml_tb3 (mlW c48) sm_P Sc mlc_30 := en_chk_ok mlW_ok (T := []) (cuts := mlu_30) (fun _ h => absurd h List.not_mem_nil) (by decide +kernel)
theorem mlw_34 {Sc : sm_C} : en_hold ml_tb3 (mlW c48) sm_P Sc mlc_34 := en_chk_ok mlW_ok (T := []) (cuts := mlu_34) (fun _ h => absurd h List.not_mem_nil) (by decide +kernel)
theorem mlw_54 {Sc : sm_C} : en_hold ml_tb3 (mlW c48) sm_P Sc mlc_54 := en_chk_ok mlW_ok (T := []) (cuts := mlu_54) (fun _ h => absurd h List.not_mem_nil) (by decide +kernel)
theorem mlw_64 {Sc : sm_C} : en_hold ml_tb3 (mlW c48) sm_P Sc mlc_64 := en_chk_ok mlW_ok (T := []) (cuts := mlu_64) (fun _ h => absurd h List.not_mem_nil) (by decide +kernel)
end
end
section
/-! the reference's contracts with what was gone through (wip/pe/mkYm.py) -/
section
variable {c48 : Nat → Int64}
theorem ml_refsWq : ∀ j, j < 97 → (match kMl[j]? with
  | some (some q) => decide (en_refs ml_tb3 107 j = [q])
  | _ => true) = true := by decide +kernel
theorem ml_RWq {w : sm_W} (hm : en_mem ml_tb3 (mlW c48) w) : kM w.2.2.2 = w.2.2.2 := kM_eq (fun j q hq => by
  have hj : j < 97 := by
    have : j < kMl.length := by
      rcases Nat.lt_or_ge j kMl.length with h | h
      · exact h
      · rw [List.getElem?_eq_none h] at hq; cases hq
    exact this
  have e := ml_refsWq j hj
  rw [hq] at e
  have e : en_refs ml_tb3 107 j = [q] := of_decide_eq_true e
  obtain ⟨r, h1, h2⟩ := hm.2.2.1 107 j (by rw [e]; exact List.cons_ne_nil _ _)
  rw [e] at h1
  rw [h2, List.mem_singleton.mp h1])
theorem ml_wrWq {I : sm_I} {L : sm_L} {R : sm_R} {p j : Nat} {x : Int32} (hm : en_mem ml_tb3 (mlW c48) (xLay, I, L, R)) (hX : (mlW c48) (xLay, sm_up I p j x, L, R)) (hq : ∀ q, en_int ml_tb3 p j = some q → q.1 ≤ x.toInt ∧ x.toInt ≤ q.2) : en_mem ml_tb3 (mlW c48) (xLay, sm_up I p j x, L, R) := by
  refine ⟨hm.1, ?_, hm.2.2.1, hm.2.2.2.1, hX⟩
  intro a b q h
  show q.1 ≤ (sm_up I p j x a b).toInt ∧ (sm_up I p j x a b).toInt ≤ q.2
  by_cases c : a = p ∧ b = j
  · obtain ⟨c1, c2⟩ := c
    subst c1; subst c2
    rw [en_up_eq]; exact hq q h
  · rw [en_up_ne _ _ _ _ c]; exact hm.2.1 a b q h
theorem ml_wfWq {I : sm_I} {L : sm_L} {R : sm_R} {p j : Nat} {x : Int32} {q : Int × Int} (hm : en_mem ml_tb3 (mlW c48) (xLay, I, L, R)) (hf : en_fix ml_tb3 p j = false) (e : en_int ml_tb3 p j = some q) (hx : q.1 ≤ x.toInt ∧ x.toInt ≤ q.2) : en_mem ml_tb3 (mlW c48) (xLay, sm_up I p j x, L, R) := ml_wrWq hm (mlW_ok.1 _ (I, L, R) _ _ _ hf hm.2.2.2.2) (fun r hr => by rw [e] at hr; rw [← Option.some.inj hr]; exact hx)
theorem ml_weWq {I : sm_I} {L : sm_L} {R : sm_R} {p j n : Nat} {x : Int32} {q : Int × Int} (hm : en_mem ml_tb3 (mlW c48) (xLay, I, L, R)) (hX : (mlW c48) (xLay, sm_up I p j x, L, R)) (e : en_int ml_tb3 p j = bif Nat.blt j n then some q else none) (hx : q.1 ≤ x.toInt ∧ x.toInt ≤ q.2) : en_mem ml_tb3 (mlW c48) (xLay, sm_up I p j x, L, R) := ml_wrWq hm hX (fun r hr => by
  rw [e] at hr
  cases c : Nat.blt j n with
  | true => rw [c] at hr; rw [← Option.some.inj hr]; exact hx
  | false => rw [c] at hr; cases hr)
theorem ml_tapedWq {w : sm_W} (hm : en_mem ml_tb3 (mlW c48) w) : 0 ≤ (w.2.1 107 2).toInt ∧ (w.2.1 107 2).toInt ≤ 2000 := hm.2.1 107 2 (0, 2000) (by decide +kernel)
theorem ml_liveWq {w : sm_W} (hm : en_mem ml_tb3 (mlW c48) w) : 0 ≤ (w.2.1 107 18).toInt ∧ (w.2.1 107 18).toInt ≤ 1 ∧ ((w.2.1 107 18).toNatClampNeg : Int) = (w.2.1 107 18).toInt ∧ ((w.2.1 107 18).toNatClampNeg = 0 ∨ (w.2.1 107 18).toNatClampNeg = 1) := by
  have l : 0 ≤ (w.2.1 107 18).toInt ∧ (w.2.1 107 18).toInt ≤ 1 := hm.2.1 107 18 (0, 1) (by decide +kernel)
  have ln := kl_nat l.1
  refine ⟨l.1, l.2, ln, ?_⟩
  omega
theorem ml_rowWq {w : sm_W} (hm : en_mem ml_tb3 (mlW c48) w) {p n : Nat} {q : Int × Int} (e : ∀ j, en_int ml_tb3 p j = bif Nat.blt j n then some q else none) (j : Nat) (hj : j < n) : q.1 ≤ (w.2.1 p j).toInt ∧ (w.2.1 p j).toInt ≤ q.2 := hm.2.1 p j q (by rw [e j, show Nat.blt j n = true from Nat.ble_eq_true_of_le hj]; rfl)
theorem ml_we2Wq {I : sm_I} {L : sm_L} {R : sm_R} {p j n : Nat} {x : Int32} {q : Int × Int} (hm : en_mem ml_tb3 (mlW c48) (xLay, I, L, R)) (hf : en_fix ml_tb3 p j = false) (e : en_int ml_tb3 p j = bif Nat.blt j n then some q else none) (hx : q.1 ≤ x.toInt ∧ x.toInt ≤ q.2) : en_mem ml_tb3 (mlW c48) (xLay, sm_up I p j x, L, R) := ml_weWq hm (mlW_ok.1 _ (I, L, R) _ _ _ hf hm.2.2.2.2) e hx
theorem ml_cvWq {S : sm_C} {d : Nat} {c : en_Ct} {vs : List Value} {I : sm_I} {L : sm_L} {R : sm_R} {C : sm_I → sm_L → sm_R → Prop} (h : en_hold ml_tb3 (mlW c48) sm_P S c) (hd : c.2.2.2.2.2 ≤ d) (hv : en_pvs c.2.1 vs) (hm : en_mem ml_tb3 (mlW c48) (xLay, I, L, R)) (hp : en_pf c.2.2.1 (xLay, I, L, R)) (hr : c.2.2.2.1 = (9, 0, 0)) (k : ∀ (I' : sm_I) (L' : sm_L) (R' : sm_R), en_mem ml_tb3 (mlW c48) (xLay, I', L', R') → en_fr c.2.2.2.2.1 (xLay, I, L, R) (xLay, I', L', R') → C I' L' R') : sm_wp sm_P S d c.1 0 vs [] (xLay, I, L, kM R) (0, 0) (fun z => ∃ (I2 : sm_I) (L2 : sm_L) (R2 : sm_R), z = (none, (xLay, I2, L2, kM R2)) ∧ C I2 L2 R2) := by
  have e0 : kM R = R := ml_RWq hm
  rw [e0]
  refine sm_wp_mono (h d hd vs _ hv hm hp) (fun z q => ?_)
  obtain ⟨o, lay, I2, L2, R2⟩ := z
  obtain ⟨q1, q2, q3⟩ := q
  obtain rfl : lay = xLay := q2.2.2.2.2.1
  have e : kM R2 = R2 := ml_RWq q2
  rw [hr] at q1
  have q1 : en_pr (9, 0, 0) o := q1
  cases o with
  | none => exact ⟨I2, L2, R2, by rw [e], k I2 L2 R2 q2 q3⟩
  | some v =>
    rcases q1 with q1 | ⟨q1, -⟩
    · cases v with
      | int r => have q1 : (9 : Nat) = 0 := q1.1; omega
      | long _ => have q1 : (9 : Nat) = 5 := q1; omega
      | null => have q1 : (9 : Nat) = 1 := q1; omega
      | ref p => have q1 : (9 : Nat) = 2 := q1.1; omega
      | float _ => exact q1.elim
      | double _ => exact q1.elim
      | retAddr _ => exact q1.elim
    · have q1 : (9 : Nat) = 3 := q1
      omega
end
end
section
/-! the reference's contracts with what was gone through (wip/pe/mkYm.py) -/
section
variable {c48 : Nat → Int64}
theorem ml_lvWq {w : sm_W} (hm : en_mem ml_tb3 (mlW c48) w) : mlV w.2.1 (w.2.1 107 18).toNatClampNeg := hm.2.2.2.2.2.2.1 _ (ml_liveWq hm).2.2.1
theorem ml_tWq {w : sm_W} (hm : en_mem ml_tb3 (mlW c48) w) : 0 ≤ (w.2.1 107 11).toInt ∧ (w.2.1 107 11).toInt ≤ 500 := hm.2.1 107 11 (0, 500) (by decide +kernel)
theorem ml_vtWq {I : sm_I} {L : sm_L} {R : sm_R} (hm : en_mem ml_tb3 (mlW c48) (xLay, I, L, R)) : vp_in (I 107 11) 503 := by
  have b : 0 ≤ (I 107 11).toInt ∧ (I 107 11).toInt ≤ 500 := ml_tWq hm
  exact kl_in b.1 (by omega)
theorem ml_ftWq {I : sm_I} {L : sm_L} {R : sm_R} (hm : en_mem ml_tb3 (mlW c48) (xLay, I, L, R)) : 0 ≤ (I 107 13).toInt ∧ (I 107 13).toInt ≤ 5 := hm.2.1 107 13 (0, 5) (by decide +kernel)
theorem ml_f0Wq {I : sm_I} {L : sm_L} {R : sm_R} (hm : en_mem ml_tb3 (mlW c48) (xLay, I, L, R)) (h : I 107 13 ≤ 0) : I 107 13 = 0 := by
  have b := ml_ftWq hm
  have h := kl_le.mp h
  rw [kl_0] at h
  exact en_ofI (by rw [kl_0]; omega)
theorem mx_isWq {S : sm_C} {d : Nat} {Φ : sm_Z → Prop} {I : sm_I} {L : sm_L} {R : sm_R} {x : Int32} (hm : en_mem ml_tb3 (mlW c48) (xLay, I, L, R)) (h : ∀ r : Int32, (r = 0 ∨ r = 1) → (¬ r = 0 → I 107 13 = 0) → Φ (some (.int r), (xLay, I, L, kM R))) : sm_wp sm_P S d 143 0 [.ref 107, .int x] [] (xLay, I, L, kM R) (0, 0) Φ := u_X12_is_0 ⟨fun a => ⟨ml_vtWq hm, fun _ => h 1 (Or.inr rfl) (fun _ => a), fun _ => h 0 (Or.inl rfl) (fun c => absurd rfl c)⟩, fun _ => h 0 (Or.inl rfl) (fun c => absurd rfl c)⟩
theorem mx_failWq {S : sm_C} {d : Nat} {Φ : sm_Z → Prop} {I : sm_I} {L : sm_L} {R : sm_R} {x : Int32} (h1 : 1 ≤ x.toInt) (h5 : x.toInt ≤ 5) (hm : en_mem ml_tb3 (mlW c48) (xLay, I, L, R)) (h : ∀ J : sm_I, en_mem ml_tb3 (mlW c48) (xLay, J, L, R) → ml_pS ml_no I J → ¬ J 107 13 = 0 → Φ (none, (xLay, J, L, kM R))) : sm_wp sm_P S d 123 0 [.ref 107, .int x] [] (xLay, I, L, kM R) (0, 0) Φ := by
  have bt : 0 ≤ (I 107 11).toInt ∧ (I 107 11).toInt ≤ 500 := ml_tWq hm
  have nt := kl_nat bt.1
  have g11 : (sm_up I 107 13 x) 107 11 = I 107 11 := en_up_ne _ _ _ _ (by omega)
  have m1 : en_mem ml_tb3 (mlW c48) (xLay, sm_up I 107 13 x, L, R) := ml_wfWq hm (by decide +kernel) (q := (0, 5)) (by decide +kernel) (by show 0 ≤ _ ∧ _ ≤ (5 : Int); omega)
  refine u_X12_fail_0 ⟨fun a => ⟨by rw [g11]; exact ml_vtWq hm, fun n1 e1 I2 e2 => ?_⟩, fun a => h I hm ml_pS_rf (fun c => a (by rw [c]; decide))⟩
  rw [g11] at e1
  have bn : 0 ≤ n1.toInt ∧ n1.toInt ≤ 2000 := by rw [e1]; exact ml_rowWq m1 (p := 111) (n := 503) (q := (0, 2000)) (fun _ => rfl) _ (by omega)
  have g13 : I2 107 13 = x := by rw [e2, en_up_ne _ _ _ _ (by omega), en_up_eq]
  have n13 : ¬ I2 107 13 = 0 := fun c => by rw [g13] at c; rw [c, kl_0] at h1; omega
  refine h I2 ?_ ⟨fun p j _ hp => ?_, fun c => ?_, fun _ => n13, ?_⟩ n13
  · rw [e2]
    exact ml_wfWq m1 (by decide +kernel) (q := (0, 2000)) (by decide +kernel) bn
  · rw [e2, en_up_ne _ _ _ _ (by omega), en_up_ne _ _ _ _ (by omega)]
  · rw [e2, en_up_ne _ _ _ _ (by omega), en_up_ne _ _ _ _ (by omega)]; exact c
  · rw [e2, en_up_ne _ _ _ _ (by omega), g11]; exact Int.le_refl _
theorem mx_wrongWq {S : sm_C} {d : Nat} {Φ : sm_Z → Prop} {I : sm_I} {L : sm_L} {R : sm_R} {x1 x2 : Int32} (h1 : 1 ≤ x1.toInt) (h5 : x1.toInt ≤ 5) (k0 : 0 ≤ x2.toInt) (k1 : x2.toInt ≤ 502) (hm : en_mem ml_tb3 (mlW c48) (xLay, I, L, R)) (h : ∀ J : sm_I, en_mem ml_tb3 (mlW c48) (xLay, J, L, R) → ml_pS ml_no I J → (I 107 13 = 0 → ¬ J 107 15 = 0) → Φ (none, (xLay, J, L, kM R))) : sm_wp sm_P S d 213 0 [.ref 107, .int x1, .int x2] [] (xLay, I, L, kM R) (0, 0) Φ := by
  have n2 := kl_nat k0
  have bp : 0 ≤ (I 111 x2.toNatClampNeg).toInt ∧ (I 111 x2.toNatClampNeg).toInt ≤ 2000 := ml_rowWq hm (p := 111) (n := 503) (q := (0, 2000)) (fun _ => rfl) _ (by omega)
  have wr : ∀ J : sm_I, J = sm_up (sm_up I 107 15 x1) 107 16 (I 111 x2.toNatClampNeg) → Φ (none, (xLay, J, L, kM R)) := by
    intro J e
    have g15 : J 107 15 = x1 := by rw [e, en_up_ne _ _ _ _ (by omega), en_up_eq]
    have n15 : ¬ J 107 15 = 0 := fun c => by rw [g15] at c; rw [c, kl_0] at h1; omega
    refine h J ?_ ⟨fun p j _ hp => ?_, fun _ => n15, fun c => ?_, ?_⟩ (fun _ => n15)
    · rw [e]
      exact ml_wfWq (ml_wfWq hm (by decide +kernel) (q := (0, 5)) (by decide +kernel) (by show 0 ≤ _ ∧ _ ≤ (5 : Int); omega)) (by decide +kernel) (q := (0, 2000)) (by decide +kernel) bp
    · rw [e, en_up_ne _ _ _ _ (by omega), en_up_ne _ _ _ _ (by omega)]
    · rw [e, en_up_ne _ _ _ _ (by omega), en_up_ne _ _ _ _ (by omega)]; exact c
    · rw [e, en_up_ne _ _ _ _ (by omega), en_up_ne _ _ _ _ (by omega)]; exact Int.le_refl _
  refine u_X12_wrong_0 ⟨kl_in k0 (by omega), fun a => h I hm ml_pS_rf (fun c => ?_), fun _ => ⟨fun _ => wr, fun a => ⟨fun _ => h I hm ml_pS_rf (fun _ => a), fun _ => ⟨fun _ => ⟨fun _ => wr, fun _ => h I hm ml_pS_rf (fun _ => a)⟩, fun _ => wr⟩⟩⟩⟩
  rw [c] at a
  exact absurd a (by decide)
theorem mx_goesOnWq {S : sm_C} {d : Nat} {Φ : sm_Z → Prop} {I : sm_I} {L : sm_L} {R : sm_R} (hm : en_mem ml_tb3 (mlW c48) (xLay, I, L, R)) (h : ∀ J : sm_I, en_mem ml_tb3 (mlW c48) (xLay, J, L, R) → ml_pS ml_no I J → (¬ J 107 13 = 0 ∨ (I 107 11).toInt + 1 ≤ (J 107 11).toInt) → Φ (none, (xLay, J, L, kM R))) : sm_wp sm_P S (d + 1) 136 0 [.ref 107] [] (xLay, I, L, kM R) (0, 0) Φ := by
  have bt : 0 ≤ (I 107 11).toInt ∧ (I 107 11).toInt ≤ 500 := ml_tWq hm
  refine u_X12_goesOn_0 ⟨fun _ => mx_failWq (by decide) (by decide) hm (fun J mJ pJ fJ => ⟨J, L, R, rfl, h J mJ pJ (Or.inl fJ)⟩), fun a I1 e1 => ?_⟩
  have a' : (I 107 11).toInt ≠ 500 := fun c => a (en_ofI (by rw [c]; decide))
  have s := ml_in1 (x := I 107 11) (by omega)
  have g : (I1 107 11).toInt = (I 107 11).toInt + 1 := by rw [e1, en_up_eq]; exact s
  refine h I1 ?_ ⟨fun p j _ hp => ?_, fun c => ?_, fun c => ?_, by omega⟩ (Or.inr (by omega))
  · rw [e1]
    exact ml_wfWq hm (by decide +kernel) (q := (0, 500)) (by decide +kernel) (by show 0 ≤ _ ∧ _ ≤ (500 : Int); omega)
  · rw [e1, en_up_ne _ _ _ _ (by omega)]
  · rw [e1, en_up_ne _ _ _ _ (by omega)]; exact c
  · rw [e1, en_up_ne _ _ _ _ (by omega)]; exact c
theorem mx_mustWq {S : sm_C} {d : Nat} {Φ : sm_Z → Prop} {I : sm_I} {L : sm_L} {R : sm_R} {x : Int32} (hm : en_mem ml_tb3 (mlW c48) (xLay, I, L, R)) (h : ∀ J : sm_I, en_mem ml_tb3 (mlW c48) (xLay, J, L, R) → ml_pS ml_no I J → Φ (none, (xLay, J, L, kM R))) : sm_wp sm_P S (d + 2) 165 0 [.ref 107, .int x] [] (xLay, I, L, kM R) (0, 0) Φ := u_X12_must_0 (mx_isWq hm (fun r _ _ => ⟨r, I, L, R, rfl, fun _ => mx_failWq (by decide) (by decide) hm (fun J mJ pJ _ => ⟨J, L, R, rfl, h J mJ pJ⟩), fun _ => mx_goesOnWq hm (fun J mJ pJ _ => ⟨J, L, R, rfl, h J mJ pJ⟩)⟩))
theorem ml_nmWq {I : sm_I} {L : sm_L} {R : sm_R} (hm : en_mem ml_tb3 (mlW c48) (xLay, I, L, R)) : 0 ≤ (I 107 20).toInt ∧ (I 107 20).toInt ≤ 50 := hm.2.1 107 20 (0, 50) (by decide +kernel)
theorem mx_named1Wq {S : sm_C} {d : Nat} {Φ : sm_Z → Prop} {L : sm_L} {R : sm_R} {x1 : Int32} (k0 : 0 ≤ x1.toInt) (k1 : x1.toInt ≤ 500) (I0 : sm_I) (h : ∀ J : sm_I, en_mem ml_tb3 (mlW c48) (xLay, J, L, R) → ml_pS ml_no I0 J → Φ (some (.int x1), (xLay, J, L, kM R))) : ∀ (m : Nat) (I : sm_I) (x2 : Int32), en_mem ml_tb3 (mlW c48) (xLay, I, L, R) → ml_pS ml_no I0 I → 0 ≤ x2.toInt → (I 107 20).toInt - x2.toInt ≤ m → sm_wp sm_P S (d + 2) 166 1 [.ref 107, .int x1, .int x2] [] (xLay, I, L, kM R) (0, 0) Φ := by
  intro m
  induction m with
  | zero =>
    intro I x2 hm hp h0 hM
    refine u_X12_named_1 ⟨fun _ => h I hm hp, fun a => ?_⟩
    have := kl_nle a
    omega
  | succ m ih =>
    intro I x2 hm hp h0 hM
    have bn := ml_nmWq hm
    refine u_X12_named_1 ⟨fun _ => h I hm hp, fun a => ⟨fun _ => ?_, fun _ => h I hm hp⟩⟩
    have a := kl_nle a
    have s := ml_in1 (x := x2) (by omega)
    refine ⟨kl_in h0 (by omega), kl_in k0 (by omega), fun _ => ?_, fun _ => ih I _ hm hp (by omega) (by omega)⟩
    refine mx_wrongWq (by decide) (by decide) k0 (by omega) hm (fun J mJ pJ _ => ⟨J, L, R, rfl, ih J _ mJ (ml_pS_tr hp pJ) (by omega) ?_⟩)
    rw [ml_pS_g pJ (by omega)]
    omega
theorem mx_namedWq {S : sm_C} {d : Nat} {Φ : sm_Z → Prop} {I : sm_I} {L : sm_L} {R : sm_R} (hm : en_mem ml_tb3 (mlW c48) (xLay, I, L, R)) (h : ∀ (r : Int32) (J : sm_I), 0 ≤ r.toInt → r.toInt ≤ 500 → en_mem ml_tb3 (mlW c48) (xLay, J, L, R) → ml_pS ml_no I J → Φ (some (.int r), (xLay, J, L, kM R))) : sm_wp sm_P S (d + 3) 166 0 [.ref 107] [] (xLay, I, L, kM R) (0, 0) Φ := by
  have bt : 0 ≤ (I 107 11).toInt ∧ (I 107 11).toInt ≤ 500 := ml_tWq hm
  refine u_X12_named_0 (mx_mustWq hm (fun J mJ pJ => ⟨J, L, R, rfl, ?_⟩))
  have bn := ml_nmWq mJ
  exact mx_named1Wq bt.1 bt.2 I (fun K mK pK => h _ K bt.1 bt.2 mK pK) 50 J 0 mJ pJ (by decide) (by rw [kl_0]; omega)
theorem mx_known3Wq {S : sm_C} {d : Nat} {Φ : sm_Z → Prop} {I : sm_I} {L : sm_L} {R : sm_R} {x1 x2 : Int32} (k0 : 0 ≤ x2.toInt) (k1 : x2.toInt ≤ 500) (hm : en_mem ml_tb3 (mlW c48) (xLay, I, L, R)) (hf : I 107 13 = 0) (h : ∀ (r : Int32) (J : sm_I), en_mem ml_tb3 (mlW c48) (xLay, J, L, R) → ml_pS ml_no I J → -1 ≤ r.toInt → r.toInt ≤ 9 → (x1.toInt = 0 → r.toInt ≤ 3) → (x1.toInt = 1 → r.toInt ≤ 5) → (r.toInt = -1 → ¬ J 107 15 = 0) → Φ (some (.int r), (xLay, J, L, kM R))) : ∀ (m : Nat) (x3 x4 : Int32), -1 ≤ x3.toInt → x3.toInt ≤ 9 → (x1.toInt = 0 → x3.toInt ≤ 3) → (x1.toInt = 1 → x3.toInt ≤ 5) → 0 ≤ x4.toInt → (I 107 20).toInt - x4.toInt ≤ m → sm_wp sm_P S (d + 1) 154 3 [.ref 107, .int x1, .int x2, .int x3, .int x4] [] (xLay, I, L, kM R) (0, 0) Φ := by
  have bn := ml_nmWq hm
  have done : ∀ x3 : Int32, -1 ≤ x3.toInt → x3.toInt ≤ 9 → (x1.toInt = 0 → x3.toInt ≤ 3) → (x1.toInt = 1 → x3.toInt ≤ 5) → ((x3 = (-1 : Int32) → sm_wp sm_P S d 213 0 [.ref 107, .int (4 : Int32), .int x2] [] (xLay, I, L, (kM R)) (0, 0) (fun z => ∃ (I1 : sm_I) (L2 : sm_L) (R3 : sm_R), z = (none, (xLay, I1, L2, (kM R3))) ∧ Φ (some (.int x3), (xLay, I1, L2, (kM R3))))) ∧ (¬ x3 = (-1 : Int32) → Φ (some (.int x3), (xLay, I, L, (kM R))))) := fun x3 a1 a2 a3 a4 => ⟨fun _ => mx_wrongWq (by decide) (by decide) k0 (by omega) hm (fun J mJ pJ wJ => ⟨J, L, R, rfl, h x3 J mJ pJ a1 a2 a3 a4 (fun _ => wJ hf)⟩), fun c => h x3 I hm ml_pS_rf a1 a2 a3 a4 (fun q => absurd q (ml_m1 c))⟩
  intro m
  induction m with
  | zero =>
    intro x3 x4 a1 a2 a3 a4 h0 hM
    refine u_X12_known_3 ⟨fun _ => done x3 a1 a2 a3 a4, fun a => ?_⟩
    have := kl_nle a
    omega
  | succ m ih =>
    intro x3 x4 a1 a2 a3 a4 h0 hM
    refine u_X12_known_3 ⟨fun _ => done x3 a1 a2 a3 a4, fun a => ?_⟩
    have a := kl_nle a
    have s := ml_in1 (x := x4) (by omega)
    have n4 := kl_nat h0
    have v : vp_in x4 50 := kl_in h0 (by omega)
    have same : sm_wp sm_P S (d + 1) 154 3 [.ref 107, .int x1, .int x2, .int x3, .int (x4 + 1)] [] (xLay, I, L, kM R) (0, 0) Φ := ih x3 _ a1 a2 a3 a4 (by omega) (by omega)
    refine ⟨fun _ => ⟨v, kl_in k0 (by omega), fun _ => ⟨v, fun e => ⟨v, ?_⟩, fun _ => same⟩, fun _ => same⟩, fun _ => same⟩
    have bw : 0 ≤ (I 117 x4.toNatClampNeg).toInt ∧ (I 117 x4.toNatClampNeg).toInt ≤ 9 := ml_rowWq hm (p := 117) (n := 50) (q := (0, 9)) (fun _ => rfl) _ (by omega)
    have N := hm.2.2.2.2.2.2.2.2.1 x4.toNatClampNeg (by omega)
    have N : ((I 116 x4.toNatClampNeg).toInt = 0 → (I 117 x4.toNatClampNeg).toInt ≤ 3) ∧ ((I 116 x4.toNatClampNeg).toInt = 1 → (I 117 x4.toNatClampNeg).toInt ≤ 5) := N
    rw [e] at N
    exact ih _ _ (by omega) bw.2 N.1 N.2 (by omega) (by omega)
theorem mx_knownWq {S : sm_C} {d : Nat} {Φ : sm_Z → Prop} {I : sm_I} {L : sm_L} {R : sm_R} {x1 : Int32} (hm : en_mem ml_tb3 (mlW c48) (xLay, I, L, R)) (h : ∀ (r : Int32) (J : sm_I), en_mem ml_tb3 (mlW c48) (xLay, J, L, R) → ml_pS ml_no I J → -1 ≤ r.toInt → r.toInt ≤ 9 → (x1.toInt = 0 → r.toInt ≤ 3) → (x1.toInt = 1 → r.toInt ≤ 5) → (r.toInt = -1 → ¬ J 107 15 = 0) → Φ (some (.int r), (xLay, J, L, kM R))) : sm_wp sm_P S (d + 3) 154 0 [.ref 107, .int x1] [] (xLay, I, L, kM R) (0, 0) Φ := by
  have bt : 0 ≤ (I 107 11).toInt ∧ (I 107 11).toInt ≤ 500 := ml_tWq hm
  have z : (0 : Int32).toInt = 0 := kl_0
  refine u_X12_known_0 (mx_mustWq hm (fun J mJ pJ => ⟨J, L, R, rfl, fun a => ?_, fun _ => h _ J mJ pJ (by decide) (by decide) (fun _ => by decide) (fun _ => by decide) (fun c => absurd c (by decide))⟩))
  have bn := ml_nmWq mJ
  exact mx_known3Wq bt.1 bt.2 mJ (ml_f0Wq mJ a) (fun r K mK pK b1 b2 b3 b4 b5 => h r K mK (ml_pS_tr pJ pK) b1 b2 b3 b4 b5) 50 _ 0 (by decide) (by decide) (fun _ => by decide) (fun _ => by decide) (by decide) (by rw [kl_0]; omega)
theorem mx_number7Wq {S : sm_C} {d : Nat} {Φ : sm_Z → Prop} {I : sm_I} {L : sm_L} {R : sm_R} {x2 : Int32} (hm : en_mem ml_tb3 (mlW c48) (xLay, I, L, R)) (h : ∀ (r : Int32) (J : sm_I), en_mem ml_tb3 (mlW c48) (xLay, J, L, R) → ml_pS ml_no I J → Φ (some (.int r), (xLay, J, L, kM R))) : sm_wp sm_P S (d + 3) 169 7 [.ref 107, .int x2] [] (xLay, I, L, kM R) (0, 0) Φ := by
  have bt : 0 ≤ (I 107 11).toInt ∧ (I 107 11).toInt ≤ 500 := ml_tWq hm
  have go : ∀ s0 : Int32, sm_wp sm_P S (d + 3) 169 10 [.ref 107, .int x2, .int (I 107 11)] [.int s0] (xLay, I, L, kM R) (0, 0) Φ := fun s0 => u_X12_number_10 (mx_mustWq hm (fun J mJ pJ => ⟨J, L, R, rfl, fun _ => ⟨fun _ => u_X12_number_13 (h _ J mJ pJ), fun _ => mx_wrongWq (by decide) (by decide) bt.1 (by omega) mJ (fun K mK pK _ => ⟨K, L, R, rfl, u_X12_number_13 (h _ K mK (ml_pS_tr pJ pK))⟩)⟩, fun _ => u_X12_number_13 (h _ J mJ pJ)⟩))
  exact u_X12_number_7 (mx_isWq hm (fun r _ _ => ⟨r, I, L, R, rfl, fun _ => go _, fun _ => ⟨ml_vtWq hm, go _⟩⟩))
theorem mx_numberWq {S : sm_C} {d : Nat} {Φ : sm_Z → Prop} {I : sm_I} {L : sm_L} {R : sm_R} {x1 : Int32} (hm : en_mem ml_tb3 (mlW c48) (xLay, I, L, R)) (h : ∀ (r : Int32) (J : sm_I), en_mem ml_tb3 (mlW c48) (xLay, J, L, R) → ml_pS ml_no I J → Φ (some (.int r), (xLay, J, L, kM R))) : sm_wp sm_P S (d + 3) 169 0 [.ref 107, .int x1] [] (xLay, I, L, kM R) (0, 0) Φ := by
  have g : ∀ {x2 : Int32}, sm_wp sm_P S (d + 3) 169 7 [.ref 107, .int x2] [] (xLay, I, L, kM R) (0, 0) Φ := mx_number7Wq hm h
  have gJ : ∀ {x2 : Int32} (J : sm_I), en_mem ml_tb3 (mlW c48) (xLay, J, L, R) → ml_pS ml_no I J → sm_wp sm_P S (d + 3) 169 7 [.ref 107, .int x2] [] (xLay, J, L, kM R) (0, 0) Φ := fun J mJ pJ => mx_number7Wq mJ (fun r K mK pK => h r K mK (ml_pS_tr pJ pK))
  refine u_X12_number_0 ⟨fun _ => ⟨fun _ => g, fun _ => mx_isWq hm (fun r _ _ => ⟨r, I, L, R, rfl, fun _ => g, fun _ => mx_goesOnWq hm (fun J mJ pJ _ => ⟨J, L, R, rfl, gJ J mJ pJ⟩)⟩)⟩, fun _ => mx_isWq hm (fun r _ _ => ⟨r, I, L, R, rfl, fun _ => ⟨fun _ => g, fun _ => mx_isWq hm (fun r _ _ => ⟨r, I, L, R, rfl, fun _ => g, fun _ => mx_goesOnWq hm (fun J mJ pJ _ => ⟨J, L, R, rfl, gJ J mJ pJ⟩)⟩)⟩, fun _ => ⟨fun _ => g, fun _ => mx_isWq hm (fun r _ _ => ⟨r, I, L, R, rfl, fun _ => g, fun _ => mx_goesOnWq hm (fun J mJ pJ _ => ⟨J, L, R, rfl, gJ J mJ pJ⟩)⟩)⟩⟩)⟩
theorem mx_knowsWq {S : sm_C} {d : Nat} {Φ : sm_Z → Prop} {I : sm_I} {L : sm_L} {R : sm_R} {x1 x2 x3 : Int32} (k0 : 0 ≤ x1.toInt) (k1 : x1.toInt ≤ 500) (b2 : 0 ≤ x2.toInt ∧ x2.toInt ≤ 4) (b3 : 0 ≤ x3.toInt ∧ x3.toInt ≤ 9) (c0 : x2.toInt = 0 → x3.toInt ≤ 3) (c1 : x2.toInt = 1 → x3.toInt ≤ 5) (hn : (I 107 20).toInt ≤ 49) (hm : en_mem ml_tb3 (mlW c48) (xLay, I, L, R)) (h : ∀ (J : sm_I) (L' : sm_L), en_mem ml_tb3 (mlW c48) (xLay, J, L', R) → ml_pS (ml_kn (I 107 20).toNatClampNeg) I J → (J 107 20).toInt = (I 107 20).toInt + 1 → Φ (none, (xLay, J, L', kM R))) : sm_wp sm_P S d 155 0 [.ref 107, .int x1, .int x2, .int x3] [] (xLay, I, L, kM R) (0, 0) Φ := by
  have bn := ml_nmWq hm
  have nn := kl_nat bn.1
  have v : vp_in (I 107 20) 50 := kl_in bn.1 (by omega)
  refine u_X12_knows_0 ⟨kl_in k0 (by omega), v, fun L1 eL => ⟨v, fun I2 e2 => ?_⟩⟩
  have g2 : I2 107 20 = I 107 20 := by rw [e2, en_up_ne _ _ _ _ (by omega)]
  refine ⟨by rw [g2]; exact v, fun I3 e3 I4 e4 => ?_⟩
  rw [g2] at e3
  have g3 : I3 107 20 = I 107 20 := by rw [e3, en_up_ne _ _ _ _ (by omega), g2]
  rw [g3] at e4
  have s := ml_in1 (x := I 107 20) (by omega)
  have o3 : ∀ p j, ¬ ((p = 116 ∨ p = 117) ∧ j = (I 107 20).toNatClampNeg) → I3 p j = I p j := fun p j hp => by rw [e3, en_up_ne _ _ _ _ (by omega), e2, en_up_ne _ _ _ _ (by omega)]
  have e116 : I3 116 (I 107 20).toNatClampNeg = x2 := by rw [e3, en_up_ne _ _ _ _ (by omega), e2, en_up_eq]
  have e117 : I3 117 (I 107 20).toNatClampNeg = x3 := by rw [e3, en_up_eq]
  have m3 : en_mem ml_tb3 (mlW c48) (xLay, I3, L, R) := by
    refine ⟨hm.1, fun a b q hq => ?_, hm.2.2.1, hm.2.2.2.1, ?_⟩
    · show q.1 ≤ (I3 a b).toInt ∧ (I3 a b).toInt ≤ q.2
      by_cases c : (a = 116 ∨ a = 117) ∧ b = (I 107 20).toNatClampNeg
      · obtain ⟨c1 | c1, c2⟩ := c
        · subst c1; subst c2
          have e : en_int ml_tb3 116 (I 107 20).toNatClampNeg = bif Nat.blt (I 107 20).toNatClampNeg 50 then some (0, 4) else none := rfl
          rw [e, show Nat.blt (I 107 20).toNatClampNeg 50 = true from Nat.ble_eq_true_of_le (by omega)] at hq
          rw [← Option.some.inj hq, e116]; exact b2
        · subst c1; subst c2
          have e : en_int ml_tb3 117 (I 107 20).toNatClampNeg = bif Nat.blt (I 107 20).toNatClampNeg 50 then some (0, 9) else none := rfl
          rw [e, show Nat.blt (I 107 20).toNatClampNeg 50 = true from Nat.ble_eq_true_of_le (by omega)] at hq
          rw [← Option.some.inj hq, e117]; exact b3
      · rw [o3 a b c]; exact hm.2.1 a b q hq
    · have X := hm.2.2.2.2
      refine ⟨rfl, fun j hj => ?_, fun l hl => mlV_cg (I := I) (fun p hp j => o3 p j (by omega)) (X.2.2.1 l ?_), mlP_cg (fun j => o3 165 j (by omega)) X.2.2.2.1, fun j hj => ?_, X.2.2.2.2.2⟩
      · show (I3 148 j).toInt ≤ 54 ∨ 60 ≤ (I3 148 j).toInt
        rw [o3 148 j (by omega)]; exact X.2.1 j hj
      · have hl : (l : Int) = (I3 107 18).toInt := hl
        rw [o3 107 18 (by omega)] at hl; exact hl
      · show ((I3 116 j).toInt = 0 → (I3 117 j).toInt ≤ 3) ∧ ((I3 116 j).toInt = 1 → (I3 117 j).toInt ≤ 5)
        by_cases c : j = (I 107 20).toNatClampNeg
        · subst c; rw [e116, e117]; exact ⟨c0, c1⟩
        · rw [o3 116 j (by omega), o3 117 j (by omega)]; exact X.2.2.2.2.1 j hj
  have m4 : en_mem ml_tb3 (mlW c48) (xLay, I4, L, R) := by
    rw [e4]
    exact ml_wfWq m3 (by decide +kernel) (q := (0, 50)) (by decide +kernel) (by show 0 ≤ _ ∧ _ ≤ (50 : Int); omega)
  have m4' : en_mem ml_tb3 (mlW c48) (xLay, I4, L1, R) := ⟨m4.1, m4.2.1, m4.2.2.1, m4.2.2.2.1, m4.2.2.2.2.1, m4.2.2.2.2.2.1, m4.2.2.2.2.2.2.1, m4.2.2.2.2.2.2.2.1, m4.2.2.2.2.2.2.2.2.1, ⟨pk_cg (L := L) (L' := L1) (fun j => by rw [eL]; exact en_up_ne _ _ _ _ (by omega)) m4.2.2.2.2.2.2.2.2.2.1, fun j => by show L1 48 j = c48 j; rw [eL, en_up_ne _ _ _ _ (by omega)]; exact m4.2.2.2.2.2.2.2.2.2.2 j⟩⟩
  refine h I4 L1 m4' ⟨fun p j hp _ => ?_, ?_, ?_, ?_⟩ (by rw [e4, en_up_eq]; exact s)
  · unfold ml_kn at hp
    rw [e4, en_up_ne _ _ _ _ (by omega), o3 p j (by omega)]
  · rw [e4, en_up_ne _ _ _ _ (by omega), o3 107 15 (by omega)]; exact id
  · rw [e4, en_up_ne _ _ _ _ (by omega), o3 107 13 (by omega)]; exact id
  · rw [e4, en_up_ne _ _ _ _ (by omega), o3 107 11 (by omega)]; exact Int.le_refl _
theorem mlV_hlWq {I J : sm_I} {L : sm_L} {R : sm_R} {l : Nat} (hl : l ≤ 1) (hm : en_mem ml_tb3 (mlW c48) (xLay, I, L, R)) (h : ∀ p j, ml_hl l p j → J p j = I p j) (hV : mlV I l) : mlV J l := by
  have b122 : 0 ≤ (I 122 l).toInt ∧ (I 122 l).toInt ≤ 10 := ml_rowWq hm (p := 122) (n := 2) (q := (0, 10)) (fun _ => rfl) _ (by omega)
  have b125 : 0 ≤ (I 125 l).toInt ∧ (I 125 l).toInt ≤ 10 := ml_rowWq hm (p := 125) (n := 2) (q := (0, 10)) (fun _ => rfl) _ (by omega)
  have b128 : ∀ s : Nat, (s : Int) < (I 125 l).toInt → 0 ≤ (I 128 (10 * l + s)).toInt ∧ (I 128 (10 * l + s)).toInt ≤ 4 := fun s hs => ml_rowWq hm (p := 128) (n := 20) (q := (0, 4)) (fun _ => rfl) _ (by omega)
  have b129 : ∀ s c : Nat, (s : Int) < (I 125 l).toInt → (c : Int) < (I 128 (10 * l + s)).toInt → 0 ≤ (I 129 (4 * (10 * l + s) + c)).toInt ∧ (I 129 (4 * (10 * l + s) + c)).toInt ≤ 3 := fun s c hs hc => ml_rowWq hm (p := 129) (n := 80) (q := (0, 3)) (fun _ => rfl) _ (by have := b128 s hs; omega)
  refine mlV_dom (h 122 l (Or.inl ⟨Or.inl rfl, rfl⟩)) (h 125 l (Or.inl ⟨Or.inr rfl, rfl⟩)) (fun i hi => ⟨h 123 _ (Or.inr (Or.inl ⟨Or.inl rfl, by omega⟩)), h 124 _ (Or.inr (Or.inl ⟨Or.inr (Or.inl rfl), by omega⟩))⟩) (fun s hs => h 128 _ (Or.inr (Or.inl ⟨Or.inr (Or.inr rfl), by omega⟩))) (fun s c hs hc => h 129 _ (Or.inr (Or.inr (Or.inl ⟨rfl, by have := b128 s hs; omega⟩)))) (fun s c i hs hc hi => h 130 _ (Or.inr (Or.inr (Or.inr ⟨rfl, by have := b128 s hs; have := b129 s c hs hc; omega⟩)))) hV
theorem ml_wtWq {I : sm_I} {L : sm_L} {R : sm_R} {l p j : Nat} {x : Int32} (hl : l ≤ 1) (hv : (I 107 18).toInt = l) (hD : 116 ≤ p ∧ p ≤ 136 ∧ ¬ ml_hl l p j) (hp : p ≠ 116 ∧ p ≠ 117) (hm : en_mem ml_tb3 (mlW c48) (xLay, I, L, R)) (hq : ∀ q, en_int ml_tb3 p j = some q → q.1 ≤ x.toInt ∧ x.toInt ≤ q.2) : en_mem ml_tb3 (mlW c48) (xLay, sm_up I p j x, L, R) := by
  refine ml_wrWq hm ?_ hq
  have X := hm.2.2.2.2
  refine ⟨rfl, fun k hk => ?_, fun k hk => ?_, mlP_cg (fun k => en_up_ne _ _ _ _ (by omega)) X.2.2.2.1, mlN_cg (fun k => en_up_ne _ _ _ _ (by omega)) (fun k => en_up_ne _ _ _ _ (by omega)) X.2.2.2.2.1, X.2.2.2.2.2⟩
  · show ((sm_up I p j x) 148 k).toInt ≤ 54 ∨ 60 ≤ ((sm_up I p j x) 148 k).toInt
    rw [en_up_ne _ _ _ _ (by omega)]; exact X.2.1 k hk
  · have hk : (k : Int) = ((sm_up I p j x) 107 18).toInt := hk
    rw [en_up_ne _ _ _ _ (by omega), hv] at hk
    have hk : k = l := by omega
    subst hk
    exact mlV_hlWq hl hm (fun a b hab => en_up_ne _ _ _ _ (fun c => hD.2.2 (by rw [← c.1, ← c.2]; exact hab))) (X.2.2.1 k hv.symm)
theorem ml_rqWq {p j n : Nat} {x : Int32} {q : Int × Int} (e : en_int ml_tb3 p j = bif Nat.blt j n then some q else none) (hx : q.1 ≤ x.toInt ∧ x.toInt ≤ q.2) : ∀ r, en_int ml_tb3 p j = some r → r.1 ≤ x.toInt ∧ x.toInt ≤ r.2 := by
  intro r hr
  rw [e] at hr
  cases c : Nat.blt j n with
  | true => rw [c] at hr; rw [← Option.some.inj hr]; exact hx
  | false => rw [c] at hr; cases hr
theorem ml_TI_0Wq {l s : Nat} {I J : sm_I} {L : sm_L} {R : sm_R} (hls : ml_ls l s) (hm : en_mem ml_tb3 (mlW c48) (xLay, I, L, R)) (h : ml_pS (ml_D0 l) I J) (hT : ml_TI l s I) : ml_TI l s J := by
  have hs : s ≤ 1 := by unfold ml_ls at hls; omega
  have o : ∀ p j, ¬ ml_D0 l p j → ¬ (p = 107 ∧ (j = 11 ∨ j = 13 ∨ j = 14 ∨ j = 15 ∨ j = 16)) → J p j = I p j := h.1
  unfold ml_D0 ml_hm at o
  refine ⟨?_, ?_, ?_, fun c => ?_⟩
  · rw [o 107 18 (by omega) (by omega)]; exact hT.1
  · rw [o 107 19 (by omega) (by omega)]; exact hT.2.1
  · unfold ml_sum
    rw [o 107 20 (by omega) (by omega), o 118 s (by omega) (by omega), o 119 s (by omega) (by omega), o 122 s (by omega) (by omega), o 125 s (by omega) (by omega), o 136 s (by omega) (by omega)]
    exact hT.2.2.1
  · have c' : I 107 15 = 0 := by
      by_cases c2 : I 107 15 = 0
      · exact c2
      · exact absurd c (h.2.1 c2)
    refine mlV_hlWq hs hm (fun p j hp => o p j ?_ ?_) (hT.2.2.2 c')
    · unfold ml_hl at hp; omega
    · unfold ml_hl at hp; omega
theorem ml_TI_noWq {l s : Nat} {I J : sm_I} {L : sm_L} {R : sm_R} (hls : ml_ls l s) (hm : en_mem ml_tb3 (mlW c48) (xLay, I, L, R)) (h : ml_pS ml_no I J) (hT : ml_TI l s I) : ml_TI l s J := ml_TI_0Wq hls hm (ml_pS_no h) hT
def ml_okWq (l s : Nat) (R : sm_R) (I J : sm_I) (L : sm_L) : Prop := en_mem ml_tb3 (mlW c48) (xLay, J, L, R) ∧ ml_pS (ml_Dl l) I J ∧ ml_TI l s J ∧ ml_pg I J
theorem ml_csWq {I : sm_I} {L : sm_L} {R : sm_R} {s : Nat} (hs : s ≤ 1) (hm : en_mem ml_tb3 (mlW c48) (xLay, I, L, R)) : (0 ≤ (I 118 s).toInt ∧ (I 118 s).toInt ≤ 4) ∧ (0 ≤ (I 119 s).toInt ∧ (I 119 s).toInt ≤ 6) ∧ (0 ≤ (I 122 s).toInt ∧ (I 122 s).toInt ≤ 10) ∧ (0 ≤ (I 125 s).toInt ∧ (I 125 s).toInt ≤ 10) ∧ (0 ≤ (I 136 s).toInt ∧ (I 136 s).toInt ≤ 5) := ⟨ml_rowWq hm (p := 118) (n := 2) (q := (0, 4)) (fun _ => rfl) _ (by omega), ml_rowWq hm (p := 119) (n := 2) (q := (0, 6)) (fun _ => rfl) _ (by omega), ml_rowWq hm (p := 122) (n := 2) (q := (0, 10)) (fun _ => rfl) _ (by omega), ml_rowWq hm (p := 125) (n := 2) (q := (0, 10)) (fun _ => rfl) _ (by omega), ml_rowWq hm (p := 136) (n := 2) (q := (0, 5)) (fun _ => rfl) _ (by omega)⟩
theorem ml_nm49Wq {I : sm_I} {L : sm_L} {R : sm_R} {l s : Nat} (hls : ml_ls l s) (hT : ml_TI l s I) (hm : en_mem ml_tb3 (mlW c48) (xLay, I, L, R)) : (I 107 20).toInt ≤ 49 := by
  have hs : s ≤ 1 := by unfold ml_ls at hls; omega
  have b := ml_csWq hs hm
  have h := hT.2.2.1
  unfold ml_sum at h
  omega
theorem ml_doneWq {l s p : Nat} {I J3 K J : sm_I} {L L' : sm_L} {R : sm_R} {n : Int32} {mx : Int} (hls : ml_ls l s) (m3 : en_mem ml_tb3 (mlW c48) (xLay, J3, L, R)) (T3 : ml_TI l s J3) (p3 : ml_pS (ml_Dl l) I J3) (g3 : ml_pg I J3) (mK : en_mem ml_tb3 (mlW c48) (xLay, K, L', R)) (pK : ml_pS (ml_kn (J3 107 20).toNatClampNeg) J3 K) (nK : (K 107 20).toInt = (J3 107 20).toInt + 1) (hp : p = 118 ∨ p = 119 ∨ p = 122 ∨ p = 125 ∨ p = 136) (en : en_int ml_tb3 p s = some (0, mx)) (hn : n = K p s + 1) (h0 : 0 ≤ (J3 p s).toInt) (hb : (J3 p s).toInt + 1 ≤ mx) (hmx : mx ≤ 10) (e : J = sm_up K p s n) (hV : J 107 15 = 0 → mlV J s) : ml_okWq (c48 := c48) l s R I J L' := by
  have oK : ∀ a b, ¬ ml_kn (J3 107 20).toNatClampNeg a b → ¬ (a = 107 ∧ (b = 11 ∨ b = 13 ∨ b = 14 ∨ b = 15 ∨ b = 16)) → K a b = J3 a b := pK.1
  unfold ml_kn at oK
  unfold ml_ls at hls
  have sK : K p s = J3 p s := oK p s (by omega) (by omega)
  have nn : n.toInt = (J3 p s).toInt + 1 := by rw [hn, sK]; exact ml_in1 (by omega)
  have hD : 116 ≤ p ∧ p ≤ 136 ∧ ¬ ml_hl l p s := by
    refine ⟨by omega, by omega, fun c => ?_⟩
    unfold ml_hl at c
    omega
  have pJ : ml_pS (ml_Dl l) J3 J := by
    refine ml_pS_tr (J := K) (ml_pS_mo pK (fun a b c => ?_)) (by rw [e]; exact ml_pS_up (Or.inr ⟨hD.1, hD.2.1, hD.2.2, fun c => by unfold ml_hm at c; omega⟩) (by omega))
    unfold ml_kn at c
    unfold ml_Dl ml_hl ml_hm
    omega
  refine ⟨?_, ml_pS_tr p3 pJ, ⟨?_, ?_, ?_, hV⟩, ml_pg_tr g3 pJ⟩
  · rw [e]
    refine ml_wtWq (l := l) (by omega) (by rw [oK 107 18 (by omega) (by omega)]; exact T3.1) hD (by omega) mK (fun q hq => ?_)
    rw [en] at hq
    rw [← Option.some.inj hq]
    show 0 ≤ n.toInt ∧ n.toInt ≤ mx
    omega
  · rw [e, en_up_ne _ _ _ _ (by omega), oK 107 18 (by omega) (by omega)]; exact T3.1
  · rw [e, en_up_ne _ _ _ _ (by omega), oK 107 19 (by omega) (by omega)]; exact T3.2.1
  · have t := T3.2.2.1
    have f : ∀ a, (a = 118 ∨ a = 119 ∨ a = 122 ∨ a = 125 ∨ a = 136) → (J a s).toInt = (J3 a s).toInt + (if a = p then 1 else 0) := by
      intro a ha
      by_cases c : a = p
      · subst c; rw [e, en_up_eq, if_pos rfl]; exact nn
      · rw [e, en_up_ne _ _ _ _ (by omega), oK a s (by omega) (by omega), if_neg c]; omega
    unfold ml_sum at t ⊢
    rw [f 118 (by omega), f 119 (by omega), f 122 (by omega), f 125 (by omega), f 136 (by omega), e, en_up_ne _ _ _ _ (by omega), nK]
    rcases hp with c | c | c | c | c <;> subst c <;> simp <;> omega
theorem ml_V3Wq {l s p : Nat} {J3 K J : sm_I} {L : sm_L} {R : sm_R} {n : Int32} (hls : ml_ls l s) (m3 : en_mem ml_tb3 (mlW c48) (xLay, J3, L, R)) (T3 : ml_TI l s J3) (pK : ml_pS (ml_kn (J3 107 20).toNatClampNeg) J3 K) (hp : p = 118 ∨ p = 119 ∨ p = 136) (e : J = sm_up K p s n) (c : J 107 15 = 0) : mlV J s := by
  have oK : ∀ a b, ¬ ml_kn (J3 107 20).toNatClampNeg a b → ¬ (a = 107 ∧ (b = 11 ∨ b = 13 ∨ b = 14 ∨ b = 15 ∨ b = 16)) → K a b = J3 a b := pK.1
  unfold ml_kn at oK
  have hs : s ≤ 1 := by unfold ml_ls at hls; omega
  rw [e, en_up_ne _ _ _ _ (by omega)] at c
  have c' : J3 107 15 = 0 := by
    by_cases c2 : J3 107 15 = 0
    · exact c2
    · exact absurd c (pK.2.1 c2)
  refine mlV_hlWq hs m3 (fun a b hab => ?_) (T3.2.2.2 c')
  unfold ml_hl at hab
  rw [e, en_up_ne _ _ _ _ (by omega), oK a b (by omega) (by omega)]
theorem mx_tellNameWq {S : sm_C} {d : Nat} {Φ : sm_Z → Prop} {I : sm_I} {L : sm_L} {R : sm_R} {x1 : Int32} {l s : Nat} (hls : ml_ls l s) (hm : en_mem ml_tb3 (mlW c48) (xLay, I, L, R)) (hT : ml_TI l s I) (hx : (x1 = 0 ∧ (I 118 s).toInt ≤ 3) ∨ (x1 = 1 ∧ (I 119 s).toInt ≤ 5)) (h : ∀ (J : sm_I) (L' : sm_L), ml_okWq (c48 := c48) l s R I J L' → Φ (none, (xLay, J, L', kM R))) : sm_wp sm_P S (d + 4) 197 0 [.ref 107, .int x1] [] (xLay, I, L, kM R) (0, 0) Φ := by
  have hs : s ≤ 1 := by unfold ml_ls at hls; omega
  refine u_X12_tellName_0 (mx_goesOnWq hm (fun J1 m1 p1 g1 => ⟨J1, L, R, rfl, mx_namedWq m1 (fun r J2 r0 r1 m2 p2 => ⟨r, J2, L, R, rfl, mx_mustWq m2 (fun J3 m3 p3 => ⟨J3, L, R, rfl, fun a => ?_, fun _ => ?_⟩)⟩)⟩))
  all_goals
    have pI : ml_pS ml_no I J3 := ml_pS_tr p1 (ml_pS_tr p2 p3)
    have T3 : ml_TI l s J3 := ml_TI_noWq hls hm pI hT
    have g3 : ml_pg I J3 := ml_pg_tr g1 (ml_pS_tr p2 p3)
  · obtain ⟨sn, sv⟩ := ml_sn hls T3
    have b3 := ml_csWq hs m3
    have e118 : J3 118 s = I 118 s := ml_pS_g pI (by omega)
    have e119 : J3 119 s = I 119 s := ml_pS_g pI (by omega)
    have t0 : (0 : Int32).toInt = 0 := by decide
    have t1 : (1 : Int32).toInt = 1 := by decide
    rcases hx with ⟨ex, hx⟩ | ⟨ex, hx⟩
    · subst ex
      refine ⟨fun _ => ⟨sv, fun n24 e24 => ?_⟩, fun c => absurd rfl c⟩
      rw [sn] at e24
      refine mx_knowsWq r0 r1 (by decide) (by rw [e24]; omega) (fun _ => by rw [e24, e118]; omega) (fun c => absurd c (by decide)) (ml_nm49Wq hls T3 m3) m3 (fun K L' mK pK nK => ⟨K, L', R, rfl, fun _ => ?_, fun c => absurd rfl c⟩)
      have k19 : K 107 19 = J3 107 19 := pK.1 107 19 (by unfold ml_kn; omega) (by omega)
      rw [k19]
      refine ⟨sv, fun n31 e31 => ⟨sv, fun J e => h J L' ?_⟩⟩
      rw [sn] at e31 e
      exact ml_doneWq hls m3 T3 (ml_pS_no pI) g3 mK pK nK (Or.inl rfl) (mx := 4) (by unfold ml_ls at hls; rcases hls with ⟨-, c⟩ | ⟨-, c⟩ <;> subst c <;> rfl) e31 b3.1.1 (by rw [e118]; omega) (by omega) e (ml_V3Wq hls m3 T3 pK (Or.inl rfl) e)
    · subst ex
      refine ⟨fun c => absurd c (by decide), fun _ => ⟨sv, fun n24 e24 => ?_⟩⟩
      rw [sn] at e24
      refine mx_knowsWq r0 r1 (by decide) (by rw [e24]; omega) (fun c => absurd c (by decide)) (fun _ => by rw [e24, e119]; omega) (ml_nm49Wq hls T3 m3) m3 (fun K L' mK pK nK => ⟨K, L', R, rfl, fun c => absurd c (by decide), fun _ => ?_⟩)
      have k19 : K 107 19 = J3 107 19 := pK.1 107 19 (by unfold ml_kn; omega) (by omega)
      rw [k19]
      refine ⟨sv, fun n31 e31 => ⟨sv, fun J e => h J L' ?_⟩⟩
      rw [sn] at e31 e
      exact ml_doneWq hls m3 T3 (ml_pS_no pI) g3 mK pK nK (Or.inr (Or.inl rfl)) (mx := 6) (by unfold ml_ls at hls; rcases hls with ⟨-, c⟩ | ⟨-, c⟩ <;> subst c <;> rfl) e31 b3.2.1.1 (by rw [e119]; omega) (by omega) e (ml_V3Wq hls m3 T3 pK (Or.inr (Or.inl rfl)) e)
  · exact h J3 L ⟨m3, ml_pS_no pI, T3, g3⟩
end
end
section
/-! the reference's contracts with what was gone through (wip/pe/mkYm.py) -/
section
variable {c48 : Nat → Int64}
theorem ml_w0Wq {I : sm_I} {L : sm_L} {R : sm_R} {l p j n : Nat} {x : Int32} {q : Int × Int} (hl : l ≤ 1) (hv : (I 107 18).toInt = l) (hD : ml_D0 l p j) (hm : en_mem ml_tb3 (mlW c48) (xLay, I, L, R)) (e : en_int ml_tb3 p j = bif Nat.blt j n then some q else none) (hx : q.1 ≤ x.toInt ∧ x.toInt ≤ q.2) : en_mem ml_tb3 (mlW c48) (xLay, sm_up I p j x, L, R) ∧ ml_pS (ml_D0 l) I (sm_up I p j x) := by
  have hE := hD
  unfold ml_D0 at hE
  exact ⟨ml_wtWq (l := l) hl hv (by unfold ml_hl; omega) (by omega) hm (ml_rqWq e hx), ml_pS_up hD (by omega)⟩
theorem ml_wyWq {I J K : sm_I} {L : sm_L} {R : sm_R} {l : Nat} {a b v : Int32} (ha : a.toNatClampNeg < 36 * l ∨ 36 * l + 36 ≤ a.toNatClampNeg) (hb : b.toNatClampNeg < 36 * l ∨ 36 * l + 36 ≤ b.toNatClampNeg) (hl : l ≤ 1) (hv : (I 107 18).toInt = l) (hm : en_mem ml_tb3 (mlW c48) (xLay, I, L, R)) (e1 : J = sm_up I 121 a.toNatClampNeg v) (e2 : K = sm_up J 121 b.toNatClampNeg v) : en_mem ml_tb3 (mlW c48) (xLay, K, L, R) ∧ ml_pS (ml_D0 l) I K := by
  have h1 := ml_w0Wq (L := L) (R := R) (l := l) (p := 121) (j := a.toNatClampNeg) (x := v) (n := 72) (q := (-2147483648, 2147483647)) hl hv (by unfold ml_D0 ml_hm; omega) hm rfl en_crange
  rw [← e1] at h1
  have h2 := ml_w0Wq (L := L) (R := R) (l := l) (p := 121) (j := b.toNatClampNeg) (x := v) (n := 72) (q := (-2147483648, 2147483647)) hl (by rw [e1, en_up_ne _ _ _ _ (by omega)]; exact hv) (by unfold ml_D0 ml_hm; omega) h1.1 rfl en_crange
  rw [← e2] at h2
  exact ⟨h2.1, ml_pS_tr h1.2 h2.2⟩
theorem mx_tellWay4Wq {S : sm_C} {d : Nat} {Φ : sm_Z → Prop} {I I0 : sm_I} {L : sm_L} {R : sm_R} {x1 x3 : Int32} {l s : Nat} (hls : ml_ls l s) (hm : en_mem ml_tb3 (mlW c48) (xLay, I, L, R)) (hT : ml_TI l s I) (p0 : ml_pS ml_no I0 I) (g0 : ml_pg I0 I) (hw : (I 120 s).toInt ≤ 11) (b1 : -1 ≤ x1.toInt ∧ x1.toInt ≤ 5) (b3 : -1 ≤ x3.toInt ∧ x3.toInt ≤ 5) (h : ∀ (J : sm_I) (L' : sm_L), ml_okWq (c48 := c48) l s R I0 J L' → Φ (none, (xLay, J, L', kM R))) : sm_wp sm_P S (d + 4) 203 4 [.ref 107, .int x1, .int x3] [] (xLay, I, L, kM R) (0, 0) Φ := by
  obtain ⟨hl, hs⟩ := ml_l1 hls
  refine u_X12_tellWay_4 (mx_numberWq hm (fun r J1 m1 p1 => ⟨r, J1, L, R, rfl, mx_mustWq m1 (fun J3 m3 p3 => ⟨J3, L, R, rfl, fun a => ?_, fun _ => ?_⟩)⟩))
  all_goals
    have pI : ml_pS ml_no I J3 := ml_pS_tr p1 p3
    have T3 : ml_TI l s J3 := ml_TI_noWq hls hm pI hT
    have g3 : ml_pg I0 J3 := ml_pg_tr g0 pI
  · obtain ⟨sn, sv⟩ := ml_sn hls T3
    have e120 : J3 120 s = I 120 s := ml_pS_g pI (by omega)
    have b120 : 0 ≤ (J3 120 s).toInt ∧ (J3 120 s).toInt ≤ 12 := ml_rowWq m3 (p := 120) (n := 2) (q := (0, 12)) (fun _ => rfl) _ (by omega)
    refine ⟨sv, fun n9 e9 => ⟨sv, fun J10 e10 => ?_⟩⟩
    rw [sn] at e9 e10
    have s9 : n9.toInt = (J3 120 s).toInt + 1 := by rw [e9]; exact ml_in1 (by omega)
    have w10 := ml_w0Wq (L := L) (R := R) (l := l) (p := 120) (j := s) (x := n9) (n := 2) (q := (0, 12)) hl T3.1 (by unfold ml_D0 ml_hm; unfold ml_ls at hls; omega) m3 rfl (by show 0 ≤ _ ∧ _ ≤ (12 : Int); rw [e120] at *; omega)
    rw [← e10] at w10
    have fin : ∀ J : sm_I, en_mem ml_tb3 (mlW c48) (xLay, J, L, R) → ml_pS (ml_D0 l) J3 J → Φ (none, (xLay, J, L, kM R)) := fun J mJ pJ => h J L ⟨mJ, ml_pS_tr (ml_pS_no (ml_pS_tr p0 pI)) (ml_D0l hl pJ), ml_TI_0Wq hls m3 pJ T3, ml_pg_tr g3 pJ⟩
    have f10 := fin J10 w10.1 w10.2
    refine ⟨fun _ => f10, fun c1 => ⟨fun _ => f10, fun c3 => ⟨fun _ => f10, fun _ n11 e11 => ?_⟩⟩⟩
    have c1 := ml_m1 c1
    have c3 := ml_m1 c3
    have k18 : (J10 107 18).toInt = l := (ml_TI_0Wq hls m3 w10.2 T3).1
    have k19 : (J10 107 19).toInt = s := (ml_TI_0Wq hls m3 w10.2 T3).2.1
    have idx : ∀ (y z n : Int32) (J : sm_I), (J 107 19).toInt = s → 0 ≤ y.toInt → y.toInt ≤ 5 → 0 ≤ z.toInt → z.toInt ≤ 5 → n = ((((36 : Int32) * (J 107 19)) + ((6 : Int32) * y)) + z) → vp_in n 72 ∧ (n.toNatClampNeg < 36 * l ∨ 36 * l + 36 ≤ n.toNatClampNeg) := by
      intro y z n J hJ y0 y1 z0 z1 en
      have q1 : ((36 : Int32) * (J 107 19)).toInt = 36 * (s : Int) := ml_mu (by decide) hJ (by omega) (by omega)
      have q2 : ((6 : Int32) * y).toInt = 6 * y.toInt := ml_mu (by decide) rfl (by omega) (by omega)
      have q3 : (((36 : Int32) * (J 107 19)) + ((6 : Int32) * y)).toInt = 36 * (s : Int) + 6 * y.toInt := ml_ad q1 q2 (by omega) (by omega)
      have q4 : n.toInt = 36 * (s : Int) + 6 * y.toInt + z.toInt := by rw [en]; exact ml_ad q3 rfl (by omega) (by omega)
      have nn := kl_nat (i := n) (by omega)
      exact ⟨kl_in (by omega) (by omega), by unfold ml_ls at hls; omega⟩
    obtain ⟨v11, u11⟩ := idx x1 x3 n11 J10 k19 (by omega) b1.2 (by omega) b3.2 e11
    have two : ∀ J12 : sm_I, J12 = sm_up J10 121 n11.toNatClampNeg r → ∀ n13 : Int32, n13 = ((((36 : Int32) * (J12 107 19)) + ((6 : Int32) * x3)) + x1) → (vp_in n13 72) ∧ ∀ J14 : sm_I, J14 = (sm_up J12 121 n13.toNatClampNeg r) → Φ (none, (xLay, J14, L, (kM R))) := by
      intro J12 e12 n13 e13
      obtain ⟨v13, u13⟩ := idx x3 x1 n13 J12 (by rw [e12, en_up_ne _ _ _ _ (by omega)]; exact k19) (by omega) b3.2 (by omega) b1.2 e13
      refine ⟨v13, fun J14 e14 => ?_⟩
      have w := ml_wyWq u11 u13 hl k18 w10.1 e12 e14
      exact fin J14 w.1 (ml_pS_tr w10.2 w.2)
    exact ⟨v11, fun _ => ⟨v11, two⟩, fun _ => ⟨v11, fun _ => ⟨v11, two⟩, fun _ => f10⟩⟩
  · exact h J3 L ⟨m3, ml_pS_no (ml_pS_tr p0 pI), T3, g3⟩
theorem mx_tellWayWq {S : sm_C} {d : Nat} {Φ : sm_Z → Prop} {I : sm_I} {L : sm_L} {R : sm_R} {l s : Nat} (hls : ml_ls l s) (hm : en_mem ml_tb3 (mlW c48) (xLay, I, L, R)) (hT : ml_TI l s I) (hw : (I 120 s).toInt ≤ 11) (h : ∀ (J : sm_I) (L' : sm_L), ml_okWq (c48 := c48) l s R I J L' → Φ (none, (xLay, J, L', kM R))) : sm_wp sm_P S (d + 4) 203 0 [.ref 107] [] (xLay, I, L, kM R) (0, 0) Φ := by
  refine u_X12_tellWay_0 (mx_goesOnWq hm (fun J1 m1 p1 g1 => ⟨J1, L, R, rfl, mx_knownWq m1 (fun r8 J2 m2 p2 a1 a2 a3 a4 a5 => ⟨r8, J2, L, R, rfl, mx_knownWq m2 (fun r12 J3 m3 p3 c1 c2 c3 c4 c5 => ⟨r12, J3, L, R, rfl, ?_⟩)⟩)⟩))
  have bt : 0 ≤ (J2 107 11).toInt ∧ (J2 107 11).toInt ≤ 500 := ml_tWq m2
  have pI : ml_pS ml_no I J3 := ml_pS_tr p1 (ml_pS_tr p2 p3)
  have T3 : ml_TI l s J3 := ml_TI_noWq hls hm pI hT
  have g3 : ml_pg I J3 := ml_pg_tr g1 (ml_pS_tr p2 p3)
  have w3 : (J3 120 s).toInt ≤ 11 := by rw [ml_pS_g pI (by omega)]; exact hw
  have b8 : -1 ≤ r8.toInt ∧ r8.toInt ≤ 5 := ⟨a1, a4 (by decide)⟩
  have b12 : -1 ≤ r12.toInt ∧ r12.toInt ≤ 5 := ⟨c1, c4 (by decide)⟩
  have go : sm_wp sm_P S (d + 4) 203 4 [.ref 107, .int r8, .int r12] [] (xLay, J3, L, kM R) (0, 0) Φ := mx_tellWay4Wq hls m3 T3 pI g3 w3 b8 b12 h
  refine ⟨fun _ => ⟨fun _ => ⟨fun _ => go, fun _ => ?_⟩, fun _ => go⟩, fun _ => go⟩
  refine mx_wrongWq (by decide) (by decide) bt.1 (by omega) m3 (fun J4 m4 p4 _ => ⟨J4, L, R, rfl, ?_⟩)
  exact mx_tellWay4Wq hls m4 (ml_TI_noWq hls m3 p4 T3) (ml_pS_tr pI p4) (ml_pg_tr g3 p4) (by rw [ml_pS_g p4 (by omega)]; exact w3) b8 b12 h
theorem ml_timeWq {S : sm_C} {d : Nat} {Φ : sm_Z → Prop} {I J3 : sm_I} {L : sm_L} {R : sm_R} {l s : Nat} {r8 n9 y z : Int32} (hls : ml_ls l s) (r0 : 0 ≤ r8.toInt) (r1 : r8.toInt ≤ 500) (m3 : en_mem ml_tb3 (mlW c48) (xLay, J3, L, R)) (T3 : ml_TI l s J3) (p3 : ml_pS ml_no I J3) (g3 : ml_pg I J3) (ht : (J3 122 s).toInt ≤ 9) (e9 : n9.toInt = 10 * (s : Int) + (J3 122 s).toInt) (by0 : -1 ≤ y.toInt ∧ y.toInt ≤ 3) (bz : -1 ≤ z.toInt ∧ z.toInt ≤ 5) (hyz : J3 107 15 = 0 → y.toInt ≠ -1 → 0 ≤ z.toInt) (h : ∀ (J : sm_I) (L' : sm_L), ml_okWq (c48 := c48) l s R I J L' → Φ (none, (xLay, J, L', kM R))) : (vp_in n9 20) ∧ ∀ I18 : sm_I, I18 = (sm_up J3 123 n9.toNatClampNeg y) → (vp_in n9 20) ∧ ∀ I19 : sm_I, I19 = (sm_up I18 124 n9.toNatClampNeg z) → (vp_in (I19 107 19) 2) ∧ ∀ n20 : Int32, n20 = (I19 122 (I19 107 19).toNatClampNeg) → sm_wp sm_P S d 155 0 [.ref 107, .int r8, .int (2 : Int32), .int n20] [] (xLay, I19, L, (kM R)) (0, 0) (fun z => ∃ (I21 : sm_I) (L22 : sm_L) (R23 : sm_R), z = (none, (xLay, I21, L22, (kM R23))) ∧ (vp_in (I21 107 19) 2) ∧ ∀ n25 : Int32, n25 = ((I21 122 (I21 107 19).toNatClampNeg) + (1 : Int32)) → (vp_in (I21 107 19) 2) ∧ ∀ I26 : sm_I, I26 = (sm_up I21 122 (I21 107 19).toNatClampNeg n25) → Φ (none, (xLay, I26, L22, (kM R23)))) := by
  obtain ⟨hl, hs⟩ := ml_l1 hls
  have hls' := hls
  unfold ml_ls at hls'
  have b3 := ml_csWq hs m3
  have n9n := kl_nat (i := n9) (by omega)
  have v9 : vp_in n9 20 := kl_in (by omega) (by omega)
  have d123 : 116 ≤ 123 ∧ 123 ≤ 136 ∧ ¬ ml_hl l 123 n9.toNatClampNeg := ⟨by decide, by decide, by unfold ml_hl; omega⟩
  have d124 : 116 ≤ 124 ∧ 124 ≤ 136 ∧ ¬ ml_hl l 124 n9.toNatClampNeg := ⟨by decide, by decide, by unfold ml_hl; omega⟩
  refine ⟨v9, fun I18 e18 => ⟨v9, fun I19 e19 => ?_⟩⟩
  have m18 : en_mem ml_tb3 (mlW c48) (xLay, I18, L, R) := by
    rw [e18]
    exact ml_wtWq hl T3.1 d123 (by decide) m3 (ml_rqWq (n := 20) (q := (-1, 3)) rfl by0)
  have m19 : en_mem ml_tb3 (mlW c48) (xLay, I19, L, R) := by
    rw [e19]
    exact ml_wtWq hl (by rw [e18, en_up_ne _ _ _ _ (by omega)]; exact T3.1) d124 (by decide) m18 (ml_rqWq (n := 20) (q := (-1, 5)) rfl bz)
  have o19 : ∀ p j, ¬ ((p = 123 ∨ p = 124) ∧ j = n9.toNatClampNeg) → I19 p j = J3 p j := fun p j hp => by rw [e19, en_up_ne _ _ _ _ (by omega), e18, en_up_ne _ _ _ _ (by omega)]
  have p19 : ml_pS (ml_Dl l) J3 I19 := by
    have q1 : ml_pS (ml_Dl l) J3 I18 := by rw [e18]; exact ml_pS_up (Or.inr ⟨d123.1, d123.2.1, d123.2.2, fun c => by unfold ml_hm at c; omega⟩) (by omega)
    have q2 : ml_pS (ml_Dl l) I18 I19 := by rw [e19]; exact ml_pS_up (Or.inr ⟨d124.1, d124.2.1, d124.2.2, fun c => by unfold ml_hm at c; omega⟩) (by omega)
    exact ml_pS_tr q1 q2
  have V19 : J3 107 15 = 0 → mlV I19 s := fun c => by
    refine mlV_dom (o19 122 s (by omega)) (o19 125 s (by omega)) (fun i hi => ⟨o19 _ _ (by omega), o19 _ _ (by omega)⟩) (fun k hk => o19 _ _ (by omega)) (fun k c hk hc => o19 _ _ (by omega)) (fun k c i hk hc hi => o19 _ _ (by omega)) (T3.2.2.2 c)
  have T19 : ml_TI l s I19 := by
    refine ⟨by rw [o19 _ _ (by omega)]; exact T3.1, by rw [o19 _ _ (by omega)]; exact T3.2.1, ?_, fun c => V19 (by rw [o19 _ _ (by omega)] at c; exact c)⟩
    unfold ml_sum
    rw [o19 _ _ (by omega), o19 _ _ (by omega), o19 _ _ (by omega), o19 _ _ (by omega), o19 _ _ (by omega), o19 _ _ (by omega)]
    exact T3.2.2.1
  obtain ⟨sn, sv⟩ := ml_sn hls T19
  refine ⟨sv, fun n20 e20 => ?_⟩
  rw [sn, o19 _ _ (by omega)] at e20
  have t2 : (2 : Int32).toInt = 2 := by decide
  refine mx_knowsWq r0 r1 (by decide) (by rw [e20]; omega) (fun c => absurd c (by decide)) (fun c => absurd c (by decide)) (ml_nm49Wq hls T19 m19) m19 (fun K L' mK pK nK => ⟨K, L', R, rfl, ?_⟩)
  have oK : ∀ a b, ¬ ml_kn (I19 107 20).toNatClampNeg a b → ¬ (a = 107 ∧ (b = 11 ∨ b = 13 ∨ b = 14 ∨ b = 15 ∨ b = 16)) → K a b = I19 a b := pK.1
  unfold ml_kn at oK
  rw [oK 107 19 (by omega) (by omega)]
  refine ⟨sv, fun n25 e25 => ⟨sv, fun J e => h J L' ?_⟩⟩
  rw [sn] at e25 e
  refine ml_doneWq hls m19 T19 (ml_pS_tr (ml_pS_no p3) p19) (ml_pg_tr g3 p19) mK pK nK (Or.inr (Or.inr (Or.inl rfl))) (mx := 10) (by rcases hls' with ⟨-, c⟩ | ⟨-, c⟩ <;> subst c <;> rfl) e25 (by rw [o19 _ _ (by omega)]; omega) (by rw [o19 _ _ (by omega)]; omega) (by omega) e (fun c => ?_)
  have c0 : J3 107 15 = 0 := by
    rw [e, en_up_ne _ _ _ _ (by omega)] at c
    by_cases c2 : J3 107 15 = 0
    · exact c2
    · exact absurd c (pK.2.1 (by rw [o19 _ _ (by omega)]; exact c2))
  have W := T3.2.2.2 c0
  have oJ : ∀ p j, p = 123 ∨ p = 124 ∨ p = 125 ∨ p = 128 ∨ p = 129 ∨ p = 130 → J p j = I19 p j := fun p j hp => by rw [e, en_up_ne _ _ _ _ (by omega), oK p j (by omega) (by omega)]
  have nJ : (J 122 s).toInt = (J3 122 s).toInt + 1 := by
    rw [e, en_up_eq, e25, oK 122 s (by omega) (by omega), o19 122 s (by omega)]; exact ml_in1 (by omega)
  refine ⟨fun i hi hy => ?_, fun k q i hk hq hi => ?_⟩
  · rw [oJ 123 _ (by omega)] at hy
    rw [oJ 124 _ (by omega)]
    by_cases ci : 10 * s + i = n9.toNatClampNeg
    · have a1 : I19 124 (10 * s + i) = z := by rw [ci, e19, en_up_eq]
      have a2 : I19 123 (10 * s + i) = y := by rw [ci, e19, en_up_ne _ _ _ _ (by omega), e18, en_up_eq]
      rw [a2] at hy
      rw [a1]; exact hyz c0 hy
    · rw [o19 _ _ (by omega)] at hy
      rw [o19 _ _ (by omega)]
      exact W.1 i (by omega) hy
  · rw [oJ 125 _ (by omega), o19 _ _ (by omega)] at hk
    rw [oJ 128 _ (by omega), o19 _ _ (by omega)] at hq
    rw [oJ 129 _ (by omega), o19 _ _ (by omega)] at hi
    rw [oJ 130 _ (by omega), o19 _ _ (by omega)]
    exact W.2 k q i hk hq hi
theorem mx_tellTimeWq {S : sm_C} {d : Nat} {Φ : sm_Z → Prop} {I : sm_I} {L : sm_L} {R : sm_R} {l s : Nat} (hls : ml_ls l s) (hm : en_mem ml_tb3 (mlW c48) (xLay, I, L, R)) (hT : ml_TI l s I) (ht : (I 122 s).toInt ≤ 9) (h : ∀ (J : sm_I) (L' : sm_L), ml_okWq (c48 := c48) l s R I J L' → Φ (none, (xLay, J, L', kM R))) : sm_wp sm_P S (d + 4) 202 0 [.ref 107] [] (xLay, I, L, kM R) (0, 0) Φ := by
  obtain ⟨hl, hs⟩ := ml_l1 hls
  refine u_X12_tellTime_0 (mx_goesOnWq hm (fun J1 m1 p1 g1 => ⟨J1, L, R, rfl, mx_namedWq m1 (fun r8 J2 r0 r1 m2 p2 => ⟨r8, J2, L, R, rfl, ?_⟩)⟩))
  have pI2 : ml_pS ml_no I J2 := ml_pS_tr p1 p2
  have T2 : ml_TI l s J2 := ml_TI_noWq hls hm pI2 hT
  have g2 : ml_pg I J2 := ml_pg_tr g1 p2
  obtain ⟨sn, sv⟩ := ml_sn hls T2
  have b2 := ml_csWq hs m2
  refine ⟨sv, fun n9 e9 => ?_⟩
  rw [sn] at e9
  have q1 : ((10 : Int32) * (J2 107 19)).toInt = 10 * (s : Int) := ml_mu (by decide) T2.2.1 (by omega) (by omega)
  have q9 : n9.toInt = 10 * (s : Int) + (J2 122 s).toInt := by rw [e9]; exact ml_ad q1 rfl (by omega) (by omega)
  have t2 : (J2 122 s).toInt ≤ 9 := by rw [ml_pS_g pI2 (by omega)]; exact ht
  have tn : (-1 : Int32).toInt = -1 := by decide
  refine mx_isWq m2 (fun r13 _ _ => ⟨r13, J2, L, R, rfl, fun _ => ?_, fun _ => ?_⟩)
  · refine mx_mustWq m2 (fun J3 m3 p3 => ⟨J3, L, R, rfl, fun _ => ?_, fun _ => ?_⟩)
    · exact ml_timeWq hls r0 r1 m3 (ml_TI_noWq hls m2 p3 T2) (ml_pS_tr pI2 p3) (ml_pg_tr g2 p3) (by rw [ml_pS_g p3 (by omega)]; exact t2) (by rw [ml_pS_g p3 (by omega)]; exact q9) (by decide) (by decide) (fun _ c => absurd tn c) h
    · exact h J3 L ⟨m3, ml_pS_no (ml_pS_tr pI2 p3), ml_TI_noWq hls m2 p3 T2, ml_pg_tr g2 p3⟩
  · refine mx_goesOnWq m2 (fun J3 m3 p3 _ => ⟨J3, L, R, rfl, mx_knownWq m3 (fun r37 J4 m4 p4 a1 a2 a3 a4 a5 => ⟨r37, J4, L, R, rfl, mx_mustWq m4 (fun J5 m5 p5 => ⟨J5, L, R, rfl, mx_knownWq m5 (fun r45 J6 m6 p6 c1 c2 c3 c4 c5 => ⟨r45, J6, L, R, rfl, mx_mustWq m6 (fun J7 m7 p7 => ⟨J7, L, R, rfl, fun _ => ?_, fun _ => ?_⟩)⟩)⟩)⟩)⟩)
    all_goals have p27 : ml_pS ml_no J2 J7 := ml_pS_tr p3 (ml_pS_tr p4 (ml_pS_tr p5 (ml_pS_tr p6 p7)))
    · refine ml_timeWq hls r0 r1 m7 (ml_TI_noWq hls m2 p27 T2) (ml_pS_tr pI2 p27) (ml_pg_tr g2 p27) (by rw [ml_pS_g p27 (by omega)]; exact t2) (by rw [ml_pS_g p27 (by omega)]; exact q9) ⟨a1, a3 (by decide)⟩ ⟨c1, c4 (by decide)⟩ (fun c _ => ?_) h
      by_cases cz : r45.toInt = -1
      · exact absurd c (p7.2.1 (c5 cz))
      · omega
    · exact h J7 L ⟨m7, ml_pS_no (ml_pS_tr pI2 p27), ml_TI_noWq hls m2 p27 T2, ml_pg_tr g2 p27⟩
theorem mx_tellSpanWq {S : sm_C} {d : Nat} {Φ : sm_Z → Prop} {I : sm_I} {L : sm_L} {R : sm_R} {x1 : Int32} {l : Nat} (hl : l ≤ 1) (hv : (I 107 18).toInt = l) (h0 : 0 ≤ x1.toInt) (h1 : x1.toInt < 260) (hx : ¬ ml_hl l 130 x1.toNatClampNeg) (hm : en_mem ml_tb3 (mlW c48) (xLay, I, L, R)) (h : ∀ J : sm_I, en_mem ml_tb3 (mlW c48) (xLay, J, L, R) → ml_pS (ml_sp x1.toNatClampNeg) I J → (J 107 15 = 0 → 0 ≤ (J 130 x1.toNatClampNeg).toInt) → Φ (none, (xLay, J, L, kM R))) : sm_wp sm_P S (d + 4) 201 0 [.ref 107, .int x1] [] (xLay, I, L, kM R) (0, 0) Φ := by
  have v : vp_in x1 260 := kl_in h0 (by omega)
  have n1 := kl_nat h0
  have live : ∀ J : sm_I, ml_pS (ml_sp x1.toNatClampNeg) I J → (J 107 18).toInt = l := fun J pJ => by rw [pJ.1 107 18 (by unfold ml_sp; omega) (by omega)]; exact hv
  have B : ∀ (b : Int32) (J : sm_I), en_mem ml_tb3 (mlW c48) (xLay, J, L, R) → ml_pS (ml_sp x1.toNatClampNeg) I J → (J 107 15 = 0 → 0 ≤ (J 130 x1.toNatClampNeg).toInt) → sm_wp sm_P S (d + 3) 169 0 [.ref 107, .int b] [] (xLay, J, L, kM R) (0, 0) (fun z => ∃ (r : Int32) (I' : sm_I) (L' : sm_L) (R' : sm_R), z = (some (.int r), (xLay, I', L', kM R')) ∧ (vp_in x1 260) ∧ ∀ I2 : sm_I, I2 = (sm_up I' 133 x1.toNatClampNeg r) → Φ (none, (xLay, I2, L', kM R'))) := by
    intro b J mJ pJ qJ
    refine mx_numberWq mJ (fun r K mK pK => ⟨r, K, L, R, rfl, v, fun I2 e2 => ?_⟩)
    have pIK : ml_pS (ml_sp x1.toNatClampNeg) I K := ml_pS_tr pJ (ml_pS_no pK)
    refine h I2 ?_ ?_ (fun c => ?_)
    · rw [e2]
      exact ml_wtWq hl (live K pIK) ⟨by decide, by decide, by unfold ml_hl; omega⟩ (by decide) mK (ml_rqWq (n := 260) (q := (-2147483648, 2147483647)) rfl en_crange)
    · refine ml_pS_tr pIK ?_
      rw [e2]; exact ml_pS_up ⟨by decide, by decide, rfl⟩ (by omega)
    · rw [e2, en_up_ne _ _ _ _ (by omega)] at c
      rw [e2, en_up_ne _ _ _ _ (by omega), ml_pS_g pK (by omega)]
      exact qJ (ml_w15 pK c)
  have A : ∀ (b r8 : Int32) (J : sm_I), en_mem ml_tb3 (mlW c48) (xLay, J, L, R) → ml_pS (ml_sp x1.toNatClampNeg) I J → (J 107 15 = 0 → 0 ≤ (J 130 x1.toNatClampNeg).toInt) → sm_wp sm_P S (d + 3) 169 0 [.ref 107, .int b] [] (xLay, J, L, kM R) (0, 0) (fun z => ∃ (r : Int32) (I' : sm_I) (L' : sm_L) (R' : sm_R), z = (some (.int r), (xLay, I', L', kM R')) ∧ (vp_in x1 260) ∧ ∀ I2 : sm_I, I2 = (sm_up I' 132 x1.toNatClampNeg r) → ((r8 = 0 → sm_wp sm_P S (d + 3) 169 0 [.ref 107, .int (1 : Int32)] [] (xLay, I2, L', kM R') (0, 0) (fun z => ∃ (r : Int32) (I' : sm_I) (L' : sm_L) (R' : sm_R), z = (some (.int r), (xLay, I', L', kM R')) ∧ (vp_in x1 260) ∧ ∀ I2 : sm_I, I2 = (sm_up I' 133 x1.toNatClampNeg r) → Φ (none, (xLay, I2, L', kM R')))) ∧ (¬ r8 = 0 → sm_wp sm_P S (d + 3) 169 0 [.ref 107, .int (0 : Int32)] [] (xLay, I2, L', kM R') (0, 0) (fun z => ∃ (r : Int32) (I' : sm_I) (L' : sm_L) (R' : sm_R), z = (some (.int r), (xLay, I', L', kM R')) ∧ (vp_in x1 260) ∧ ∀ I2 : sm_I, I2 = (sm_up I' 133 x1.toNatClampNeg r) → Φ (none, (xLay, I2, L', kM R')))))) := by
    intro b r8 J mJ pJ qJ
    refine mx_numberWq mJ (fun r K mK pK => ⟨r, K, L, R, rfl, v, fun I2 e2 => ?_⟩)
    have pIK : ml_pS (ml_sp x1.toNatClampNeg) I K := ml_pS_tr pJ (ml_pS_no pK)
    have m2 : en_mem ml_tb3 (mlW c48) (xLay, I2, L, R) := by
      rw [e2]
      exact ml_wtWq hl (live K pIK) ⟨by decide, by decide, by unfold ml_hl; omega⟩ (by decide) mK (ml_rqWq (n := 260) (q := (-2147483648, 2147483647)) rfl en_crange)
    have p2 : ml_pS (ml_sp x1.toNatClampNeg) I I2 := by
      refine ml_pS_tr pIK ?_
      rw [e2]; exact ml_pS_up ⟨by decide, by decide, rfl⟩ (by omega)
    have q2 : I2 107 15 = 0 → 0 ≤ (I2 130 x1.toNatClampNeg).toInt := fun c => by
      rw [e2, en_up_ne _ _ _ _ (by omega)] at c
      rw [e2, en_up_ne _ _ _ _ (by omega), ml_pS_g pK (by omega)]
      exact qJ (ml_w15 pK c)
    exact ⟨fun _ => B _ I2 m2 p2 q2, fun _ => B _ I2 m2 p2 q2⟩
  refine u_X12_tellSpan_0 (mx_knownWq hm (fun r4 J1 m1 p1 a1 a2 a3 a4 a5 => ⟨r4, J1, L, R, rfl, mx_isWq m1 (fun r8 _ _ => ⟨r8, J1, L, R, rfl, ?_⟩)⟩))
  have W2 : ∀ (y : Int32) (J : sm_I), en_mem ml_tb3 (mlW c48) (xLay, J, L, R) → ml_pS ml_no J1 J → -1 ≤ y.toInt → y.toInt ≤ 9 → ∀ I17 : sm_I, I17 = (sm_up J 131 x1.toNatClampNeg y) → ∀ I18 : sm_I, I18 = (sm_up I17 130 x1.toNatClampNeg r4) → en_mem ml_tb3 (mlW c48) (xLay, I18, L, R) ∧ ml_pS (ml_sp x1.toNatClampNeg) I I18 ∧ (I18 107 15 = 0 → 0 ≤ (I18 130 x1.toNatClampNeg).toInt) := by
    intro y J mJ pJ y0 y1 I17 e17 I18 e18
    have pIJ : ml_pS (ml_sp x1.toNatClampNeg) I J := ml_pS_no (ml_pS_tr p1 pJ)
    have p17 : ml_pS (ml_sp x1.toNatClampNeg) I I17 := by
      refine ml_pS_tr pIJ ?_
      rw [e17]; exact ml_pS_up ⟨by decide, by decide, rfl⟩ (by omega)
    have m17 : en_mem ml_tb3 (mlW c48) (xLay, I17, L, R) := by
      rw [e17]
      exact ml_wtWq hl (live J pIJ) ⟨by decide, by decide, by unfold ml_hl; omega⟩ (by decide) mJ (ml_rqWq (n := 260) (q := (-1, 9)) rfl ⟨y0, y1⟩)
    refine ⟨?_, ?_, fun c => ?_⟩
    · rw [e18]
      exact ml_wtWq hl (live I17 p17) ⟨by decide, by decide, hx⟩ (by decide) m17 (ml_rqWq (n := 260) (q := (-1, 9)) rfl ⟨a1, a2⟩)
    · refine ml_pS_tr p17 ?_
      rw [e18]; exact ml_pS_up ⟨by decide, by decide, rfl⟩ (by omega)
    · rw [e18, en_up_ne _ _ _ _ (by omega), e17, en_up_ne _ _ _ _ (by omega)] at c
      rw [e18, en_up_eq]
      by_cases cr : r4.toInt = -1
      · exact absurd (ml_w15 pJ c) (a5 cr)
      · omega
  refine ⟨fun _ => mx_mustWq m1 (fun J2 m2 p2 => ⟨J2, L, R, rfl, fun _ => mx_knownWq m2 (fun r16 J3 m3 p3 c1 c2 c3 c4 c5 => ⟨r16, J3, L, R, rfl, v, fun I17 e17 => ⟨v, fun I18 e18 => ?_⟩⟩), fun _ => ⟨v, fun I17 e17 => ⟨v, fun I18 e18 => ?_⟩⟩⟩), fun _ => mx_goesOnWq m1 (fun J2 m2 p2 _ => ⟨J2, L, R, rfl, v, fun I17 e17 => ⟨v, fun I18 e18 => ?_⟩⟩)⟩
  · obtain ⟨q1, q2, q3⟩ := W2 r16 J3 m3 (ml_pS_tr p2 p3) c1 c2 I17 e17 I18 e18
    exact ⟨fun _ => A _ _ I18 q1 q2 q3, fun _ => A _ _ I18 q1 q2 q3⟩
  · obtain ⟨q1, q2, q3⟩ := W2 0 J2 m2 p2 (by decide) (by decide) I17 e17 I18 e18
    exact ⟨fun _ => A _ _ I18 q1 q2 q3, fun _ => A _ _ I18 q1 q2 q3⟩
  · obtain ⟨q1, q2, q3⟩ := W2 (-1) J2 m2 p2 (by decide) (by decide) I17 e17 I18 e18
    exact ⟨fun _ => A _ _ I18 q1 q2 q3, fun _ => A _ _ I18 q1 q2 q3⟩
theorem mx_tellAll1Wq {S : sm_C} {d : Nat} {Φ : sm_Z → Prop} {I0 : sm_I} {L : sm_L} {R : sm_R} {x1 : Int32} {l s : Nat} (hls : ml_ls l s) (hv : (I0 107 18).toInt = l) (h0 : 40 * (s : Int) ≤ x1.toInt) (h1 : x1.toInt < 40 * (s : Int) + 40) (h : ∀ J : sm_I, en_mem ml_tb3 (mlW c48) (xLay, J, L, R) → ml_pS (ml_al x1.toNatClampNeg) I0 J → ml_ai J x1.toNatClampNeg → Φ (none, (xLay, J, L, kM R))) : ∀ (m : Nat) (I : sm_I) (x2 : Int32), en_mem ml_tb3 (mlW c48) (xLay, I, L, R) → ml_pS (ml_al x1.toNatClampNeg) I0 I → ml_ai I x1.toNatClampNeg → (¬ x2 = 0 → I 107 13 = 0 → (I 129 x1.toNatClampNeg).toInt ≤ 2) → 3 - (I 129 x1.toNatClampNeg).toInt < m → sm_wp sm_P S (d + 5) 196 1 [.ref 107, .int x1, .int x2] [] (xLay, I, L, kM R) (0, 0) Φ := by
  obtain ⟨hl, hs⟩ := ml_l1 hls
  have hls' := hls
  unfold ml_ls at hls'
  have n1 := kl_nat (i := x1) (by omega)
  have v : vp_in x1 80 := kl_in (by omega) (by omega)
  intro m
  induction m with
  | zero =>
    intro I x2 hm hp hq hc hM
    have b : 0 ≤ (I 129 x1.toNatClampNeg).toInt ∧ (I 129 x1.toNatClampNeg).toInt ≤ 3 := ml_rowWq hm (p := 129) (n := 80) (q := (0, 3)) (fun _ => rfl) _ (by omega)
    omega
  | succ m ih =>
    intro I x2 hm hp hq hc hM
    have b : 0 ≤ (I 129 x1.toNatClampNeg).toInt ∧ (I 129 x1.toNatClampNeg).toInt ≤ 3 := ml_rowWq hm (p := 129) (n := 80) (q := (0, 3)) (fun _ => rfl) _ (by omega)
    refine u_X12_tellAll_1 ⟨fun _ => h I hm hp hq, fun c2 => ⟨fun c13 => ⟨v, fun n1' e1 => ?_⟩, fun _ => h I hm hp hq⟩⟩
    have b2 := hc c2 c13
    have q1 : ((3 : Int32) * x1).toInt = 3 * x1.toInt := ml_mu (by decide) rfl (by omega) (by omega)
    have q2 : n1'.toInt = 3 * x1.toInt + (I 129 x1.toNatClampNeg).toInt := by rw [e1]; exact ml_ad q1 rfl (by omega) (by omega)
    have n2 := kl_nat (i := n1') (by omega)
    have v18 : (I 107 18).toInt = l := by rw [hp.1 107 18 (by unfold ml_al; omega) (by omega)]; exact hv
    refine mx_tellSpanWq hl v18 (by omega) (by omega) (by unfold ml_hl; omega) hm (fun J2 m2 p2 q2' => ⟨J2, L, R, rfl, fun _ => ⟨v, fun n6 e6 => ⟨v, fun J7 e7 => ?_⟩⟩, fun _ => ?_⟩)
    all_goals
      have pJ2 : ml_pS (ml_al x1.toNatClampNeg) I0 J2 := ml_pS_tr hp (ml_pS_mo p2 (fun p j c => by unfold ml_sp at c; unfold ml_al; omega))
      have o2 : ∀ p j, ¬ ml_sp n1'.toNatClampNeg p j → ¬ (p = 107 ∧ (j = 11 ∨ j = 13 ∨ j = 14 ∨ j = 15 ∨ j = 16)) → J2 p j = I p j := p2.1
      unfold ml_sp at o2
      have s129 : J2 129 x1.toNatClampNeg = I 129 x1.toNatClampNeg := o2 _ _ (by omega) (by omega)
    · rw [s129] at e6
      have s6 : n6.toInt = (I 129 x1.toNatClampNeg).toInt + 1 := by rw [e6]; exact ml_in1 (by omega)
      have m7 : en_mem ml_tb3 (mlW c48) (xLay, J7, L, R) := by
        rw [e7]
        exact ml_wtWq hl (by rw [o2 107 18 (by omega) (by omega)]; exact v18) ⟨by decide, by decide, by unfold ml_hl; omega⟩ (by decide) m2 (ml_rqWq (n := 80) (q := (0, 3)) rfl (by show 0 ≤ _ ∧ _ ≤ (3 : Int); omega))
      have p7 : ml_pS (ml_al x1.toNatClampNeg) I0 J7 := by
        refine ml_pS_tr pJ2 ?_
        rw [e7]; exact ml_pS_up (Or.inl ⟨rfl, rfl⟩) (by omega)
      have c7 : (J7 129 x1.toNatClampNeg).toInt = (I 129 x1.toNatClampNeg).toInt + 1 := by rw [e7, en_up_eq]; exact s6
      have a7 : ml_ai J7 x1.toNatClampNeg := by
        intro c i hi
        rw [e7, en_up_ne _ _ _ _ (by omega)] at c
        rw [c7] at hi
        rw [e7, en_up_ne _ _ _ _ (by omega)]
        by_cases ci : 3 * x1.toNatClampNeg + i = n1'.toNatClampNeg
        · rw [ci]; exact q2' c
        · rw [o2 _ _ (by omega) (by omega)]
          exact hq (ml_w15 p2 c) i (by omega)
      have nx : ∀ (J : sm_I) (r : Int32), en_mem ml_tb3 (mlW c48) (xLay, J, L, R) → ml_pS ml_no J7 J → (¬ r = 0 → J 107 13 = 0 → (J7 129 x1.toNatClampNeg).toInt ≤ 2) → sm_wp sm_P S (d + 5) 196 1 [.ref 107, .int x1, .int r] [] (xLay, J, L, kM R) (0, 0) Φ := by
        intro J r mJ pJ hr
        have e129 : J 129 x1.toNatClampNeg = J7 129 x1.toNatClampNeg := ml_pS_g pJ (by omega)
        exact ih J r mJ (ml_pS_tr p7 (ml_pS_no pJ)) (ml_ai_no pJ a7) (by rw [e129]; exact hr) (by rw [e129]; omega)
      refine mx_isWq m7 (fun r _ _ => ⟨r, J7, L, R, rfl, fun c => ⟨fun _ => nx J7 r m7 ml_pS_rf (fun c' => absurd c c'), fun c' => absurd c c'⟩, fun cr => ⟨v, fun c3 => ?_, fun c3 => ⟨fun c => absurd c cr, fun _ => ?_⟩⟩⟩)
      · refine mx_failWq (by decide) (by decide) m7 (fun J8 m8 p8 f8 => ⟨J8, L, R, rfl, fun c => absurd c cr, fun _ => mx_goesOnWq m8 (fun J9 m9 p9 _ => ⟨J9, L, R, rfl, nx J9 r m9 (ml_pS_tr p8 p9) (fun _ c => absurd c (p9.2.2.1 f8))⟩)⟩)
      · have c3' : (J7 129 x1.toNatClampNeg).toInt ≠ 3 := fun c => c3 (en_ofI (by rw [c]; decide))
        exact mx_goesOnWq m7 (fun J9 m9 p9 _ => ⟨J9, L, R, rfl, nx J9 r m9 p9 (fun _ _ => by omega)⟩)
    · refine h J2 m2 pJ2 (fun c i hi => ?_)
      rw [s129] at hi
      rw [o2 _ _ (by omega) (by omega)]
      exact hq (ml_w15 p2 c) i hi
theorem mx_tellAllWq {S : sm_C} {d : Nat} {Φ : sm_Z → Prop} {I : sm_I} {L : sm_L} {R : sm_R} {x1 : Int32} {l s : Nat} (hls : ml_ls l s) (hv : (I 107 18).toInt = l) (h0 : 40 * (s : Int) ≤ x1.toInt) (h1 : x1.toInt < 40 * (s : Int) + 40) (hm : en_mem ml_tb3 (mlW c48) (xLay, I, L, R)) (h : ∀ J : sm_I, en_mem ml_tb3 (mlW c48) (xLay, J, L, R) → ml_pS (ml_al x1.toNatClampNeg) I J → ml_ai J x1.toNatClampNeg → Φ (none, (xLay, J, L, kM R))) : sm_wp sm_P S (d + 5) 196 0 [.ref 107, .int x1] [] (xLay, I, L, kM R) (0, 0) Φ := by
  obtain ⟨hl, hs⟩ := ml_l1 hls
  have hls' := hls
  unfold ml_ls at hls'
  have n1 := kl_nat (i := x1) (by omega)
  refine u_X12_tellAll_0 ⟨kl_in (by omega) (by omega), fun I1 e1 => ?_⟩
  have z : (I1 129 x1.toNatClampNeg).toInt = 0 := by rw [e1, en_up_eq]; decide
  refine mx_tellAll1Wq hls hv h0 h1 h 4 I1 1 ?_ ?_ (fun _ i hi => by rw [z] at hi; omega) (fun _ _ => by rw [z]; decide) (by rw [z]; decide)
  · rw [e1]
    exact ml_wtWq hl hv ⟨by decide, by decide, by unfold ml_hl; omega⟩ (by decide) hm (ml_rqWq (n := 80) (q := (0, 3)) rfl (by decide))
  · rw [e1]; exact ml_pS_up (Or.inl ⟨rfl, rfl⟩) (by omega)
end
end
