/-! the reference's contracts with what was gone through (wip/pe/mkYm.py) -/
section
variable {c48 : Nat → Int64}
theorem mx_meetsAll2Y {S : sm_C} {d : Nat} {Φ : sm_Z → Prop} {w0 : sm_W} (hd : 4 ≤ d) (hΦ : ∀ (I : sm_I) (L : sm_L) (R : sm_R), en_mem ml_tb2 (mlY c48) (xLay, I, L, R) → en_fr ml_SW w0 (xLay, I, L, R) → Φ (none, (xLay, I, L, kM R))) : ∀ (m : Nat) (I : sm_I) (L : sm_L) (R : sm_R) (x3 : Int32), en_mem ml_tb2 (mlY c48) (xLay, I, L, R) → en_fr ml_SW w0 (xLay, I, L, R) → -1 ≤ x3.toInt → (x3.toInt < (I 107 59).toInt ∨ (I 107 59).toInt = 0) → (I 107 63).toInt ≤ 1000 → ml_nc I x3.toInt → 2 * (1000 - (I 107 63).toInt) + x3.toInt + 1 < m → sm_wp sm_P S (d + 1) 162 2 [.ref 107, .int x3] [] (xLay, I, L, kM R) (0, 0) Φ := by
  intro m
  induction m with
  | zero =>
    intro I L R x3 hm hf k0 k1 t1 hn hM
    omega
  | succ m ih =>
    intro I L R x3 hm hf k0 k1 t1 hn hM
    have bi : 0 ≤ (I 107 59).toInt ∧ (I 107 59).toInt ≤ 70 := hm.2.1 107 59 (0, 70) (by decide +kernel)
    have bt : 0 ≤ (I 107 63).toInt ∧ (I 107 63).toInt ≤ 1001 := hm.2.1 107 63 (0, 1001) (by decide +kernel)
    refine u_X12_meetsAll_2 ⟨fun a => hΦ I L R hm hf, fun a => ⟨fun _ => hΦ I L R hm hf, fun a0 => ?_⟩⟩
    have a0 := kl_nle a0
    rw [kl_0] at a0
    have k1 : x3.toInt < (I 107 59).toInt := by omega
    have k2 := kl_nlt0 a
    have nk := kl_nat k2
    have v : vp_in x3 70 := kl_in k2 (by omega)
    have bo : 0 ≤ (I 148 x3.toNatClampNeg).toInt ∧ (I 148 x3.toNatClampNeg).toInt ≤ 69 := ml_rowY hm (p := 148) (n := 70) (q := (0, 69)) (fun _ => rfl) _ (by omega)
    have gap : (I 148 x3.toNatClampNeg).toInt ≤ 54 ∨ 60 ≤ (I 148 x3.toNatClampNeg).toInt := hm.2.2.2.2.2.1 _ (by omega)
    have bn : 0 ≤ (I 150 x3.toNatClampNeg).toInt ∧ (I 150 x3.toNatClampNeg).toInt ≤ 4 := ml_rowY hm (p := 150) (n := 70) (q := (0, 4)) (fun _ => rfl) _ (by omega)
    have hk := hn x3.toNatClampNeg (by omega)
    obtain ⟨ch, hch⟩ : ∃ ch, ch = ml_ch I (I 148 x3.toNatClampNeg) := ⟨_, rfl⟩
    rw [← hch] at hk
    refine ⟨v, v, mx_choicesY hm bo.1 bo.2 gap (fun c0 c4 => ⟨_, I, L, R, rfl, fun e => ?_, fun e => ⟨v, v, fun n4 e4 => ⟨v, fun I5 e5 I6 e6 => ?_⟩⟩⟩)⟩
    · rw [← hch] at c0 c4 e
      obtain ⟨y, hy, sd⟩ : ∃ y, y = x3 + (-1 : Int32) ∧ y.toInt = x3.toInt - 1 := ⟨_, rfl, ml_de1 (by omega)⟩
      rw [← hy]
      exact ih I L R y hm hf (by omega) (by omega) t1 (fun j hj => hn j (by omega)) (by omega)
    rw [← hch] at c0 c4 e
    have sk := ml_in1 (x := x3) (by omega)
    have lt : (I 150 x3.toNatClampNeg).toInt < ch.toInt := by
      have : (I 150 x3.toNatClampNeg).toInt ≠ ch.toInt := fun q => e (en_ofI q)
      omega
    obtain ⟨m6, f6, g6, o6, q6⟩ := ml_tryY (W := ml_SW) (fun _ => rfl) (by decide +kernel) hm hf hn k2 (by omega) t1 (by rw [← hch]; exact lt) (by rw [← hch]; exact c4) e4 e5 e6
    have g63 : (I 107 63 + 1).toInt = (I 107 63).toInt + 1 := ml_in1 (by omega)
    refine ⟨fun g => ?_, fun g I31 e31 => ?_⟩
    · have g := kl_le.mp g
      rw [g6, (by decide : (1000 : Int32).toInt = 1000)] at g
      have nx : ∀ (J : sm_I) (Lj : sm_L) (Rj : sm_R) (y : Int32), en_mem ml_tb2 (mlY c48) (xLay, J, Lj, Rj) → en_fr ml_SW w0 (xLay, J, Lj, Rj) → (∀ p j, p ≠ 143 → p ≠ 150 → ¬ (p = 107 ∧ (j = 63 ∨ j = 52 ∨ 90 ≤ j)) → J p j = I p j) → J 107 63 = I6 107 63 → -1 ≤ y.toInt → y.toInt < (I 107 59).toInt → y.toInt ≤ x3.toInt + 1 → (∀ j : Nat, (j : Int) ≤ y.toInt → (J 150 j).toInt ≤ (ml_ch I (I 148 j)).toInt) → sm_wp sm_P S (d + 1) 162 2 [.ref 107, .int y] [] (xLay, J, Lj, (kM Rj)) (0, 0) Φ := by
        intro J Lj Rj y hmJ hfJ oJ tJ y0 y1 y2 hy
        have itJ : J 107 59 = I 107 59 := oJ 107 59 (by decide) (by decide) (by omega)
        refine ih J Lj Rj y hmJ hfJ y0 (Or.inl (by rw [itJ]; exact y1)) (by rw [tJ, g6]; omega) (ml_nc_cg (I := I) (fun j => oJ _ _ (by decide) (by decide) (by omega)) (fun j => oJ _ _ (by decide) (by decide) (by omega)) (fun j => oJ _ _ (by decide) (by decide) (by omega)) (oJ _ _ (by decide) (by decide) (by omega)) (fun j => oJ _ _ (by decide) (by decide) (by omega)) hy) (by rw [tJ, g6]; omega)
      refine ml_cvY (c := mlc_8) mly_8 (Nat.zero_le _) ⟨⟨rfl, rfl⟩, ⟨rfl, k2, (by omega : x3.toInt ≤ 69)⟩, ⟨rfl, (by omega : 1 ≤ (x3 + 1).toInt), (by omega : (x3 + 1).toInt ≤ 70)⟩, trivial⟩ m6 ml_pf0 rfl (fun I7 L7 R7 m7 f7 I10 e10 => ?_)
      obtain ⟨m10, f10, o10⟩ := ml_copY ml_t143 (by decide +kernel) m7 f6 f7 (by omega : 0 ≤ (x3 + 1).toInt) (by omega) e10
      have i10 : I10 148 x3.toNatClampNeg = I 148 x3.toNatClampNeg := by rw [o10 _ _ (by decide) (by omega), o6 _ _ (by decide) (by omega)]
      refine ⟨v, ?_⟩
      rw [i10]
      refine ml_choosesY hd m10 bo.1 bo.2 gap bn.1 (by omega) (fun r I11 L11 R11 r0 r1 m11 f11 => ?_)
      have f11' : en_fr ml_SW w0 (xLay, I11, L11, R11) := ml_frt f10 f11 ml_t143
      have o11 : ∀ p j, p ≠ 143 → I11 p j = I10 p j := fun p j h1 => ml_g f11 (ml_143 h1)
      have oI : ∀ p j, p ≠ 143 → p ≠ 150 → ¬ (p = 107 ∧ (j = 63 ∨ j = 52 ∨ 90 ≤ j)) → I11 p j = I p j := fun p j h1 h2 h6 => by rw [o11 _ _ h1, o10 _ _ h1 (by omega), o6 _ _ h2 (by omega)]
      have t11 : I11 107 63 = I6 107 63 := by rw [o11 _ _ (by decide), o10 _ _ (by decide) (by omega)]
      have c11 : ∀ j, I11 150 j = I6 150 j := fun j => by rw [o11 _ _ (by decide), o10 _ _ (by decide) (by omega)]
      have b52 : 0 ≤ (I11 107 52).toInt ∧ (I11 107 52).toInt ≤ 70 := m11.2.1 107 52 (0, 70) (by decide +kernel)
      have i59 : I11 107 59 = I 107 59 := oI _ _ (by decide) (by decide) (by omega)
      refine ⟨fun _ => nx I11 L11 R11 x3 m11 f11' oI t11 (by omega) k1 (by omega) (fun j hj => by rw [c11]; exact q6 j hj), fun _ => ⟨fun _ => ?_, fun c => ?_⟩⟩
      · refine ml_cvY (c := mlc_12) mly_12 (Nat.zero_le _) ⟨⟨rfl, rfl⟩, ⟨rfl, b52.1, b52.2⟩, trivial⟩ m11 ml_pf0 rfl (fun I18 L18 R18 m18 f18 => ?_)
        have o18 : ∀ p j, ¬ (p = 107 ∧ 90 ≤ j) → I18 p j = I11 p j := fun p j h => ml_g f18 (ml_90 h)
        exact nx I18 L18 R18 x3 m18 (ml_frt f11' f18 (by decide +kernel)) (fun p j h1 h2 h6 => by rw [o18 _ _ (by omega), oI _ _ h1 h2 h6]) (by rw [o18 _ _ (by omega), t11]) (by omega) k1 (by omega) (fun j hj => by rw [o18 _ _ (by omega), c11]; exact q6 j hj)
      · have c' : x3.toInt + 1 ≠ (I 107 59).toInt := fun q => c (by rw [i59]; exact en_ofI (by rw [sk]; exact q))
        refine ⟨kl_in (by omega) (by omega), fun I17 e17 => ?_⟩
        have nk1 := kl_nat (i := x3 + 1) (by omega)
        have o17 : ∀ p j, p ≠ 150 → I17 p j = I11 p j := fun p j h => by rw [e17, en_up_ne _ _ _ _ (fun c => h c.1)]
        have m17 : en_mem ml_tb2 (mlY c48) (xLay, I17, L11, R11) := by
          rw [e17]
          exact ml_we2Y m11 rfl (n := 70) (q := (0, 4)) rfl (by decide)
        refine nx I17 L11 R11 _ m17 (by rw [e17]; exact ml_fr f11' rfl) (fun p j h1 h2 h6 => by rw [o17 _ _ h2, oI _ _ h1 h2 h6]) (by rw [o17 _ _ (by decide), t11]) (by omega) (by omega) (by omega) (fun j hj => ?_)
        rw [e17]
        by_cases c : j = (x3 + 1).toNatClampNeg
        · have bo' : 0 ≤ (I 148 j).toInt ∧ (I 148 j).toInt ≤ 69 := ml_rowY hm (p := 148) (n := 70) (q := (0, 69)) (fun _ => rfl) _ (by omega)
          rw [c, en_up_eq, kl_0, ← c]
          exact ml_ch0Y hm bo'.1 bo'.2 (hm.2.2.2.2.2.1 _ (by omega))
        · rw [en_up_ne _ _ _ _ (fun q => c q.2), c11]; exact q6 j (by omega)
    · have m31 : en_mem ml_tb2 (mlY c48) (xLay, I31, L, R) := by
        rw [e31]
        exact ml_wfY m6 (by decide +kernel) (q := (0, 1)) (by decide +kernel) (by decide)
      exact hΦ I31 L R m31 (by rw [e31]; exact ml_fr f6 (by decide +kernel))
theorem mx_meetsAllY {S : sm_C} {d : Nat} {Φ : sm_Z → Prop} {w0 : sm_W} (hd : 4 ≤ d) (hΦ : ∀ (I : sm_I) (L : sm_L) (R : sm_R), en_mem ml_tb2 (mlY c48) (xLay, I, L, R) → en_fr ml_SW w0 (xLay, I, L, R) → Φ (none, (xLay, I, L, kM R))) {I : sm_I} {L : sm_L} {R : sm_R} (hm : en_mem ml_tb2 (mlY c48) (xLay, I, L, R)) (hf : en_fr ml_SW w0 (xLay, I, L, R)) (ht : I 107 63 = 0) : sm_wp sm_P S (d + 1) 162 0 [.ref 107] [] (xLay, I, L, kM R) (0, 0) Φ := by
  refine u_X12_meetsAll_0 ⟨kl_in (by decide) (by decide), fun I1 e1 => ?_⟩
  have m1 : en_mem ml_tb2 (mlY c48) (xLay, I1, L, R) := by
    rw [e1]
    exact ml_we2Y hm rfl (n := 70) (q := (0, 4)) rfl (by decide)
  have f1 : en_fr ml_SW w0 (xLay, I1, L, R) := by rw [e1]; exact ml_fr hf rfl
  have o1 : ∀ p j, p ≠ 150 → I1 p j = I p j := fun p j h => by rw [e1, en_up_ne _ _ _ _ (fun c => h c.1)]
  have z1 : I1 150 0 = 0 := by rw [e1]; exact en_up_eq _ _ _ _
  have go : ∀ (J : sm_I) (Lj : sm_L) (Rj : sm_R), en_mem ml_tb2 (mlY c48) (xLay, J, Lj, Rj) → en_fr ml_SW w0 (xLay, J, Lj, Rj) → J 107 63 = 0 → J 150 0 = 0 → sm_wp sm_P S (d + 1) 162 2 [.ref 107, .int (0 : Int32)] [] (xLay, J, Lj, kM Rj) (0, 0) Φ := by
    intro J Lj Rj mJ fJ tJ zJ
    have bi : 0 ≤ (J 107 59).toInt ∧ (J 107 59).toInt ≤ 70 := mJ.2.1 107 59 (0, 70) (by decide +kernel)
    refine mx_meetsAll2Y hd hΦ 2002 J Lj Rj 0 mJ fJ (by decide) (by rw [kl_0]; omega) (by rw [tJ]; decide) (fun j hj => ?_) (by rw [tJ, kl_0]; omega)
    have hj0 : j = 0 := by rw [kl_0] at hj; omega
    have bo : 0 ≤ (J 148 j).toInt ∧ (J 148 j).toInt ≤ 69 := ml_rowY mJ (p := 148) (n := 70) (q := (0, 69)) (fun _ => rfl) _ (by omega)
    rw [show J 150 j = 0 by rw [hj0]; exact zJ, kl_0]
    exact ml_ch0Y mJ bo.1 bo.2 (mJ.2.2.2.2.2.1 _ (by omega))
  refine ⟨fun _ => ?_, fun _ => go I1 L R m1 f1 (by rw [o1 _ _ (by decide), ht]) z1⟩
  refine ml_cvY (c := mlc_12) mly_12 (Nat.zero_le _) ⟨⟨rfl, rfl⟩, ⟨rfl, by decide, by decide⟩, trivial⟩ m1 ml_pf0 rfl (fun I2 L2 R2 m2 f2 => ?_)
  have o2 : ∀ p j, ¬ (p = 107 ∧ 90 ≤ j) → I2 p j = I1 p j := fun p j h => ml_g f2 (ml_90 h)
  exact go I2 L2 R2 m2 (ml_frt f1 f2 (by decide +kernel)) (by rw [o2 _ _ (by omega), o1 _ _ (by decide), ht]) (by rw [o2 _ _ (by omega), z1])
theorem mx_isPersonY {S : sm_C} {d : Nat} {Φ : sm_Z → Prop} {I : sm_I} {L : sm_L} {R : sm_R} {x : Int32} (hm : en_mem ml_tb2 (mlY c48) (xLay, I, L, R)) (h : ∀ r : Int32, (r = 0 ∨ (0 ≤ x.toInt ∧ x.toInt ≤ 3)) → Φ (some (.int r), (xLay, I, L, kM R))) : sm_wp sm_P S (d + 1) 148 0 [.ref 107, .int x] [] (xLay, I, L, kM R) (0, 0) Φ := by
  obtain ⟨l0, l1, ln, lc⟩ := ml_liveY hm
  have l0 : 0 ≤ (I 107 18).toInt := l0
  have l1 : (I 107 18).toInt ≤ 1 := l1
  have ln : ((I 107 18).toNatClampNeg : Int) = (I 107 18).toInt := ln
  have b : 0 ≤ (I 118 (I 107 18).toNatClampNeg).toInt ∧ (I 118 (I 107 18).toNatClampNeg).toInt ≤ 4 := ml_rowY hm (p := 118) (n := 2) (q := (0, 4)) (fun _ => rfl) _ (by omega)
  refine u_X12_isPerson_0 ⟨kl_in l0 (by omega), fun n1 e1 => mx_in (fun r hr h2 => ⟨r, I, L, R, rfl, hr, h r ?_⟩)⟩
  rcases h2 with h2 | h2
  · exact Or.inl h2
  · refine Or.inr ?_
    have s : n1.toInt = (I 118 (I 107 18).toNatClampNeg).toInt - 1 := by
      rw [e1, Int32.toInt_sub, kl_1]; exact en_bmod (by omega) (by omega) (Or.inl rfl)
    rw [s, kl_0] at h2
    omega
theorem mly_13 {Sc : sm_C} : en_hold ml_tb2 (mlY c48) sm_P Sc mlc_13 := by
  intro d hd vs w hv hm _
  obtain ⟨vs1, rfl, hv1⟩ := kl_vr (q := 107) rfl hv
  obtain ⟨x1, vs2, rfl, b1, hv2⟩ := kl_vi hv1
  obtain ⟨x2, vs3, rfl, b2, hv3⟩ := kl_vi hv2
  obtain ⟨x3, vs4, rfl, b3, hv4⟩ := kl_vi hv3
  obtain rfl := kl_v0 hv4
  have hd : 9 ≤ d := hd
  obtain ⟨d, rfl⟩ : ∃ d', d = d' + 1 + 1 := ⟨d - 2, by omega⟩
  refine ml_topY hm (fun I L R hw hm => ?_)
  have fin : ∀ (r : Int32) (I2 : sm_I) (L2 : sm_L) (R2 : sm_R), en_mem ml_tb2 (mlY c48) (xLay, I2, L2, R2) → en_fr ml_SW (xLay, I, L, R) (xLay, I2, L2, R2) → ∃ (o : Option Value) (I3 : sm_I) (L3 : sm_L) (R3 : sm_R), ((some (.int r) : Option Value), ((xLay, I2, L2, kM R2) : sm_W)) = (o, (xLay, I3, L3, kM R3)) ∧ en_pr mlc_13.2.2.2.1 o ∧ en_mem ml_tb2 (mlY c48) (xLay, I3, L3, R3) ∧ en_fr mlc_13.2.2.2.2.1 (xLay, I, L, R) (xLay, I3, L3, R3) := fun r I2 L2 R2 m f => ⟨_, I2, L2, R2, rfl, Or.inl ⟨rfl, en_crange.1, en_crange.2⟩, m, f⟩
  refine u_X12_been_0 (mx_isPersonY hm (fun r hr => ⟨r, I, L, R, rfl, fun _ => fin _ _ _ _ hm en_fr_rf, fun hr1 => ?_⟩))
  have a1 := hr.resolve_left hr1
  obtain ⟨l0, l1, ln, lc⟩ := ml_liveY hm
  have l0 : 0 ≤ (I 107 18).toInt := l0
  have l1 : (I 107 18).toInt ≤ 1 := l1
  have ln : ((I 107 18).toNatClampNeg : Int) = (I 107 18).toInt := ln
  have bp : 0 ≤ (I 119 (I 107 18).toNatClampNeg).toInt ∧ (I 119 (I 107 18).toNatClampNeg).toInt ≤ 6 := ml_rowY hm (p := 119) (n := 2) (q := (0, 6)) (fun _ => rfl) _ (by omega)
  refine ⟨kl_in l0 (by omega), fun n5 e5 => mx_in (fun r9 _ h9 => ⟨r9, I, L, R, rfl, fun _ => fin _ _ _ _ hm en_fr_rf, fun hr9 => ?_⟩)⟩
  have s5 : n5.toInt = (I 119 (I 107 18).toNatClampNeg).toInt - 1 := by
    rw [e5, Int32.toInt_sub, kl_1]; exact en_bmod (by omega) (by omega) (Or.inl rfl)
  have a2 := h9.resolve_left hr9
  rw [kl_0] at a2
  refine mx_oneMoreY a1 (by omega) hm en_fr_rf (fun I10 L10 R10 m10 f10 t10 => ⟨I10, L10, R10, rfl, fun I14 e14 => ?_⟩)
  have m14 : en_mem ml_tb2 (mlY c48) (xLay, I14, L10, R10) := by
    rw [e14]
    exact ml_wfY m10 (by decide +kernel) (q := (0, 1)) (by decide +kernel) (by decide)
  have f14 : en_fr ml_SW (xLay, I, L, R) (xLay, I14, L10, R10) := by rw [e14]; exact ml_fr f10 (by decide +kernel)
  have t14 : I14 107 63 = 0 := by rw [e14, en_up_ne _ _ _ _ (by omega), t10]
  obtain ⟨k0, k1, kn, kc⟩ := ml_liveY m14
  have k0 : 0 ≤ (I14 107 18).toInt := k0
  have k1 : (I14 107 18).toInt ≤ 1 := k1
  have kn : ((I14 107 18).toNatClampNeg : Int) = (I14 107 18).toInt := kn
  have bt : 0 ≤ (I14 122 (I14 107 18).toNatClampNeg).toInt ∧ (I14 122 (I14 107 18).toNatClampNeg).toInt ≤ 10 := ml_rowY m14 (p := 122) (n := 2) (q := (0, 10)) (fun _ => rfl) _ (by omega)
  refine ⟨kl_in k0 (by omega), fun n15 e15 => ?_⟩
  have s15 : n15.toInt = (I14 122 (I14 107 18).toNatClampNeg).toInt + 2 := by rw [e15]; exact ml_ad rfl (by decide) (by omega) (by omega)
  refine ml_ciY (c := mlc_5) mly_5 (by show 4 ≤ d + 1; omega) ⟨⟨rfl, rfl⟩, ⟨rfl, (by omega : (1 : Int) ≤ n15.toInt), (by omega : n15.toInt ≤ (12 : Int))⟩, trivial⟩ m14 ml_pf0 rfl (fun r19 I16 L16 R16 q0 q1 m16 f16 => ?_)
  have hf16 : en_fr ml_SW (xLay, I, L, R) (xLay, I16, L16, R16) := ml_frt f14 f16 (by decide +kernel)
  refine ⟨fun _ => ⟨fun _ => ⟨fun _ => fin _ _ _ _ m16 hf16, fun _ => ⟨fun _ => fin _ _ _ _ m16 hf16, fun _ => fin _ _ _ _ m16 hf16⟩⟩, fun _ => fin _ _ _ _ m16 hf16⟩, fun _ => ?_⟩
  refine mx_meetsAllY (by omega) (fun I23 L23 R23 m23 hf23 => ⟨I23, L23, R23, rfl, fun _ => ⟨fun _ => fin _ _ _ _ m23 hf23, fun _ => ⟨fun _ => fin _ _ _ _ m23 hf23, fun _ => fin _ _ _ _ m23 hf23⟩⟩, fun _ => fin _ _ _ _ m23 hf23⟩) m16 hf16 (by rw [ml_g f16 (by decide), t14])
theorem mx_asksY {S : sm_C} {d : Nat} {Φ : sm_Z → Prop} {I : sm_I} {L : sm_L} {R : sm_R} {x : Int32} (hd : mlc_17.2.2.2.2.2 ≤ d) (hm : en_mem ml_tb2 (mlY c48) (xLay, I, L, R)) (h : ∀ (r : Int32) (I' : sm_I) (L' : sm_L) (R' : sm_R), en_mem ml_tb2 (mlY c48) (xLay, I', L', R') → en_fr ml_SW (xLay, I, L, R) (xLay, I', L', R') → (r = 0 → 0 ≤ x.toInt ∧ x.toInt ≤ 999) → Φ (some (.int r), (xLay, I', L', kM R'))) : sm_wp sm_P S (d + 1) 97 0 [.ref 107, .int x] [] (xLay, I, L, kM R) (0, 0) Φ := by
  refine u_X12_asks_0 ⟨fun a => ?_, fun _ => h _ I L R hm en_fr_rf (fun c => absurd c (by decide))⟩
  have a := kl_le.mp a
  refine ml_cvY (c := mlc_17) mly_17 hd ⟨⟨rfl, rfl⟩, trivial⟩ hm ml_pf0 rfl (fun I1 L1 R1 m1 f1 => ?_)
  have f1 : en_fr ml_SW (xLay, I, L, R) (xLay, I1, L1, R1) := ml_frw f1 (by decide +kernel)
  have b : 0 ≤ (I1 107 73).toInt ∧ (I1 107 73).toInt ≤ 1000 := m1.2.1 107 73 (0, 1000) (by decide +kernel)
  refine ⟨fun _ => ⟨fun _ => h _ I1 L1 R1 m1 f1 (fun c => absurd c (by decide)), fun q => h _ I1 L1 R1 m1 f1 (fun _ => ?_)⟩, fun _ => h _ I1 L1 R1 m1 f1 (fun c => absurd c (by decide))⟩
  have q := kl_nle q
  rw [kl_0] at a
  omega
theorem mx_drawn8Y {S : sm_C} {d : Nat} {Φ : sm_Z → Prop} {I : sm_I} {L : sm_L} {R : sm_R} {x2 x3 : Int32} (hm : en_mem ml_tb2 (mlY c48) (xLay, I, L, R)) (b2 : 0 ≤ x2.toInt) (h : ∀ r : Int32, Φ (some (.int r), (xLay, I, L, kM R))) : ∀ (m : Nat) (x5 x6 x7 : Int32), ml_dk I x5 → ml_dk I x6 → 0 ≤ x7.toInt → x7.toInt ≤ 10 → 10 - x7.toInt < m → sm_wp sm_P S (d + 1) 121 8 [.ref 107, .int x2, .int x3, .int x5, .int x6, .int x7] [] (xLay, I, L, kM R) (0, 0) Φ := by
  obtain ⟨l0, l1, ln, lc⟩ := ml_liveY hm
  have l0 : 0 ≤ (I 107 18).toInt := l0
  have l1 : (I 107 18).toInt ≤ 1 := l1
  have ln : ((I 107 18).toNatClampNeg : Int) = (I 107 18).toInt := ln
  have bt : 0 ≤ (I 122 (I 107 18).toNatClampNeg).toInt ∧ (I 122 (I 107 18).toNatClampNeg).toInt ≤ 10 := ml_rowY hm (p := 122) (n := 2) (q := (0, 10)) (fun _ => rfl) _ (by omega)
  have c10 : (10 : Int32).toInt = 10 := by decide
  have c6 : (6 : Int32).toInt = 6 := by decide
  have e1 : ((10 : Int32) * I 107 18).toInt = 10 * (I 107 18).toInt := ml_mu c10 rfl (by omega) (by omega)
  have idx : ∀ x n : Int32, 0 ≤ x.toInt → x.toInt ≤ 9 → n = (10 : Int32) * I 107 18 + x → n.toInt = 10 * (I 107 18).toInt + x.toInt ∧ vp_in n 20 := by
    intro x n p0 p1 en
    have e2 : n.toInt = 10 * (I 107 18).toInt + x.toInt := by rw [en]; exact ml_ad e1 rfl (by omega) (by omega)
    exact ⟨e2, kl_in (by omega) (by omega)⟩
  intro m
  induction m with
  | zero => intro x5 x6 x7 d5 d6 h0 h1 hM; omega
  | succ m ih =>
    intro x5 x6 x7 d5 d6 h0 h1 hM
    refine u_X12_drawn_8 ⟨kl_in l0 (by omega), fun _ => ⟨fun _ => h _, fun n5 n1 en1 => ?_⟩, fun a n12 en12 => ?_⟩
    · have g5 := d5.resolve_left (ml_m1 n5)
      obtain ⟨t1, v1⟩ := idx x5 n1 g5.1 g5.2.1 en1
      have p1 := g5.2.2 n1 t1
      have nn1 := kl_nat (i := n1) (by omega)
      have q1 : -1 ≤ (I 124 n1.toNatClampNeg).toInt ∧ (I 124 n1.toNatClampNeg).toInt ≤ 5 := ml_rowY hm (p := 124) (n := 20) (q := (-1, 5)) (fun _ => rfl) _ (by omega)
      refine ⟨v1, fun _ => h _, fun n6 n2 en2 => ?_⟩
      have g6 := d6.resolve_left (ml_m1 n6)
      obtain ⟨t2, v2⟩ := idx x6 n2 g6.1 g6.2.1 en2
      have p2 := g6.2.2 n2 t2
      have nn2 := kl_nat (i := n2) (by omega)
      have q2 : -1 ≤ (I 124 n2.toNatClampNeg).toInt ∧ (I 124 n2.toNatClampNeg).toInt ≤ 5 := ml_rowY hm (p := 124) (n := 20) (q := (-1, 5)) (fun _ => rfl) _ (by omega)
      refine ⟨v2, fun n3 en3 => ?_⟩
      have s1 : ((6 : Int32) * I 124 n1.toNatClampNeg).toInt = 6 * (I 124 n1.toNatClampNeg).toInt := ml_mu c6 rfl (by omega) (by omega)
      have s2 : n3.toInt = 6 * (I 124 n1.toNatClampNeg).toInt + (I 124 n2.toNatClampNeg).toInt := by rw [en3]; exact ml_ad s1 rfl (by omega) (by omega)
      have s6 := ml_in1 (x := x6) (by omega)
      exact ⟨kl_in (by omega) (by omega), fun _ => h _, fun _ => mx_gapNow (by omega) (by omega) (fun r => ⟨r, I, L, R, rfl, fun _ => h _, fun _ => h _⟩)⟩
    · have a := kl_nle a
      have s7 := ml_in1 (x := x7) (by omega)
      obtain ⟨t12, v12⟩ := idx x7 n12 h0 (by omega) en12
      have n7 := kl_nat h0
      have nn := kl_nat (i := n12) (by omega)
      have nx : ∀ y z : Int32, ml_dk I y → ml_dk I z → sm_wp sm_P S (d + 1) 121 21 [.ref 107, .int x2, .int x3, .int y, .int z, .int x7] [] (xLay, I, L, kM R) (0, 0) Φ := fun y z hy hz => u_X12_drawn_21 (ih y z _ hy hz (by omega) (by omega) (by omega))
      refine ⟨v12, fun p => ?_, fun _ => nx _ _ d5 d6⟩
      have V := (ml_lvY hm).1 x7.toNatClampNeg (by rw [n7]; exact a) (by
        show (I 123 (10 * (I 107 18).toNatClampNeg + x7.toNatClampNeg)).toInt ≠ -1
        rw [show 10 * (I 107 18).toNatClampNeg + x7.toNatClampNeg = n12.toNatClampNeg by omega, p]; omega)
      have V : 0 ≤ (I 124 n12.toNatClampNeg).toInt := by
        rw [show n12.toNatClampNeg = 10 * (I 107 18).toNatClampNeg + x7.toNatClampNeg by omega]; exact V
      have d7 : ml_dk I x7 := Or.inr ⟨h0, by omega, fun n hn => by
        have k := kl_nat (i := n) (by omega)
        rw [show n.toNatClampNeg = n12.toNatClampNeg by omega]; exact V⟩
      have g17 : ∀ y r : Int32, ml_dk I y → sm_wp sm_P S (d + 1) 121 17 [.ref 107, .int x2, .int x3, .int y, .int x6, .int x7, .int r] [] (xLay, I, L, kM R) (0, 0) Φ := fun y r hy => by
        refine u_X12_drawn_17 ⟨fun _ => nx _ _ hy d6, fun _ => ⟨fun _ => nx _ _ hy d7, fun c => ?_⟩⟩
        have g6 := d6.resolve_left (ml_m1 c)
        have s6 := ml_in1 (x := x6) (by omega)
        exact mx_gapNow (by omega) (by omega) (fun r => ⟨r, I, L, R, rfl, fun _ => nx _ _ hy d6, fun _ => nx _ _ hy d7⟩)
      refine mx_gapNow (by omega) (by omega) (fun r => ⟨r, I, L, R, rfl, fun _ n23 en23 => ⟨(idx x7 n23 h0 (by omega) en23).2, h _⟩, fun _ => ⟨fun _ => g17 _ _ d5, fun _ => ⟨fun _ => g17 _ _ d7, fun c => ?_⟩⟩⟩)
      have g5 := d5.resolve_left (ml_m1 c)
      have s5 := ml_in1 (x := x5) (by omega)
      exact mx_gapNow (by omega) (by omega) (fun r => ⟨r, I, L, R, rfl, fun _ => g17 _ _ d5, fun _ => g17 _ _ d7⟩)
theorem mly_31 {Sc : sm_C} : en_hold ml_tb2 (mlY c48) sm_P Sc mlc_31 := by
  intro d hd vs w hv hm _
  obtain ⟨vs1, rfl, hv1⟩ := kl_vr (q := 107) rfl hv
  obtain ⟨x1, vs2, rfl, b1, hv2⟩ := kl_vi hv1
  obtain ⟨x2, vs3, rfl, b2, hv3⟩ := kl_vi hv2
  obtain ⟨x3, vs4, rfl, b3, hv4⟩ := kl_vi hv3
  obtain rfl := kl_v0 hv4
  have hd : 10 ≤ d := hd
  obtain ⟨d, rfl⟩ : ∃ d', d = d' + 1 + 1 := ⟨d - 2, by omega⟩
  refine ml_topY hm (fun I L R hw hm => ?_)
  have fin : ∀ (r : Int32) (I2 : sm_I) (L2 : sm_L) (R2 : sm_R), en_mem ml_tb2 (mlY c48) (xLay, I2, L2, R2) → en_fr ml_SW (xLay, I, L, R) (xLay, I2, L2, R2) → ∃ (o : Option Value) (I3 : sm_I) (L3 : sm_L) (R3 : sm_R), ((some (.int r) : Option Value), ((xLay, I2, L2, kM R2) : sm_W)) = (o, (xLay, I3, L3, kM R3)) ∧ en_pr mlc_31.2.2.2.1 o ∧ en_mem ml_tb2 (mlY c48) (xLay, I3, L3, R3) ∧ en_fr mlc_31.2.2.2.2.1 (xLay, I, L, R) (xLay, I3, L3, R3) := fun r I2 L2 R2 m f => ⟨_, I2, L2, R2, rfl, Or.inl ⟨rfl, en_crange.1, en_crange.2⟩, m, f⟩
  refine u_X12_drawn_0 (mx_isPersonY hm (fun r hr => ⟨r, I, L, R, rfl, fun _ => fin _ _ _ _ hm en_fr_rf, fun hr1 => ?_⟩))
  have a2 := hr.resolve_left hr1
  refine u_X12_isMinute_0 (mx_in (fun r hr _ => ⟨r, I, L, R, rfl, hr, r, I, L, R, rfl, fun _ => fin _ _ _ _ hm en_fr_rf, fun _ => ?_⟩))
  refine mx_asksY (by exact Nat.le_trans (by decide : _ ≤ 8) (by omega)) hm (fun r9 I7 L7 R7 m7 f7 h9 => ⟨r9, I7, L7, R7, rfl, fun c => ?_, fun _ => fin _ _ _ _ m7 f7⟩)
  have a1 := h9 c
  refine ml_ciY (c := mlc_18) mly_18 (by show 7 ≤ d + 1; omega) ⟨⟨rfl, rfl⟩, ⟨rfl, a1.1, a1.2⟩, ⟨rfl, by decide, by decide⟩, trivial⟩ m7 ml_pf0 rfl (fun r12 I10 L10 R10 q0 q1 m10 f10 => ?_)
  have hf10 : en_fr ml_SW (xLay, I, L, R) (xLay, I10, L10, R10) := ml_frt f7 f10 (by decide +kernel)
  refine ⟨fun _ => fin _ _ _ _ m10 hf10, fun _ => ?_⟩
  exact mx_drawn8Y m10 a2.1 (fun r => fin r _ _ _ m10 hf10) 11 _ _ 0 (Or.inl (by decide)) (Or.inl (by decide)) (by decide) (by decide) (by decide)
theorem mx_plans26Y {S : sm_C} {d : Nat} {Φ : sm_Z → Prop} {w0 : sm_W} {L : sm_L} {R : sm_R} {x1 x2 x4 : Int32} {N : Int} (hN : ml_pk x2.toInt N) (h0 : 0 ≤ x4.toInt) (h1 : x4.toInt < N) (hk : ∀ J : sm_I, en_mem ml_tb2 (mlY c48) (xLay, J, L, R) → en_fr ml_SW w0 (xLay, J, L, R) → sm_wp sm_P S (d + 1) 177 21 [.ref 107, .int x1, .int x2, .int (x4 + (-1 : Int32))] [] (xLay, J, L, kM R) (0, 0) Φ) : ∀ (m : Nat) (I : sm_I) (x5 : Int32), en_mem ml_tb2 (mlY c48) (xLay, I, L, R) → en_fr ml_SW w0 (xLay, I, L, R) → 0 ≤ x5.toInt → x5.toInt ≤ 5 → 5 - x5.toInt < m → sm_wp sm_P S (d + 1) 177 26 [.ref 107, .int x1, .int x2, .int x4, .int x5] [] (xLay, I, L, kM R) (0, 0) Φ := by
  have bN : N ≤ 243 ∧ x2.toInt ≤ 5 := by
    rcases hN with h | h | h | h | h | h <;> omega
  have n4 := kl_nat h0
  have v4 : vp_in x4 243 := kl_in h0 (by omega)
  intro m
  induction m with
  | zero => intro I x5 hm hf k0 k1 hM; omega
  | succ m ih =>
    intro I x5 hm hf k0 k1 hM
    have P := ml_pw hm.2.2.2.2.2.2.2.1 k0 k1
    have P : ml_pk x5.toInt (I 165 x5.toNatClampNeg).toInt := P
    have bp : 1 ≤ (I 165 x5.toNatClampNeg).toInt ∧ (I 165 x5.toNatClampNeg).toInt ≤ 243 := by
      rcases P with h | h | h | h | h | h <;> omega
    have p0 : ¬ (I 165 x5.toNatClampNeg) = 0 := fun c => by rw [c, kl_0] at bp; omega
    have v5 : vp_in x5 6 := kl_in k0 (by omega)
    have s5 := ml_in1 (x := x5) (by omega)
    refine u_X12_plans_26 ⟨fun _ => hk I hm hf, fun a => ⟨v4, fun _ => hk I hm hf, fun _ => ⟨v5, p0, by decide, fun z => ⟨v5, fun n1 e1 => ?_⟩, fun _ => ?_⟩⟩⟩
    all_goals have a := kl_nle a
    · have dv : (x4 / (I 165 x5.toNatClampNeg)).toInt = x4.toInt / (I 165 x5.toNatClampNeg).toInt := ml_dv h0 bp.1
      have dle : x4.toInt / (I 165 x5.toNatClampNeg).toInt ≤ x4.toInt := Int.ediv_le_self _ h0
      have dge : 0 ≤ x4.toInt / (I 165 x5.toNatClampNeg).toInt := Int.ediv_nonneg h0 (by omega)
      have r3 := ml_rem3 (by rw [dv]; exact dge) (by rw [dv]; omega) z
      rw [dv] at r3
      have dg := ml_dig h0 h1 P hN (by omega) r3
      clear r3 dle dge dv z
      have s1 : n1.toInt = x4.toInt + (I 165 x5.toNatClampNeg).toInt := by rw [e1]; exact ml_ad rfl rfl (by omega) (by omega)
      refine ⟨kl_in (by omega) (by omega), v5, fun n2 e2 => ?_⟩
      have m2 : ((2 : Int32) * (I 165 x5.toNatClampNeg)).toInt = 2 * (I 165 x5.toNatClampNeg).toInt := ml_mu (by decide) rfl (by omega) (by omega)
      have s2 : n2.toInt = x4.toInt + 2 * (I 165 x5.toNatClampNeg).toInt := by rw [e2]; exact ml_ad rfl m2 (by omega) (by omega)
      have wr : ∀ n3 : Int32, (vp_in x4 243) ∧ ((n3 < (I 164 x4.toNatClampNeg) → (vp_in x4 243) ∧ ∀ I4 : sm_I, I4 = (sm_up I 164 x4.toNatClampNeg n3) → ((x4 = 0 → sm_wp sm_P S (d + 1) 177 26 [.ref 107, .int x1, .int x2, .int x4, .int (x5 + (1 : Int32))] [] (xLay, (sm_up I4 107 96 x5), L, (kM R)) (0, 0) Φ) ∧ (¬ x4 = 0 → sm_wp sm_P S (d + 1) 177 26 [.ref 107, .int x1, .int x2, .int x4, .int (x5 + (1 : Int32))] [] (xLay, I4, L, (kM R)) (0, 0) Φ))) ∧ (¬ n3 < (I 164 x4.toNatClampNeg) → sm_wp sm_P S (d + 1) 177 26 [.ref 107, .int x1, .int x2, .int x4, .int (x5 + (1 : Int32))] [] (xLay, I, L, (kM R)) (0, 0) Φ)) := by
        intro n3
        refine ⟨v4, fun _ => ⟨v4, fun I4 e4 => ?_⟩, fun _ => ih I _ hm hf (by omega) (by omega) (by omega)⟩
        have m4 : en_mem ml_tb2 (mlY c48) (xLay, I4, L, R) := by
          rw [e4]
          exact ml_we2Y hm rfl (n := 243) (q := (-2147483648, 2147483647)) rfl en_crange
        have f4 : en_fr ml_SW w0 (xLay, I4, L, R) := by rw [e4]; exact ml_fr hf rfl
        refine ⟨fun _ => ih _ _ (ml_wfY m4 (by decide +kernel) (q := (-1, 4)) (by decide +kernel) ?_) (ml_fr f4 (by decide +kernel)) (by omega) (by omega) (by omega), fun _ => ih I4 _ m4 f4 (by omega) (by omega) (by omega)⟩
        show (-1 : Int) ≤ x5.toInt ∧ x5.toInt ≤ 4
        omega
      exact ⟨kl_in (by omega) (by omega), fun _ n3 _ => wr n3, fun _ n3 _ => wr n3⟩
    · exact ih I _ hm hf (by omega) (by omega) (by omega)
theorem mx_plans21Y {S : sm_C} {d : Nat} {Φ : sm_Z → Prop} {w0 : sm_W} {L : sm_L} {R : sm_R} {x1 x2 : Int32} {N : Int} (hN : ml_pk x2.toInt N) (hΦ : ∀ (r : Int32) (I : sm_I), en_mem ml_tb2 (mlY c48) (xLay, I, L, R) → en_fr ml_SW w0 (xLay, I, L, R) → Φ (some (.int r), (xLay, I, L, kM R))) : ∀ (m : Nat) (I : sm_I) (x4 : Int32), en_mem ml_tb2 (mlY c48) (xLay, I, L, R) → en_fr ml_SW w0 (xLay, I, L, R) → -1 ≤ x4.toInt → x4.toInt < N → x4.toInt < m → sm_wp sm_P S (d + 1) 177 21 [.ref 107, .int x1, .int x2, .int x4] [] (xLay, I, L, kM R) (0, 0) Φ := by
  have bN : N ≤ 243 ∧ x2.toInt ≤ 5 := by
    rcases hN with h | h | h | h | h | h <;> omega
  intro m
  induction m with
  | zero =>
    intro I x4 hm hf h0 h1 hM
    refine u_X12_plans_21 ⟨fun _ => ⟨kl_in (by decide) (by decide), hΦ _ I hm hf⟩, fun a => ?_⟩
    have := kl_nlt0 a
    omega
  | succ m ih =>
    intro I x4 hm hf h0 h1 hM
    refine u_X12_plans_21 ⟨fun _ => ⟨kl_in (by decide) (by decide), hΦ _ I hm hf⟩, fun a => ?_⟩
    have a := kl_nlt0 a
    have v4 : vp_in x4 243 := kl_in a (by omega)
    have go : ∀ (J : sm_I), en_mem ml_tb2 (mlY c48) (xLay, J, L, R) → en_fr ml_SW w0 (xLay, J, L, R) → sm_wp sm_P S (d + 1) 177 26 [.ref 107, .int x1, .int x2, .int x4, .int (0 : Int32)] [] (xLay, J, L, kM R) (0, 0) Φ := by
      intro J mJ fJ
      refine mx_plans26Y hN a h1 (fun K mK fK => ?_) 6 J 0 mJ fJ (by decide) (by decide) (by decide)
      obtain ⟨y, hy, sd⟩ : ∃ y, y = x4 + (-1 : Int32) ∧ y.toInt = x4.toInt - 1 := ⟨_, rfl, ml_de1 (by omega)⟩
      rw [← hy]
      exact ih K y mK fK (by omega) (by omega) (by omega)
    have w : ∀ n3 : Int32, (vp_in x4 243) ∧ ∀ I1 : sm_I, I1 = (sm_up I 164 x4.toNatClampNeg n3) → sm_wp sm_P S (d + 1) 177 26 [.ref 107, .int x1, .int x2, .int x4, .int (0 : Int32)] [] (xLay, I1, L, kM R) (0, 0) Φ := fun n3 => ⟨v4, fun I1 e1 => go I1 (by
      rw [e1]
      exact ml_we2Y hm rfl (n := 243) (q := (-2147483648, 2147483647)) rfl en_crange) (by rw [e1]; exact ml_fr hf rfl)⟩
    exact ⟨v4, fun _ => w _, fun _ => w _⟩
theorem mx_plans10Y {S : sm_C} {d : Nat} {Φ : sm_Z → Prop} {w0 : sm_W} {I : sm_I} {L : sm_L} {R : sm_R} {x1 x2 x3 x4 x5 : Int32} (hd : mlc_36.2.2.2.2.2 ≤ d) (b2 : x2.toInt ≤ 5) (h0 : 0 ≤ x5.toInt) (h1 : x5.toInt < 243) (hm : en_mem ml_tb2 (mlY c48) (xLay, I, L, R)) (hf : en_fr ml_SW w0 (xLay, I, L, R)) (hk : ∀ (J : sm_I) (Lj : sm_L) (Rj : sm_R), en_mem ml_tb2 (mlY c48) (xLay, J, Lj, Rj) → en_fr ml_SW w0 (xLay, J, Lj, Rj) → sm_wp sm_P S (d + 1) 177 8 [.ref 107, .int x1, .int x2, .int x3, .int x4, .int (x5 + 1)] [] (xLay, J, Lj, kM Rj) (0, 0) Φ) : ∀ (m : Nat) (x6 x7 x8 : Int32), 0 ≤ x8.toInt → x8.toInt ≤ 5 → 5 - x8.toInt < m → sm_wp sm_P S (d + 1) 177 10 [.ref 107, .int x1, .int x2, .int x3, .int x4, .int x5, .int x6, .int x7, .int x8] [] (xLay, I, L, kM R) (0, 0) Φ := by
  have v5 : vp_in x5 243 := kl_in h0 (by omega)
  intro m
  induction m with
  | zero => intro x6 x7 x8 k0 k1 hM; omega
  | succ m ih =>
    intro x6 x7 x8 k0 k1 hM
    have P : ml_pk x8.toInt (I 165 x8.toNatClampNeg).toInt := ml_pw hm.2.2.2.2.2.2.2.1 k0 k1
    have bp : 1 ≤ (I 165 x8.toNatClampNeg).toInt ∧ (I 165 x8.toNatClampNeg).toInt ≤ 243 := by
      rcases P with h | h | h | h | h | h <;> omega
    have p0 : ¬ (I 165 x8.toNatClampNeg) = 0 := fun c => by rw [c, kl_0] at bp; omega
    have s8 := ml_in1 (x := x8) (by omega)
    refine u_X12_plans_10 ⟨fun _ => ?_, fun a => ⟨kl_in k0 (by omega), p0, by decide, fun n8 _ => ?_⟩⟩
    · refine ml_ciY (c := mlc_36) mly_36 hd ⟨⟨rfl, rfl⟩, ⟨rfl, en_crange.1, en_crange.2⟩, ⟨rfl, en_crange.1, en_crange.2⟩, trivial⟩ hm ml_pf0 rfl (fun r I1 L1 R1 r0 r1 m1 f1 => ?_)
      have hf1 : en_fr ml_SW w0 (xLay, I1, L1, R1) := ml_frt hf f1 (by decide +kernel)
      refine ⟨fun _ => hk I1 L1 R1 m1 hf1, fun _ => ⟨v5, fun n4 _ => ⟨v5, fun I5 e5 => hk I5 L1 R1 ?_ ?_⟩⟩⟩
      · rw [e5]
        exact ml_we2Y m1 rfl (n := 243) (q := (-2147483648, 2147483647)) rfl en_crange
      · rw [e5]; exact ml_fr hf1 rfl
    · have a := kl_nle a
      have go : ∀ y z : Int32, sm_wp sm_P S (d + 1) 177 10 [.ref 107, .int x1, .int x2, .int x3, .int x4, .int x5, .int y, .int z, .int (x8 + 1)] [] (xLay, I, L, kM R) (0, 0) Φ := fun y z => ih y z _ (by omega) (by omega) (by omega)
      exact ⟨fun _ n11 _ => ⟨fun _ n12 _ => go _ _, fun _ => go _ _⟩, fun _ => ⟨fun _ n9 _ => go _ _, fun _ => go _ _⟩⟩
theorem mx_plans8Y {S : sm_C} {d : Nat} {Φ : sm_Z → Prop} {w0 : sm_W} {x1 x2 x3 x4 : Int32} (hd : mlc_36.2.2.2.2.2 ≤ d) (b2 : x2.toInt ≤ 5) (b3 : x3.toInt ≤ 243) (hk : ∀ (J : sm_I) (Lj : sm_L) (Rj : sm_R), en_mem ml_tb2 (mlY c48) (xLay, J, Lj, Rj) → en_fr ml_SW w0 (xLay, J, Lj, Rj) → sm_wp sm_P S (d + 1) 177 4 [.ref 107, .int x1, .int x2, .int x3, .int (x4 + 1)] [] (xLay, J, Lj, kM Rj) (0, 0) Φ) : ∀ (m : Nat) (I : sm_I) (L : sm_L) (R : sm_R) (x5 : Int32), en_mem ml_tb2 (mlY c48) (xLay, I, L, R) → en_fr ml_SW w0 (xLay, I, L, R) → 0 ≤ x5.toInt → x3.toInt - x5.toInt ≤ m → sm_wp sm_P S (d + 1) 177 8 [.ref 107, .int x1, .int x2, .int x3, .int x4, .int x5] [] (xLay, I, L, kM R) (0, 0) Φ := by
  intro m
  induction m with
  | zero =>
    intro I L R x5 hm hf h0 hM
    refine u_X12_plans_8 ⟨fun _ => hk I L R hm hf, fun a => ?_⟩
    have := kl_nle a
    omega
  | succ m ih =>
    intro I L R x5 hm hf h0 hM
    refine u_X12_plans_8 ⟨fun _ => hk I L R hm hf, fun a => ?_⟩
    have a := kl_nle a
    have s5 := ml_in1 (x := x5) (by omega)
    exact mx_plans10Y hd b2 h0 (by omega) hm hf (fun J Lj Rj mJ fJ => ih J Lj Rj _ mJ fJ (by omega) (by omega)) 6 _ _ 0 (by decide) (by decide) (by decide)
theorem mx_plans4Y {S : sm_C} {d : Nat} {Φ : sm_Z → Prop} {w0 : sm_W} {x1 x2 x3 : Int32} (hd : 7 ≤ d) (hN : ml_pk x2.toInt x3.toInt) (hΦ : ∀ (r : Int32) (I : sm_I) (L : sm_L) (R : sm_R), en_mem ml_tb2 (mlY c48) (xLay, I, L, R) → en_fr ml_SW w0 (xLay, I, L, R) → Φ (some (.int r), (xLay, I, L, kM R))) : ∀ (m : Nat) (I : sm_I) (L : sm_L) (R : sm_R) (x4 : Int32), en_mem ml_tb2 (mlY c48) (xLay, I, L, R) → en_fr ml_SW w0 (xLay, I, L, R) → 0 ≤ x4.toInt → x4.toInt ≤ 1000 → 1000 - x4.toInt < m → sm_wp sm_P S (d + 1) 177 4 [.ref 107, .int x1, .int x2, .int x3, .int x4] [] (xLay, I, L, kM R) (0, 0) Φ := by
  have bN : 1 ≤ x3.toInt ∧ x3.toInt ≤ 243 ∧ x2.toInt ≤ 5 := by
    rcases hN with h | h | h | h | h | h <;> omega
  intro m
  induction m with
  | zero => intro I L R x4 hm hf h0 h1 hM; omega
  | succ m ih =>
    intro I L R x4 hm hf h0 h1 hM
    have bw : 0 ≤ (I 107 73).toInt ∧ (I 107 73).toInt ≤ 1000 := hm.2.1 107 73 (0, 1000) (by decide +kernel)
    refine u_X12_plans_4 ⟨fun _ I1 e1 => ?_, fun a => ?_⟩
    · obtain ⟨y, hy, sd⟩ : ∃ y, y = x3 - (1 : Int32) ∧ y.toInt = x3.toInt - 1 := ⟨_, rfl, by rw [Int32.toInt_sub, kl_1]; exact en_bmod (by omega) (by omega) (Or.inl rfl)⟩
      rw [← hy]
      refine mx_plans21Y hN (fun r J mJ fJ => hΦ r J L R mJ fJ) 243 I1 y ?_ ?_ (by omega) (by omega) (by omega)
      · rw [e1]
        exact ml_wfY hm (by decide +kernel) (q := (-1, 4)) (by decide +kernel) (by decide)
      · rw [e1]; exact ml_fr hf (by decide +kernel)
    · have a := kl_nle a
      have s4 := ml_in1 (x := x4) (by omega)
      refine ml_ciY (c := mlc_18) mly_18 hd ⟨⟨rfl, rfl⟩, ⟨rfl, h0, (by omega : x4.toInt ≤ 999)⟩, ⟨rfl, by decide, by decide⟩, trivial⟩ hm ml_pf0 rfl (fun r I2 L2 R2 r0 r1 m2 f2 => ?_)
      have hf2 : en_fr ml_SW w0 (xLay, I2, L2, R2) := ml_frt hf f2 (by decide +kernel)
      refine ⟨fun _ => ih I2 L2 R2 _ m2 hf2 (by omega) (by omega) (by omega), fun _ => ?_⟩
      exact mx_plans8Y (Nat.le_trans (by decide : _ ≤ 7) hd) bN.2.2 bN.2.1 (fun J Lj Rj mJ fJ => ih J Lj Rj _ mJ fJ (by omega) (by omega) (by omega)) 243 I2 L2 R2 0 m2 hf2 (by decide) (by rw [kl_0]; omega)
theorem mx_plans1Y {S : sm_C} {d : Nat} {Φ : sm_Z → Prop} {w0 : sm_W} {L : sm_L} {R : sm_R} {x1 x2 x3 : Int32} (hd : 7 ≤ d) (hN : ml_pk x2.toInt x3.toInt) (hΦ : ∀ (r : Int32) (I : sm_I) (L : sm_L) (R : sm_R), en_mem ml_tb2 (mlY c48) (xLay, I, L, R) → en_fr ml_SW w0 (xLay, I, L, R) → Φ (some (.int r), (xLay, I, L, kM R))) : ∀ (m : Nat) (I : sm_I) (x4 : Int32), en_mem ml_tb2 (mlY c48) (xLay, I, L, R) → en_fr ml_SW w0 (xLay, I, L, R) → 0 ≤ x4.toInt → x3.toInt - x4.toInt ≤ m → sm_wp sm_P S (d + 1) 177 1 [.ref 107, .int x1, .int x2, .int x3, .int x4] [] (xLay, I, L, kM R) (0, 0) Φ := by
  have bN : 1 ≤ x3.toInt ∧ x3.toInt ≤ 243 ∧ x2.toInt ≤ 5 := by
    rcases hN with h | h | h | h | h | h <;> omega
  intro m
  induction m with
  | zero =>
    intro I x4 hm hf h0 hM
    refine u_X12_plans_1 ⟨fun _ => mx_plans4Y hd hN hΦ 1001 I L R 0 hm hf (by decide) (by decide) (by decide), fun a => ?_⟩
    have := kl_nle a
    omega
  | succ m ih =>
    intro I x4 hm hf h0 hM
    refine u_X12_plans_1 ⟨fun _ => mx_plans4Y hd hN hΦ 1001 I L R 0 hm hf (by decide) (by decide) (by decide), fun a => ?_⟩
    have a := kl_nle a
    have s4 := ml_in1 (x := x4) (by omega)
    refine ⟨kl_in h0 (by omega), fun I1 e1 => ih I1 _ ?_ ?_ (by omega) (by omega)⟩
    · rw [e1]
      exact ml_we2Y hm rfl (n := 243) (q := (-2147483648, 2147483647)) rfl (by decide)
    · rw [e1]; exact ml_fr hf rfl
theorem mly_37 {Sc : sm_C} : en_hold ml_tb2 (mlY c48) sm_P Sc mlc_37 := by
  intro d hd vs w hv hm _
  obtain ⟨vs1, rfl, hv1⟩ := kl_vr (q := 107) rfl hv
  obtain ⟨x1, vs2, rfl, b1, hv2⟩ := kl_vi hv1
  obtain rfl := kl_v0 hv2
  have hd : 9 ≤ d := hd
  obtain ⟨d, rfl⟩ : ∃ d', d = d' + 1 := ⟨d - 1, by omega⟩
  refine ml_topY hm (fun I L R hw hm => ?_)
  obtain ⟨l0, l1, ln, lc⟩ := ml_liveY hm
  have l0 : 0 ≤ (I 107 18).toInt := l0
  have l1 : (I 107 18).toInt ≤ 1 := l1
  have ln : ((I 107 18).toNatClampNeg : Int) = (I 107 18).toInt := ln
  have b : 0 ≤ (I 136 (I 107 18).toNatClampNeg).toInt ∧ (I 136 (I 107 18).toNatClampNeg).toInt ≤ 5 := ml_rowY hm (p := 136) (n := 2) (q := (0, 5)) (fun _ => rfl) _ (by omega)
  refine u_X12_plans_0 ⟨kl_in l0 (by omega), fun n1 e1 => ⟨by rw [e1]; exact kl_in b.1 (by omega), ?_⟩⟩
  have P : ml_pk n1.toInt (I 165 n1.toNatClampNeg).toInt := ml_pw hm.2.2.2.2.2.2.2.1 (by rw [e1]; exact b.1) (by rw [e1]; exact b.2)
  have bN : 1 ≤ (I 165 n1.toNatClampNeg).toInt ∧ (I 165 n1.toNatClampNeg).toInt ≤ 243 := by
    rcases P with h | h | h | h | h | h <;> omega
  exact mx_plans1Y (by omega) P (fun r I2 L2 R2 m f => ⟨_, I2, L2, R2, rfl, Or.inl ⟨rfl, en_crange.1, en_crange.2⟩, m, f⟩) 243 I 0 hm en_fr_rf (by decide) (by rw [kl_0]; omega)
end
