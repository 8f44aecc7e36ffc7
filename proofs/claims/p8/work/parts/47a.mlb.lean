/-! meetsAll, been -/
theorem mx_meetsAll2 {S : sm_C} {d : Nat} {Φ : sm_Z → Prop} {w0 : sm_W} (hd : 4 ≤ d) (hΦ : ∀ (I : sm_I) (L : sm_L) (R : sm_R), en_mem ml_tb mlX (xLay, I, L, R) → en_fr ml_SW w0 (xLay, I, L, R) → Φ (none, (xLay, I, L, kM R))) : ∀ (m : Nat) (I : sm_I) (L : sm_L) (R : sm_R) (x3 : Int32), en_mem ml_tb mlX (xLay, I, L, R) → en_fr ml_SW w0 (xLay, I, L, R) → -1 ≤ x3.toInt → (x3.toInt < (I 107 59).toInt ∨ (I 107 59).toInt = 0) → (I 107 63).toInt ≤ 1000 → ml_nc I x3.toInt → 2 * (1000 - (I 107 63).toInt) + x3.toInt + 1 < m → sm_wp sm_P S (d + 1) 162 2 [.ref 107, .int x3] [] (xLay, I, L, kM R) (0, 0) Φ := by
  intro m
  induction m with
  | zero =>
    intro I L R x3 hm hf k0 k1 t1 hn hM
    omega
  | succ m ih =>
    intro I L R x3 hm hf k0 k1 t1 hn hM
    have bi : 0 ≤ (I 107 59).toInt ∧ (I 107 59).toInt ≤ 70 := hm.2.1 107 59 (0, 70) (by decide +kernel)
    have bt : 0 ≤ (I 107 63).toInt ∧ (I 107 63).toInt ≤ 1001 := hm.2.1 107 63 (0, 1001) (by decide +kernel)
    refine u_X12_meetsAll_2 ⟨fun a => hΦ I L R hm hf, fun a => ⟨fun _ => hΦ I L R hm hf, fun a0 => ?_⟩⟩
    have a0 := kl_nle a0
    rw [kl_0] at a0
    have k1 : x3.toInt < (I 107 59).toInt := by omega
    have k2 := kl_nlt0 a
    have nk := kl_nat k2
    have v : vp_in x3 70 := kl_in k2 (by omega)
    have bo : 0 ≤ (I 148 x3.toNatClampNeg).toInt ∧ (I 148 x3.toNatClampNeg).toInt ≤ 69 := ml_row hm (p := 148) (n := 70) (q := (0, 69)) (fun _ => rfl) _ (by omega)
    have gap : (I 148 x3.toNatClampNeg).toInt ≤ 54 ∨ 60 ≤ (I 148 x3.toNatClampNeg).toInt := hm.2.2.2.2.2.1 _ (by omega)
    have bn : 0 ≤ (I 150 x3.toNatClampNeg).toInt ∧ (I 150 x3.toNatClampNeg).toInt ≤ 4 := ml_row hm (p := 150) (n := 70) (q := (0, 4)) (fun _ => rfl) _ (by omega)
    have hk := hn x3.toNatClampNeg (by omega)
    obtain ⟨ch, hch⟩ : ∃ ch, ch = ml_ch I (I 148 x3.toNatClampNeg) := ⟨_, rfl⟩
    rw [← hch] at hk
    refine ⟨v, v, mx_choices hm bo.1 bo.2 gap (fun c0 c4 => ⟨_, I, L, R, rfl, fun e => ?_, fun e => ⟨v, v, fun n4 e4 => ⟨v, fun I5 e5 I6 e6 => ?_⟩⟩⟩)⟩
    · rw [← hch] at c0 c4 e
      obtain ⟨y, hy, sd⟩ : ∃ y, y = x3 + (-1 : Int32) ∧ y.toInt = x3.toInt - 1 := ⟨_, rfl, ml_de1 (by omega)⟩
      rw [← hy]
      exact ih I L R y hm hf (by omega) (by omega) t1 (fun j hj => hn j (by omega)) (by omega)
    rw [← hch] at c0 c4 e
    have sk := ml_in1 (x := x3) (by omega)
    have lt : (I 150 x3.toNatClampNeg).toInt < ch.toInt := by
      have : (I 150 x3.toNatClampNeg).toInt ≠ ch.toInt := fun q => e (en_ofI q)
      omega
    obtain ⟨m6, f6, g6, o6, q6⟩ := ml_try (W := ml_SW) (fun _ => rfl) (by decide +kernel) hm hf hn k2 (by omega) t1 (by rw [← hch]; exact lt) (by rw [← hch]; exact c4) e4 e5 e6
    have g63 : (I 107 63 + 1).toInt = (I 107 63).toInt + 1 := ml_in1 (by omega)
    refine ⟨fun g => ?_, fun g I31 e31 => ?_⟩
    · have g := kl_le.mp g
      rw [g6, (by decide : (1000 : Int32).toInt = 1000)] at g
      have nx : ∀ (J : sm_I) (Lj : sm_L) (Rj : sm_R) (y : Int32), en_mem ml_tb mlX (xLay, J, Lj, Rj) → en_fr ml_SW w0 (xLay, J, Lj, Rj) → (∀ p j, p ≠ 143 → p ≠ 150 → ¬ (p = 107 ∧ (j = 63 ∨ j = 52 ∨ 90 ≤ j)) → J p j = I p j) → J 107 63 = I6 107 63 → -1 ≤ y.toInt → y.toInt < (I 107 59).toInt → y.toInt ≤ x3.toInt + 1 → (∀ j : Nat, (j : Int) ≤ y.toInt → (J 150 j).toInt ≤ (ml_ch I (I 148 j)).toInt) → sm_wp sm_P S (d + 1) 162 2 [.ref 107, .int y] [] (xLay, J, Lj, (kM Rj)) (0, 0) Φ := by
        intro J Lj Rj y hmJ hfJ oJ tJ y0 y1 y2 hy
        have itJ : J 107 59 = I 107 59 := oJ 107 59 (by decide) (by decide) (by omega)
        refine ih J Lj Rj y hmJ hfJ y0 (Or.inl (by rw [itJ]; exact y1)) (by rw [tJ, g6]; omega) (ml_nc_cg (I := I) (fun j => oJ _ _ (by decide) (by decide) (by omega)) (fun j => oJ _ _ (by decide) (by decide) (by omega)) (fun j => oJ _ _ (by decide) (by decide) (by omega)) (oJ _ _ (by decide) (by decide) (by omega)) (fun j => oJ _ _ (by decide) (by decide) (by omega)) hy) (by rw [tJ, g6]; omega)
      refine ml_cv (c := mlc_8) mlh_8 (Nat.zero_le _) ⟨⟨rfl, rfl⟩, ⟨rfl, k2, (by omega : x3.toInt ≤ 69)⟩, ⟨rfl, (by omega : 1 ≤ (x3 + 1).toInt), (by omega : (x3 + 1).toInt ≤ 70)⟩, trivial⟩ m6 ml_pf0 rfl (fun I7 L7 R7 m7 f7 I10 e10 => ?_)
      obtain ⟨m10, f10, o10⟩ := ml_cop ml_t143 (by decide +kernel) m7 f6 f7 (by omega : 0 ≤ (x3 + 1).toInt) (by omega) e10
      have i10 : I10 148 x3.toNatClampNeg = I 148 x3.toNatClampNeg := by rw [o10 _ _ (by decide) (by omega), o6 _ _ (by decide) (by omega)]
      refine ⟨v, ?_⟩
      rw [i10]
      refine ml_chooses hd m10 bo.1 bo.2 gap bn.1 (by omega) (fun r I11 L11 R11 r0 r1 m11 f11 => ?_)
      have f11' : en_fr ml_SW w0 (xLay, I11, L11, R11) := ml_frt f10 f11 ml_t143
      have o11 : ∀ p j, p ≠ 143 → I11 p j = I10 p j := fun p j h1 => ml_g f11 (ml_143 h1)
      have oI : ∀ p j, p ≠ 143 → p ≠ 150 → ¬ (p = 107 ∧ (j = 63 ∨ j = 52 ∨ 90 ≤ j)) → I11 p j = I p j := fun p j h1 h2 h6 => by rw [o11 _ _ h1, o10 _ _ h1 (by omega), o6 _ _ h2 (by omega)]
      have t11 : I11 107 63 = I6 107 63 := by rw [o11 _ _ (by decide), o10 _ _ (by decide) (by omega)]
      have c11 : ∀ j, I11 150 j = I6 150 j := fun j => by rw [o11 _ _ (by decide), o10 _ _ (by decide) (by omega)]
      have b52 : 0 ≤ (I11 107 52).toInt ∧ (I11 107 52).toInt ≤ 70 := m11.2.1 107 52 (0, 70) (by decide +kernel)
      have i59 : I11 107 59 = I 107 59 := oI _ _ (by decide) (by decide) (by omega)
      refine ⟨fun _ => nx I11 L11 R11 x3 m11 f11' oI t11 (by omega) k1 (by omega) (fun j hj => by rw [c11]; exact q6 j hj), fun _ => ⟨fun _ => ?_, fun c => ?_⟩⟩
      · refine ml_cv (c := mlc_12) mlh_12 (Nat.zero_le _) ⟨⟨rfl, rfl⟩, ⟨rfl, b52.1, b52.2⟩, trivial⟩ m11 ml_pf0 rfl (fun I18 L18 R18 m18 f18 => ?_)
        have o18 : ∀ p j, ¬ (p = 107 ∧ 90 ≤ j) → I18 p j = I11 p j := fun p j h => ml_g f18 (ml_90 h)
        exact nx I18 L18 R18 x3 m18 (ml_frt f11' f18 (by decide +kernel)) (fun p j h1 h2 h6 => by rw [o18 _ _ (by omega), oI _ _ h1 h2 h6]) (by rw [o18 _ _ (by omega), t11]) (by omega) k1 (by omega) (fun j hj => by rw [o18 _ _ (by omega), c11]; exact q6 j hj)
      · have c' : x3.toInt + 1 ≠ (I 107 59).toInt := fun q => c (by rw [i59]; exact en_ofI (by rw [sk]; exact q))
        refine ⟨kl_in (by omega) (by omega), fun I17 e17 => ?_⟩
        have nk1 := kl_nat (i := x3 + 1) (by omega)
        have o17 : ∀ p j, p ≠ 150 → I17 p j = I11 p j := fun p j h => by rw [e17, en_up_ne _ _ _ _ (fun c => h c.1)]
        have m17 : en_mem ml_tb mlX (xLay, I17, L11, R11) := by
          rw [e17]
          exact ml_we2 m11 rfl (n := 70) (q := (0, 4)) rfl (by decide)
        refine nx I17 L11 R11 _ m17 (by rw [e17]; exact ml_fr f11' rfl) (fun p j h1 h2 h6 => by rw [o17 _ _ h2, oI _ _ h1 h2 h6]) (by rw [o17 _ _ (by decide), t11]) (by omega) (by omega) (by omega) (fun j hj => ?_)
        rw [e17]
        by_cases c : j = (x3 + 1).toNatClampNeg
        · have bo' : 0 ≤ (I 148 j).toInt ∧ (I 148 j).toInt ≤ 69 := ml_row hm (p := 148) (n := 70) (q := (0, 69)) (fun _ => rfl) _ (by omega)
          rw [c, en_up_eq, kl_0, ← c]
          exact ml_ch0 hm bo'.1 bo'.2 (hm.2.2.2.2.2.1 _ (by omega))
        · rw [en_up_ne _ _ _ _ (fun q => c q.2), c11]; exact q6 j (by omega)
    · have m31 : en_mem ml_tb mlX (xLay, I31, L, R) := by
        rw [e31]
        exact ml_wf m6 (by decide +kernel) (q := (0, 1)) (by decide +kernel) (by decide)
      exact hΦ I31 L R m31 (by rw [e31]; exact ml_fr f6 (by decide +kernel))
theorem mx_meetsAll {S : sm_C} {d : Nat} {Φ : sm_Z → Prop} {w0 : sm_W} (hd : 4 ≤ d) (hΦ : ∀ (I : sm_I) (L : sm_L) (R : sm_R), en_mem ml_tb mlX (xLay, I, L, R) → en_fr ml_SW w0 (xLay, I, L, R) → Φ (none, (xLay, I, L, kM R))) {I : sm_I} {L : sm_L} {R : sm_R} (hm : en_mem ml_tb mlX (xLay, I, L, R)) (hf : en_fr ml_SW w0 (xLay, I, L, R)) (ht : I 107 63 = 0) : sm_wp sm_P S (d + 1) 162 0 [.ref 107] [] (xLay, I, L, kM R) (0, 0) Φ := by
  refine u_X12_meetsAll_0 ⟨kl_in (by decide) (by decide), fun I1 e1 => ?_⟩
  have m1 : en_mem ml_tb mlX (xLay, I1, L, R) := by
    rw [e1]
    exact ml_we2 hm rfl (n := 70) (q := (0, 4)) rfl (by decide)
  have f1 : en_fr ml_SW w0 (xLay, I1, L, R) := by rw [e1]; exact ml_fr hf rfl
  have o1 : ∀ p j, p ≠ 150 → I1 p j = I p j := fun p j h => by rw [e1, en_up_ne _ _ _ _ (fun c => h c.1)]
  have z1 : I1 150 0 = 0 := by rw [e1]; exact en_up_eq _ _ _ _
  have go : ∀ (J : sm_I) (Lj : sm_L) (Rj : sm_R), en_mem ml_tb mlX (xLay, J, Lj, Rj) → en_fr ml_SW w0 (xLay, J, Lj, Rj) → J 107 63 = 0 → J 150 0 = 0 → sm_wp sm_P S (d + 1) 162 2 [.ref 107, .int (0 : Int32)] [] (xLay, J, Lj, kM Rj) (0, 0) Φ := by
    intro J Lj Rj mJ fJ tJ zJ
    have bi : 0 ≤ (J 107 59).toInt ∧ (J 107 59).toInt ≤ 70 := mJ.2.1 107 59 (0, 70) (by decide +kernel)
    refine mx_meetsAll2 hd hΦ 2002 J Lj Rj 0 mJ fJ (by decide) (by rw [kl_0]; omega) (by rw [tJ]; decide) (fun j hj => ?_) (by rw [tJ, kl_0]; omega)
    have hj0 : j = 0 := by rw [kl_0] at hj; omega
    have bo : 0 ≤ (J 148 j).toInt ∧ (J 148 j).toInt ≤ 69 := ml_row mJ (p := 148) (n := 70) (q := (0, 69)) (fun _ => rfl) _ (by omega)
    rw [show J 150 j = 0 by rw [hj0]; exact zJ, kl_0]
    exact ml_ch0 mJ bo.1 bo.2 (mJ.2.2.2.2.2.1 _ (by omega))
  refine ⟨fun _ => ?_, fun _ => go I1 L R m1 f1 (by rw [o1 _ _ (by decide), ht]) z1⟩
  refine ml_cv (c := mlc_12) mlh_12 (Nat.zero_le _) ⟨⟨rfl, rfl⟩, ⟨rfl, by decide, by decide⟩, trivial⟩ m1 ml_pf0 rfl (fun I2 L2 R2 m2 f2 => ?_)
  have o2 : ∀ p j, ¬ (p = 107 ∧ 90 ≤ j) → I2 p j = I1 p j := fun p j h => ml_g f2 (ml_90 h)
  exact go I2 L2 R2 m2 (ml_frt f1 f2 (by decide +kernel)) (by rw [o2 _ _ (by omega), o1 _ _ (by decide), ht]) (by rw [o2 _ _ (by omega), z1])
theorem mx_isPerson {S : sm_C} {d : Nat} {Φ : sm_Z → Prop} {I : sm_I} {L : sm_L} {R : sm_R} {x : Int32} (hm : en_mem ml_tb mlX (xLay, I, L, R)) (h : ∀ r : Int32, (r = 0 ∨ (0 ≤ x.toInt ∧ x.toInt ≤ 3)) → Φ (some (.int r), (xLay, I, L, kM R))) : sm_wp sm_P S (d + 1) 148 0 [.ref 107, .int x] [] (xLay, I, L, kM R) (0, 0) Φ := by
  obtain ⟨l0, l1, ln, lc⟩ := ml_live hm
  have l0 : 0 ≤ (I 107 18).toInt := l0
  have l1 : (I 107 18).toInt ≤ 1 := l1
  have ln : ((I 107 18).toNatClampNeg : Int) = (I 107 18).toInt := ln
  have b : 0 ≤ (I 118 (I 107 18).toNatClampNeg).toInt ∧ (I 118 (I 107 18).toNatClampNeg).toInt ≤ 4 := ml_row hm (p := 118) (n := 2) (q := (0, 4)) (fun _ => rfl) _ (by omega)
  refine u_X12_isPerson_0 ⟨kl_in l0 (by omega), fun n1 e1 => mx_in (fun r hr h2 => ⟨r, I, L, R, rfl, hr, h r ?_⟩)⟩
  rcases h2 with h2 | h2
  · exact Or.inl h2
  · refine Or.inr ?_
    have s : n1.toInt = (I 118 (I 107 18).toNatClampNeg).toInt - 1 := by
      rw [e1, Int32.toInt_sub, kl_1]; exact en_bmod (by omega) (by omega) (Or.inl rfl)
    rw [s, kl_0] at h2
    omega
theorem mlh_13 {Sc : sm_C} : en_hold ml_tb mlX sm_P Sc mlc_13 := by
  intro d hd vs w hv hm _
  obtain ⟨vs1, rfl, hv1⟩ := kl_vr (q := 107) rfl hv
  obtain ⟨x1, vs2, rfl, b1, hv2⟩ := kl_vi hv1
  obtain ⟨x2, vs3, rfl, b2, hv3⟩ := kl_vi hv2
  obtain ⟨x3, vs4, rfl, b3, hv4⟩ := kl_vi hv3
  obtain rfl := kl_v0 hv4
  have hd : 9 ≤ d := hd
  obtain ⟨d, rfl⟩ : ∃ d', d = d' + 1 + 1 := ⟨d - 2, by omega⟩
  refine ml_top hm (fun I L R hw hm => ?_)
  have fin : ∀ (r : Int32) (I2 : sm_I) (L2 : sm_L) (R2 : sm_R), en_mem ml_tb mlX (xLay, I2, L2, R2) → en_fr ml_SW (xLay, I, L, R) (xLay, I2, L2, R2) → ∃ (o : Option Value) (I3 : sm_I) (L3 : sm_L) (R3 : sm_R), ((some (.int r) : Option Value), ((xLay, I2, L2, kM R2) : sm_W)) = (o, (xLay, I3, L3, kM R3)) ∧ en_pr mlc_13.2.2.2.1 o ∧ en_mem ml_tb mlX (xLay, I3, L3, R3) ∧ en_fr mlc_13.2.2.2.2.1 (xLay, I, L, R) (xLay, I3, L3, R3) := fun r I2 L2 R2 m f => ⟨_, I2, L2, R2, rfl, Or.inl ⟨rfl, en_crange.1, en_crange.2⟩, m, f⟩
  refine u_X12_been_0 (mx_isPerson hm (fun r hr => ⟨r, I, L, R, rfl, fun _ => fin _ _ _ _ hm en_fr_rf, fun hr1 => ?_⟩))
  have a1 := hr.resolve_left hr1
  obtain ⟨l0, l1, ln, lc⟩ := ml_live hm
  have l0 : 0 ≤ (I 107 18).toInt := l0
  have l1 : (I 107 18).toInt ≤ 1 := l1
  have ln : ((I 107 18).toNatClampNeg : Int) = (I 107 18).toInt := ln
  have bp : 0 ≤ (I 119 (I 107 18).toNatClampNeg).toInt ∧ (I 119 (I 107 18).toNatClampNeg).toInt ≤ 6 := ml_row hm (p := 119) (n := 2) (q := (0, 6)) (fun _ => rfl) _ (by omega)
  refine ⟨kl_in l0 (by omega), fun n5 e5 => mx_in (fun r9 _ h9 => ⟨r9, I, L, R, rfl, fun _ => fin _ _ _ _ hm en_fr_rf, fun hr9 => ?_⟩)⟩
  have s5 : n5.toInt = (I 119 (I 107 18).toNatClampNeg).toInt - 1 := by
    rw [e5, Int32.toInt_sub, kl_1]; exact en_bmod (by omega) (by omega) (Or.inl rfl)
  have a2 := h9.resolve_left hr9
  rw [kl_0] at a2
  refine mx_oneMore a1 (by omega) hm en_fr_rf (fun I10 L10 R10 m10 f10 t10 => ⟨I10, L10, R10, rfl, fun I14 e14 => ?_⟩)
  have m14 : en_mem ml_tb mlX (xLay, I14, L10, R10) := by
    rw [e14]
    exact ml_wf m10 (by decide +kernel) (q := (0, 1)) (by decide +kernel) (by decide)
  have f14 : en_fr ml_SW (xLay, I, L, R) (xLay, I14, L10, R10) := by rw [e14]; exact ml_fr f10 (by decide +kernel)
  have t14 : I14 107 63 = 0 := by rw [e14, en_up_ne _ _ _ _ (by omega), t10]
  obtain ⟨k0, k1, kn, kc⟩ := ml_live m14
  have k0 : 0 ≤ (I14 107 18).toInt := k0
  have k1 : (I14 107 18).toInt ≤ 1 := k1
  have kn : ((I14 107 18).toNatClampNeg : Int) = (I14 107 18).toInt := kn
  have bt : 0 ≤ (I14 122 (I14 107 18).toNatClampNeg).toInt ∧ (I14 122 (I14 107 18).toNatClampNeg).toInt ≤ 10 := ml_row m14 (p := 122) (n := 2) (q := (0, 10)) (fun _ => rfl) _ (by omega)
  refine ⟨kl_in k0 (by omega), fun n15 e15 => ?_⟩
  have s15 : n15.toInt = (I14 122 (I14 107 18).toNatClampNeg).toInt + 2 := by rw [e15]; exact ml_ad rfl (by decide) (by omega) (by omega)
  refine ml_ci (c := mlc_5) mlh_5 (by show 4 ≤ d + 1; omega) ⟨⟨rfl, rfl⟩, ⟨rfl, (by omega : (1 : Int) ≤ n15.toInt), (by omega : n15.toInt ≤ (12 : Int))⟩, trivial⟩ m14 ml_pf0 rfl (fun r19 I16 L16 R16 q0 q1 m16 f16 => ?_)
  have hf16 : en_fr ml_SW (xLay, I, L, R) (xLay, I16, L16, R16) := ml_frt f14 f16 (by decide +kernel)
  refine ⟨fun _ => ⟨fun _ => ⟨fun _ => fin _ _ _ _ m16 hf16, fun _ => ⟨fun _ => fin _ _ _ _ m16 hf16, fun _ => fin _ _ _ _ m16 hf16⟩⟩, fun _ => fin _ _ _ _ m16 hf16⟩, fun _ => ?_⟩
  refine mx_meetsAll (by omega) (fun I23 L23 R23 m23 hf23 => ⟨I23, L23, R23, rfl, fun _ => ⟨fun _ => fin _ _ _ _ m23 hf23, fun _ => ⟨fun _ => fin _ _ _ _ m23 hf23, fun _ => fin _ _ _ _ m23 hf23⟩⟩, fun _ => fin _ _ _ _ m23 hf23⟩) m16 hf16 (by rw [ml_g f16 (by decide), t14])
