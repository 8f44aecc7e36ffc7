/-! the reference's contracts with what was gone through (wip/pe/mkYm.py) -/
section
variable {c48 : Nat → Int64}
theorem mx_open13Wq {S : sm_C} {d : Nat} {Φ : sm_Z → Prop} {I0 : sm_I} {L0 L : sm_L} {R : sm_R} {x2 x3 x4 x5 : Int32} {l s : Nat} (hls : ml_ls l s) (m0 : en_mem ml_tb3 (mlW c48) (xLay, I0, L0, R)) (T0 : ml_TI l s I0) (ho : (I0 134 s).toInt ≤ 3) (b2 : -1 ≤ x2.toInt ∧ x2.toInt ≤ 9) (b3 : 0 ≤ x3.toInt ∧ x3.toInt ≤ 500) (b4 : -1 ≤ x4.toInt ∧ x4.toInt ≤ 9) (b5 : 240 + 4 * (s : Int) ≤ x5.toInt ∧ x5.toInt ≤ 243 + 4 * (s : Int)) (h : ∀ (J : sm_I) (L' : sm_L), ml_okWq (c48 := c48) l s R I0 J L' → Φ (none, (xLay, J, L', kM R))) : ∀ (m : Nat) (I : sm_I) (x6 : Int32), en_mem ml_tb3 (mlW c48) (xLay, I, L, R) → ml_pS (ml_D0 l) I0 I → ml_pg I0 I → (I 134 s = I0 134 s) → 240 ≤ x6.toInt → x5.toInt - x6.toInt ≤ m → sm_wp sm_P S (d + 4) 198 13 [.ref 107, .int x2, .int x3, .int x4, .int x5, .int x6] [] (xLay, I, L, kM R) (0, 0) Φ := by
  obtain ⟨hl, hs⟩ := ml_l1 hls
  have hls0 := hls
  unfold ml_ls at hls0
  have n5 := kl_nat (i := x5) (by omega)
  have v5 : vp_in x5 260 := kl_in (by omega) (by omega)
  have live : ∀ J : sm_I, ml_pS (ml_D0 l) I0 J → (J 107 18).toInt = l := fun J pJ => by rw [pJ.1 107 18 (by unfold ml_D0 ml_hm; omega) (by omega)]; exact T0.1
  have TI : ∀ J : sm_I, ml_pS (ml_D0 l) I0 J → ml_TI l s J := fun J pJ => ml_TI_0Wq hls m0 pJ T0
  have END : ∀ I : sm_I, en_mem ml_tb3 (mlW c48) (xLay, I, L, R) → ml_pS (ml_D0 l) I0 I → ml_pg I0 I → (I 134 s = I0 134 s) → (vp_in x5 260) ∧ ∀ I1 : sm_I, I1 = (sm_up I 130 x5.toNatClampNeg x2) → (vp_in x5 260) ∧ ∀ I2 : sm_I, I2 = (sm_up I1 131 x5.toNatClampNeg x4) → sm_wp sm_P S (d + 3) 169 0 [.ref 107, .int (0 : Int32)] [] (xLay, I2, L, (kM R)) (0, 0) (fun z => ∃ (r6 : Int32) (I3 : sm_I) (L4 : sm_L) (R5 : sm_R), z = (some (.int r6), (xLay, I3, L4, (kM R5))) ∧ (vp_in x5 260) ∧ ∀ I7 : sm_I, I7 = (sm_up I3 132 x5.toNatClampNeg r6) → sm_wp sm_P S (d + 3) 169 0 [.ref 107, .int (0 : Int32)] [] (xLay, I7, L4, (kM R5)) (0, 0) (fun z => ∃ (r11 : Int32) (I8 : sm_I) (L9 : sm_L) (R10 : sm_R), z = (some (.int r11), (xLay, I8, L9, (kM R10))) ∧ (vp_in x5 260) ∧ ∀ I12 : sm_I, I12 = (sm_up I8 133 x5.toNatClampNeg r11) → sm_wp sm_P S (d + 3) 165 0 [.ref 107, .int (4 : Int32)] [] (xLay, I12, L9, (kM R10)) (0, 0) (fun z => ∃ (I13 : sm_I) (L14 : sm_L) (R15 : sm_R), z = (none, (xLay, I13, L14, (kM R15))) ∧ (((I13 107 13) ≤ 0 → ((x2 = (-1 : Int32) → (vp_in (I13 107 19) 2) ∧ ∀ n17 : Int32, n17 = ((I13 134 (I13 107 19).toNatClampNeg) + (1 : Int32)) → (vp_in (I13 107 19) 2) ∧ ∀ I18 : sm_I, I18 = (sm_up I13 134 (I13 107 19).toNatClampNeg n17) → Φ (none, (xLay, I18, L14, (kM R15)))) ∧ (¬ x2 = (-1 : Int32) → ∀ n19 : Int32, n19 = (((10 : Int32) * (I13 107 19)) + x2) → (vp_in n19 20) ∧ ∀ I20 : sm_I, I20 = (sm_up I13 135 n19.toNatClampNeg x5) → (vp_in (I20 107 19) 2) ∧ ∀ n21 : Int32, n21 = ((I20 134 (I20 107 19).toNatClampNeg) + (1 : Int32)) → (vp_in (I20 107 19) 2) ∧ ∀ I22 : sm_I, I22 = (sm_up I20 134 (I20 107 19).toNatClampNeg n21) → Φ (none, (xLay, I22, L14, (kM R15)))))) ∧ (¬ (I13 107 13) ≤ 0 → Φ (none, (xLay, I13, L14, (kM R15)))))))) := by
    intro I hm hp hg h134
    refine ⟨v5, fun I1 e1 => ⟨v5, fun I2 e2 => ?_⟩⟩
    have w1 := ml_w0Wq (L := L) (R := R) (l := l) (p := 130) (j := x5.toNatClampNeg) (x := x2) (n := 260) (q := (-1, 9)) hl (live I hp) (by unfold ml_D0 ml_hm; omega) hm rfl b2
    rw [← e1] at w1
    have p1 := ml_pS_tr hp w1.2
    have w2 := ml_w0Wq (L := L) (R := R) (l := l) (p := 131) (j := x5.toNatClampNeg) (x := x4) (n := 260) (q := (-1, 9)) hl (live I1 p1) (by unfold ml_D0 ml_hm; omega) w1.1 rfl b4
    rw [← e2] at w2
    have p2 := ml_pS_tr p1 w2.2
    refine mx_numberWq w2.1 (fun r6 I3 m3 p3 => ⟨r6, I3, L, R, rfl, v5, fun I7 e7 => ?_⟩)
    have p3' := ml_pS_tr p2 (ml_pS_no p3)
    have w7 := ml_w0Wq (L := L) (R := R) (l := l) (p := 132) (j := x5.toNatClampNeg) (x := r6) (n := 260) (q := (-2147483648, 2147483647)) hl (live I3 p3') (by unfold ml_D0 ml_hm; omega) m3 rfl en_crange
    rw [← e7] at w7
    have p7 := ml_pS_tr p3' w7.2
    refine mx_numberWq w7.1 (fun r11 I8 m8 p8 => ⟨r11, I8, L, R, rfl, v5, fun I12 e12 => ?_⟩)
    have p8' := ml_pS_tr p7 (ml_pS_no p8)
    have w12 := ml_w0Wq (L := L) (R := R) (l := l) (p := 133) (j := x5.toNatClampNeg) (x := r11) (n := 260) (q := (-2147483648, 2147483647)) hl (live I8 p8') (by unfold ml_D0 ml_hm; omega) m8 rfl en_crange
    rw [← e12] at w12
    have p12 := ml_pS_tr p8' w12.2
    have g12 : ml_pg I0 I12 := ml_pg_tr (ml_pg_tr (ml_pg_tr (ml_pg_tr (ml_pg_tr (ml_pg_tr hg w1.2) w2.2) p3) w7.2) p8) w12.2
    have o134 : I12 134 s = I0 134 s := by
      rw [e12, en_up_ne _ _ _ _ (by omega), ml_pS_g p8 (by omega), e7, en_up_ne _ _ _ _ (by omega), ml_pS_g p3 (by omega), e2, en_up_ne _ _ _ _ (by omega), e1, en_up_ne _ _ _ _ (by omega), h134]
    refine mx_mustWq w12.1 (fun I13 m13 p13 => ⟨I13, L, R, rfl, fun _ => ?_, fun _ => ?_⟩)
    all_goals
      have pI := ml_pS_tr p12 (ml_pS_no p13)
      have g13 : ml_pg I0 I13 := ml_pg_tr g12 p13
    · obtain ⟨sn, sv⟩ := ml_sn hls (TI I13 pI)
      have q134 : I13 134 s = I0 134 s := by rw [ml_pS_g p13 (by omega)]; exact o134
      have b134 : 0 ≤ (I13 134 s).toInt ∧ (I13 134 s).toInt ≤ 4 := ml_rowWq m13 (p := 134) (n := 2) (q := (0, 4)) (fun _ => rfl) _ (by omega)
      have cnt : ∀ (J K : sm_I) (n : Int32), en_mem ml_tb3 (mlW c48) (xLay, J, L, R) → ml_pS (ml_D0 l) I0 J → ml_pg I0 J → J 134 s = I0 134 s → n = J 134 s + 1 → K = sm_up J 134 s n → Φ (none, (xLay, K, L, kM R)) := by
        intro J K n mJ pJ gJ qJ en eK
        rw [q134] at b134
        have sn' : n.toInt = (I0 134 s).toInt + 1 := by rw [en, qJ]; exact ml_in1 (by omega)
        have w := ml_w0Wq (L := L) (R := R) (l := l) (p := 134) (j := s) (x := n) (n := 2) (q := (0, 4)) hl (live J pJ) (by unfold ml_D0 ml_hm; omega) mJ rfl (by show 0 ≤ _ ∧ _ ≤ (4 : Int); omega)
        rw [← eK] at w
        exact h K L ⟨w.1, ml_D0l hl (ml_pS_tr pJ w.2), TI K (ml_pS_tr pJ w.2), ml_pg_tr gJ w.2⟩
      refine ⟨fun _ => ⟨sv, fun n17 e17 => ⟨sv, fun I18 e18 => ?_⟩⟩, fun c2 n19 e19 => ?_⟩
      · rw [sn] at e17 e18
        exact cnt I13 I18 n17 m13 pI g13 q134 e17 e18
      · have c2 := ml_m1 c2
        have hls' := hls
        unfold ml_ls at hls'
        have q1 : ((10 : Int32) * (I13 107 19)).toInt = 10 * (s : Int) := ml_mu (by decide) (TI I13 pI).2.1 (by omega) (by omega)
        have q2 : n19.toInt = 10 * (s : Int) + x2.toInt := by rw [e19]; exact ml_ad q1 rfl (by omega) (by omega)
        have n19n := kl_nat (i := n19) (by omega)
        refine ⟨kl_in (by omega) (by omega), fun I20 e20 => ?_⟩
        have w20 := ml_w0Wq (L := L) (R := R) (l := l) (p := 135) (j := n19.toNatClampNeg) (x := x5) (n := 20) (q := (-1, 247)) hl (live I13 pI) (by unfold ml_D0 ml_hm; omega) m13 rfl (by show (-1 : Int) ≤ _ ∧ _ ≤ (247 : Int); omega)
        rw [← e20] at w20
        have p20 := ml_pS_tr pI w20.2
        obtain ⟨sn2, sv2⟩ := ml_sn hls (TI I20 p20)
        refine ⟨sv2, fun n21 e21 => ⟨sv2, fun I22 e22 => ?_⟩⟩
        rw [sn2] at e21 e22
        exact cnt I20 I22 n21 w20.1 p20 (ml_pg_tr g13 w20.2) (by rw [e20, en_up_ne _ _ _ _ (by omega)]; exact q134) e21 e22
    · exact h I13 L ⟨m13, ml_D0l hl pI, TI I13 pI, g13⟩
  intro m
  induction m with
  | zero =>
    intro I x6 hm hp hg h134 h6 hM
    refine u_X12_tellOpen_13 ⟨fun _ => END I hm hp hg h134, fun a => ?_⟩
    have := kl_nle a
    omega
  | succ m ih =>
    intro I x6 hm hp hg h134 h6 hM
    refine u_X12_tellOpen_13 ⟨fun _ => END I hm hp hg h134, fun a => ⟨fun _ => ⟨fun _ => END I hm hp hg h134, fun _ => ?_⟩, fun _ => END I hm hp hg h134⟩⟩
    have a := kl_nle a
    have s6 := ml_in1 (x := x6) (by omega)
    refine ⟨kl_in (by omega) (by omega), fun _ => ?_, fun _ => ih I _ hm hp hg h134 (by omega) (by omega)⟩
    refine mx_wrongWq (by decide) (by decide) b3.1 (by omega) hm (fun J mJ pJ _ => ⟨J, L, R, rfl, ih J _ mJ (ml_pS_tr hp (ml_pS_no pJ)) (ml_pg_tr hg pJ) (by rw [ml_pS_g pJ (by omega)]; exact h134) (by omega) (by omega)⟩)
theorem mx_tellOpenWq {S : sm_C} {d : Nat} {Φ : sm_Z → Prop} {I : sm_I} {L : sm_L} {R : sm_R} {l s : Nat} (hls : ml_ls l s) (hm : en_mem ml_tb3 (mlW c48) (xLay, I, L, R)) (hT : ml_TI l s I) (ho : (I 134 s).toInt ≤ 3) (h : ∀ (J : sm_I) (L' : sm_L), ml_okWq (c48 := c48) l s R I J L' → Φ (none, (xLay, J, L', kM R))) : sm_wp sm_P S (d + 4) 198 0 [.ref 107] [] (xLay, I, L, kM R) (0, 0) Φ := by
  obtain ⟨hl, hs⟩ := ml_l1 hls
  have hls' := hls
  unfold ml_ls at hls'
  have b134 : 0 ≤ (I 134 s).toInt ∧ (I 134 s).toInt ≤ 4 := ml_rowWq hm (p := 134) (n := 2) (q := (0, 4)) (fun _ => rfl) _ (by omega)
  have g12 : ∀ (x2 x3 x4 x5 : Int32) (J : sm_I), en_mem ml_tb3 (mlW c48) (xLay, J, L, R) → ml_pS ml_no I J → ml_pg I J → (-1 ≤ x2.toInt ∧ x2.toInt ≤ 9) → (0 ≤ x3.toInt ∧ x3.toInt ≤ 500) → (-1 ≤ x4.toInt ∧ x4.toInt ≤ 9) → (240 + 4 * (s : Int) ≤ x5.toInt ∧ x5.toInt ≤ 243 + 4 * (s : Int)) → sm_wp sm_P S (d + 4) 198 12 [.ref 107, .int x2, .int x3, .int x4, .int x5] [] (xLay, J, L, kM R) (0, 0) Φ := by
    intro x2 x3 x4 x5 J mJ pJ gJ b2 b3 b4 b5
    refine u_X12_tellOpen_12 (fun n1 e1 => ?_)
    have q1 : ((4 : Int32) * (J 107 19)).toInt = 4 * (s : Int) := ml_mu (by decide) (ml_TI_noWq hls hm pJ hT).2.1 (by omega) (by omega)
    have q2 : n1.toInt = 240 + 4 * (s : Int) := by rw [e1]; exact ml_ad (by decide) q1 (by omega) (by omega)
    exact mx_open13Wq hls hm hT ho b2 b3 b4 b5 h 8 J n1 mJ (ml_pS_no pJ) gJ (ml_pS_g pJ (by omega)) (by omega) (by omega)
  have g7 : ∀ (x2 x3 x4 x5 : Int32) (J : sm_I), en_mem ml_tb3 (mlW c48) (xLay, J, L, R) → ml_pS ml_no I J → ml_pg I J → (-1 ≤ x2.toInt ∧ x2.toInt ≤ 9) → (0 ≤ x3.toInt ∧ x3.toInt ≤ 500) → (-1 ≤ x4.toInt ∧ x4.toInt ≤ 9) → (240 + 4 * (s : Int) ≤ x5.toInt ∧ x5.toInt ≤ 243 + 4 * (s : Int)) → sm_wp sm_P S (d + 4) 198 7 [.ref 107, .int x2, .int x3, .int x4, .int x5] [] (xLay, J, L, kM R) (0, 0) Φ := by
    intro x2 x3 x4 x5 J mJ pJ gJ b2 b3 b4 b5
    have go := g12 x2 x3 x4 x5 J mJ pJ gJ b2 b3 b4 b5
    have wr : sm_wp sm_P S (d + 3) 213 0 [.ref 107, .int (5 : Int32), .int x3] [] (xLay, J, L, (kM R)) (0, 0) (fun z => ∃ (I1 : sm_I) (L2 : sm_L) (R3 : sm_R), z = (none, (xLay, I1, L2, (kM R3))) ∧ sm_wp sm_P S (d + 4) 198 12 [.ref 107, .int x2, .int x3, .int x4, .int x5] [] (xLay, I1, L2, (kM R3)) (0, 0) Φ) := mx_wrongWq (by decide) (by decide) b3.1 (by omega) mJ (fun K mK pK _ => ⟨K, L, R, rfl, g12 x2 x3 x4 x5 K mK (ml_pS_tr pJ pK) (ml_pg_tr gJ pK) b2 b3 b4 b5⟩)
    refine u_X12_tellOpen_7 ⟨fun _ => ⟨fun _ => go, fun c4 => ⟨fun _ => wr, fun _ n6 e6 => ?_⟩⟩, fun _ => go⟩
    have c4 := ml_m1 c4
    have q1 : ((10 : Int32) * (J 107 19)).toInt = 10 * (s : Int) := ml_mu (by decide) (ml_TI_noWq hls hm pJ hT).2.1 (by omega) (by omega)
    have q2 : n6.toInt = 10 * (s : Int) + x4.toInt := by rw [e6]; exact ml_ad q1 rfl (by omega) (by omega)
    exact ⟨kl_in (by omega) (by omega), fun _ => go, fun _ => wr⟩
  refine u_X12_tellOpen_0 (mx_goesOnWq hm (fun J1 m1 p1 g1 => ⟨J1, L, R, rfl, mx_knownWq m1 (fun r8 J5 m5 p5 a1 a2 a3 a4 a5 => ⟨r8, J5, L, R, rfl, mx_mustWq m5 (fun J9 m9 p9 => ⟨J9, L, R, rfl, ?_⟩)⟩)⟩))
  have pI9 : ml_pS ml_no I J9 := ml_pS_tr p1 (ml_pS_tr p5 p9)
  have g9 : ml_pg I J9 := ml_pg_tr g1 (ml_pS_tr p5 p9)
  have t1 : 0 ≤ (J1 107 11).toInt ∧ (J1 107 11).toInt ≤ 500 := ml_tWq m1
  have t9 : 0 ≤ (J9 107 11).toInt ∧ (J9 107 11).toInt ≤ 500 := ml_tWq m9
  have X : ∀ (y : Int32) (J : sm_I), en_mem ml_tb3 (mlW c48) (xLay, J, L, R) → ml_pS ml_no I J → ml_pg I J → (-1 ≤ y.toInt ∧ y.toInt ≤ 9) → (vp_in (J 107 19) 2) ∧ ∀ n17 : Int32, n17 = (((240 : Int32) + ((4 : Int32) * (J 107 19))) + (J 134 (J 107 19).toNatClampNeg)) → (((J 107 13) = 0 → ((r8 = (-1 : Int32) → sm_wp sm_P S (d + 4) 198 7 [.ref 107, .int r8, .int (J9 107 11), .int y, .int n17] [] (xLay, J, L, (kM R)) (0, 0) Φ) ∧ (¬ r8 = (-1 : Int32) → ∀ n18 : Int32, n18 = (((10 : Int32) * (J 107 19)) + r8) → (vp_in n18 20) ∧ (((J 135 n18.toNatClampNeg) = (-1 : Int32) → sm_wp sm_P S (d + 4) 198 7 [.ref 107, .int r8, .int (J9 107 11), .int y, .int n17] [] (xLay, J, L, (kM R)) (0, 0) Φ) ∧ (¬ (J 135 n18.toNatClampNeg) = (-1 : Int32) → sm_wp sm_P S (d + 3) 213 0 [.ref 107, .int (5 : Int32), .int (J1 107 11)] [] (xLay, J, L, (kM R)) (0, 0) (fun z => ∃ (I19 : sm_I) (L20 : sm_L) (R21 : sm_R), z = (none, (xLay, I19, L20, (kM R21))) ∧ sm_wp sm_P S (d + 4) 198 7 [.ref 107, .int r8, .int (J9 107 11), .int y, .int n17] [] (xLay, I19, L20, (kM R21)) (0, 0) Φ)))))) ∧ (¬ (J 107 13) = 0 → sm_wp sm_P S (d + 4) 198 7 [.ref 107, .int r8, .int (J9 107 11), .int y, .int n17] [] (xLay, J, L, (kM R)) (0, 0) Φ)) := by
    intro y J mJ pJ gJ hy
    have TJ := ml_TI_noWq hls hm pJ hT
    obtain ⟨sn, sv⟩ := ml_sn hls TJ
    refine ⟨sv, fun n17 e17 => ?_⟩
    rw [sn, ml_pS_g pJ (p := 134) (by omega)] at e17
    have q1 : ((4 : Int32) * (J 107 19)).toInt = 4 * (s : Int) := ml_mu (by decide) TJ.2.1 (by omega) (by omega)
    have q2 : ((240 : Int32) + ((4 : Int32) * (J 107 19))).toInt = 240 + 4 * (s : Int) := ml_ad (by decide) q1 (by omega) (by omega)
    have q3 : n17.toInt = 240 + 4 * (s : Int) + (I 134 s).toInt := by rw [e17]; exact ml_ad q2 rfl (by omega) (by omega)
    have b17 : 240 + 4 * (s : Int) ≤ n17.toInt ∧ n17.toInt ≤ 243 + 4 * (s : Int) := by omega
    have go := g7 r8 (J9 107 11) y n17 J mJ pJ gJ ⟨a1, a2⟩ t9 hy b17
    refine ⟨fun _ => ⟨fun _ => go, fun c8 n18 e18 => ?_⟩, fun _ => go⟩
    have c8 := ml_m1 c8
    have q4 : ((10 : Int32) * (J 107 19)).toInt = 10 * (s : Int) := ml_mu (by decide) TJ.2.1 (by omega) (by omega)
    have q5 : n18.toInt = 10 * (s : Int) + r8.toInt := by rw [e18]; exact ml_ad q4 rfl (by omega) (by omega)
    exact ⟨kl_in (by omega) (by omega), fun _ => go, fun _ => mx_wrongWq (by decide) (by decide) t1.1 (by omega) mJ (fun K mK pK _ => ⟨K, L, R, rfl, g7 r8 (J9 107 11) y n17 K mK (ml_pS_tr pJ pK) (ml_pg_tr gJ pK) ⟨a1, a2⟩ t9 hy b17⟩)⟩
  exact ⟨fun _ => mx_knownWq m9 (fun r16 J13 m13 p13 c1 c2 c3 c4 c5 => ⟨r16, J13, L, R, rfl, X r16 J13 m13 (ml_pS_tr pI9 p13) (ml_pg_tr g9 p13) ⟨c1, c2⟩⟩), fun _ => X 0 J9 m9 pI9 g9 (by decide)⟩
theorem mx_tellQuestionWq {S : sm_C} {d : Nat} {Φ : sm_Z → Prop} {I : sm_I} {L : sm_L} {R : sm_R} {l s : Nat} (hls : ml_ls l s) (hm : en_mem ml_tb3 (mlW c48) (xLay, I, L, R)) (hT : ml_TI l s I) (hq : (I 136 s).toInt ≤ 4) (h : ∀ (J : sm_I) (L' : sm_L), ml_okWq (c48 := c48) l s R I J L' → Φ (none, (xLay, J, L', kM R))) : sm_wp sm_P S (d + 5) 199 0 [.ref 107] [] (xLay, I, L, kM R) (0, 0) Φ := by
  obtain ⟨hl, hs⟩ := ml_l1 hls
  have hls' := hls
  unfold ml_ls at hls'
  have b := ml_csWq hs hm
  refine u_X12_tellQuestion_0 (mx_goesOnWq hm (fun J1 m1 p1 g1 => ⟨J1, L, R, rfl, mx_namedWq m1 (fun r8 J5 r0 r1 m5 p5 => ⟨r8, J5, L, R, rfl, mx_mustWq m5 (fun J9 m9 p9 => ⟨J9, L, R, rfl, ?_⟩)⟩)⟩))
  have pI9 : ml_pS ml_no I J9 := ml_pS_tr p1 (ml_pS_tr p5 p9)
  have g9 : ml_pg I J9 := ml_pg_tr g1 (ml_pS_tr p5 p9)
  have T9 := ml_TI_noWq hls hm pI9 hT
  have Q : ∀ J : sm_I, en_mem ml_tb3 (mlW c48) (xLay, J, L, R) → ml_pS (ml_D0 l) I J → ml_pg I J → sm_wp sm_P S (d + 4) 165 0 [.ref 107, .int (4 : Int32)] [] (xLay, J, L, (kM R)) (0, 0) (fun z => ∃ (I32 : sm_I) (L33 : sm_L) (R34 : sm_R), z = (none, (xLay, I32, L33, (kM R34))) ∧ (((I32 107 13) ≤ 0 → (vp_in (I32 107 19) 2) ∧ ∀ n36 : Int32, n36 = (I32 136 (I32 107 19).toNatClampNeg) → sm_wp sm_P S (d + 4) 155 0 [.ref 107, .int r8, .int (4 : Int32), .int n36] [] (xLay, I32, L33, (kM R34)) (0, 0) (fun z => ∃ (I37 : sm_I) (L38 : sm_L) (R39 : sm_R), z = (none, (xLay, I37, L38, (kM R39))) ∧ (vp_in (I37 107 19) 2) ∧ ∀ n41 : Int32, n41 = ((I37 136 (I37 107 19).toNatClampNeg) + (1 : Int32)) → (vp_in (I37 107 19) 2) ∧ ∀ I42 : sm_I, I42 = (sm_up I37 136 (I37 107 19).toNatClampNeg n41) → Φ (none, (xLay, I42, L38, (kM R39))))) ∧ (¬ (I32 107 13) ≤ 0 → Φ (none, (xLay, I32, L33, (kM R34)))))) := by
    intro J mJ pJ gJ
    refine mx_mustWq mJ (fun J3 m3 p3 => ⟨J3, L, R, rfl, fun _ => ?_, fun _ => ?_⟩)
    all_goals
      have pI : ml_pS (ml_D0 l) I J3 := ml_pS_tr pJ (ml_pS_no p3)
      have T3 : ml_TI l s J3 := ml_TI_0Wq hls hm pI hT
      have g3 : ml_pg I J3 := ml_pg_tr gJ p3
    · obtain ⟨sn, sv⟩ := ml_sn hls T3
      have e136 : J3 136 s = I 136 s := pI.1 136 s (by unfold ml_D0 ml_hm; omega) (by omega)
      refine ⟨sv, fun n36 e36 => ?_⟩
      rw [sn, e136] at e36
      refine mx_knowsWq r0 r1 (by decide) (by rw [e36]; omega) (fun c => absurd c (by decide)) (fun c => absurd c (by decide)) (ml_nm49Wq hls T3 m3) m3 (fun K L' mK pK nK => ⟨K, L', R, rfl, ?_⟩)
      have k19 : K 107 19 = J3 107 19 := pK.1 107 19 (by unfold ml_kn; omega) (by omega)
      rw [k19]
      refine ⟨sv, fun n41 e41 => ⟨sv, fun J' e => h J' L' ?_⟩⟩
      rw [sn] at e41 e
      exact ml_doneWq hls m3 T3 (ml_D0l hl pI) g3 mK pK nK (Or.inr (Or.inr (Or.inr (Or.inr rfl)))) (mx := 5) (by rcases hls' with ⟨-, c⟩ | ⟨-, c⟩ <;> subst c <;> rfl) e41 (by rw [e136]; omega) (by rw [e136]; omega) (by omega) e (ml_V3Wq hls m3 T3 pK (Or.inr (Or.inr rfl)) e)
    · exact h J3 L ⟨m3, ml_D0l hl pI, T3, g3⟩
  refine ⟨fun _ => ?_, fun _ => Q J9 m9 (ml_pS_no pI9) g9⟩
  obtain ⟨sn, sv⟩ := ml_sn hls T9
  refine ⟨sv, fun n27 e27 => ?_⟩
  rw [sn, ml_pS_g pI9 (p := 136) (by omega)] at e27
  have q1 : ((6 : Int32) * (J9 107 19)).toInt = 6 * (s : Int) := ml_mu (by decide) T9.2.1 (by omega) (by omega)
  have q2 : ((248 : Int32) + ((6 : Int32) * (J9 107 19))).toInt = 248 + 6 * (s : Int) := ml_ad (by decide) q1 (by omega) (by omega)
  have q3 : n27.toInt = 248 + 6 * (s : Int) + (I 136 s).toInt := by rw [e27]; exact ml_ad q2 rfl (by omega) (by omega)
  have n2 := kl_nat (i := n27) (by omega)
  refine mx_tellSpanWq hl T9.1 (by omega) (by omega) (by unfold ml_hl; omega) m9 (fun J m p _ => ⟨J, L, R, rfl, ?_⟩)
  have pJ : ml_pS (ml_D0 l) J9 J := ml_pS_mo p (fun a b c => by unfold ml_sp at c; unfold ml_D0 ml_hm; omega)
  exact Q J m (ml_pS_tr (ml_pS_no pI9) pJ) (ml_pg_tr g9 pJ)
theorem mx_tellWq {S : sm_C} {d : Nat} {Φ : sm_Z → Prop} {I : sm_I} {L : sm_L} {R : sm_R} {l s : Nat} (hls : ml_ls l s) (hm : en_mem ml_tb3 (mlW c48) (xLay, I, L, R)) (hT : ml_TI l s I) (h : ∀ (J : sm_I) (L' : sm_L), ml_okWq (c48 := c48) l s R I J L' → Φ (none, (xLay, J, L', kM R))) : sm_wp sm_P S (d + 7) 195 0 [.ref 107] [] (xLay, I, L, kM R) (0, 0) Φ := by
  obtain ⟨hl, hs⟩ := ml_l1 hls
  obtain ⟨sn, sv⟩ := ml_sn hls hT
  have b := ml_csWq hs hm
  have b120 : 0 ≤ (I 120 s).toInt ∧ (I 120 s).toInt ≤ 12 := ml_rowWq hm (p := 120) (n := 2) (q := (0, 12)) (fun _ => rfl) _ (by omega)
  have b134 : 0 ≤ (I 134 s).toInt ∧ (I 134 s).toInt ≤ 4 := ml_rowWq hm (p := 134) (n := 2) (q := (0, 4)) (fun _ => rfl) _ (by omega)
  have fin : ∀ (J : sm_I) (L' : sm_L), ml_okWq (c48 := c48) l s R I J L' → sm_wp sm_P S (d + 7) 195 30 [] [] (xLay, J, L', kM R) (0, 0) Φ := fun J L' o => u_X12_tell_30 (h J L' o)
  have bad : ∀ (J : sm_I), en_mem ml_tb3 (mlW c48) (xLay, J, L, R) → ml_pS ml_no I J → ¬ J 107 13 = 0 → sm_wp sm_P S (d + 7) 195 30 [] [] (xLay, J, L, kM R) (0, 0) Φ := fun J mJ pJ fJ => fin J L ⟨mJ, ml_pS_no pJ, ml_TI_noWq hls hm pJ hT, Or.inl fJ⟩
  have dft : sm_wp sm_P S (d + 6) 123 0 [.ref 107, .int (1 : Int32)] [] (xLay, I, L, (kM R)) (0, 0) (fun z => ∃ (I2 : sm_I) (L3 : sm_L) (R4 : sm_R), z = (none, (xLay, I2, L3, (kM R4))) ∧ sm_wp sm_P S (d + 7) 195 30 [] [] (xLay, I2, L3, (kM R4)) (0, 0) Φ) := mx_failWq (by decide) (by decide) hm (fun J mJ pJ fJ => ⟨J, L, R, rfl, bad J mJ pJ fJ⟩)
  have full : ∀ B : Nat, (∀ J : sm_I, en_mem ml_tb3 (mlW c48) (xLay, J, L, R) → ml_pS ml_no I J → ¬ J 107 13 = 0 → sm_wp sm_P S (d + 7) 195 B [.ref 107] [] (xLay, J, L, kM R) (0, 0) Φ) → sm_wp sm_P S (d + 6) 123 0 [.ref 107, .int (2 : Int32)] [] (xLay, I, L, (kM R)) (0, 0) (fun z => ∃ (I2 : sm_I) (L3 : sm_L) (R4 : sm_R), z = (none, (xLay, I2, L3, (kM R4))) ∧ sm_wp sm_P S (d + 7) 195 B [.ref 107] [] (xLay, I2, L3, (kM R4)) (0, 0) Φ) := fun B k => mx_failWq (by decide) (by decide) hm (fun J mJ pJ fJ => ⟨J, L, R, rfl, k J mJ pJ fJ⟩)
  have ne : ∀ {x k : Int32} {n : Int}, k.toInt = n → ¬ x = k → x.toInt ≠ n := fun e c q => c (en_ofI (by rw [q, e]))
  have c19 : ((I 125 s = (10 : Int32) → sm_wp sm_P S (d + 6) 123 0 [.ref 107, .int (2 : Int32)] [] (xLay, I, L, (kM R)) (0, 0) (fun z => ∃ (I2 : sm_I) (L3 : sm_L) (R4 : sm_R), z = (none, (xLay, I2, L3, (kM R4))) ∧ sm_wp sm_P S (d + 7) 195 19 [.ref 107] [] (xLay, I2, L3, (kM R4)) (0, 0) Φ)) ∧ (¬ I 125 s = (10 : Int32) → sm_wp sm_P S (d + 7) 195 19 [.ref 107] [] (xLay, I, L, (kM R)) (0, 0) Φ)) := ⟨fun _ => full 19 (fun J mJ pJ fJ => u_X12_tell_19 ⟨fun c => absurd c fJ, fun _ => bad J mJ pJ fJ⟩), fun c => u_X12_tell_19 ⟨fun _ => mx_tellSayingWq hls hm hT (by have := ne (n := 10) (by decide) c; omega) (fun J L' o => ⟨J, L', R, rfl, fin J L' o⟩), fun f => bad I hm ml_pS_rf f⟩⟩
  refine u_X12_tell_0 ⟨ml_vtWq hm, fun n1 _ => ?_⟩
  rw [sn]
  refine ⟨fun _ => ⟨sv, fun _ => full 3 (fun J mJ pJ fJ => u_X12_tell_3 ⟨fun c => absurd c fJ, fun _ => bad J mJ pJ fJ⟩), fun c => u_X12_tell_3 ⟨fun _ => mx_tellNameWq hls hm hT (Or.inl ⟨rfl, by have := ne (n := 4) (by decide) c; omega⟩) (fun J L' o => ⟨J, L', R, rfl, fin J L' o⟩), fun f => bad I hm ml_pS_rf f⟩⟩, fun _ => ?_⟩
  refine ⟨fun _ => ⟨sv, fun _ => full 7 (fun J mJ pJ fJ => u_X12_tell_7 ⟨fun c => absurd c fJ, fun _ => bad J mJ pJ fJ⟩), fun c => u_X12_tell_7 ⟨fun _ => mx_tellNameWq hls hm hT (Or.inr ⟨rfl, by have := ne (n := 6) (by decide) c; omega⟩) (fun J L' o => ⟨J, L', R, rfl, fin J L' o⟩), fun f => bad I hm ml_pS_rf f⟩⟩, fun _ => ?_⟩
  refine ⟨fun _ => ⟨sv, fun _ => full 11 (fun J mJ pJ fJ => u_X12_tell_11 ⟨fun c => absurd c fJ, fun _ => bad J mJ pJ fJ⟩), fun c => u_X12_tell_11 ⟨fun _ => mx_tellWayWq hls hm hT (by have := ne (n := 12) (by decide) c; omega) (fun J L' o => ⟨J, L', R, rfl, fin J L' o⟩), fun f => bad I hm ml_pS_rf f⟩⟩, fun _ => ?_⟩
  refine ⟨fun _ => ⟨sv, fun _ => full 15 (fun J mJ pJ fJ => u_X12_tell_15 ⟨fun c => absurd c fJ, fun _ => bad J mJ pJ fJ⟩), fun c => u_X12_tell_15 ⟨fun _ => mx_tellTimeWq hls hm hT (by have := ne (n := 10) (by decide) c; omega) (fun J L' o => ⟨J, L', R, rfl, fin J L' o⟩), fun f => bad I hm ml_pS_rf f⟩⟩, fun _ => ?_⟩
  refine ⟨fun _ => dft, fun _ => ⟨fun _ => dft, fun _ => ⟨fun _ => ⟨sv, c19⟩, fun _ => ⟨fun _ => ⟨sv, c19⟩, fun _ => ⟨fun _ => dft, fun _ => ⟨fun _ => dft, fun _ => ⟨fun _ => dft, fun _ => ⟨fun _ => dft, fun _ => ?_⟩⟩⟩⟩⟩⟩⟩⟩
  refine ⟨fun _ => ⟨sv, fun _ => full 23 (fun J mJ pJ fJ => u_X12_tell_23 ⟨fun c => absurd c fJ, fun _ => bad J mJ pJ fJ⟩), fun c => u_X12_tell_23 ⟨fun _ => mx_tellOpenWq hls hm hT (by have := ne (n := 4) (by decide) c; omega) (fun J L' o => ⟨J, L', R, rfl, fin J L' o⟩), fun f => bad I hm ml_pS_rf f⟩⟩, fun _ => ?_⟩
  refine ⟨fun _ => ⟨sv, fun _ => full 27 (fun J mJ pJ fJ => u_X12_tell_27 ⟨fun c => absurd c fJ, fun _ => bad J mJ pJ fJ⟩), fun c => u_X12_tell_27 ⟨fun _ => mx_tellQuestionWq hls hm hT (by have := ne (n := 5) (by decide) c; omega) (fun J L' o => ⟨J, L', R, rfl, fin J L' o⟩), fun f => bad I hm ml_pS_rf f⟩⟩, fun _ => dft⟩
theorem ml_szWq {I : sm_I} {L : sm_L} {R : sm_R} (hm : en_mem ml_tb3 (mlW c48) (xLay, I, L, R)) : 0 ≤ (I 107 4).toInt ∧ (I 107 4).toInt ≤ 2000 := hm.2.1 107 4 (0, 2000) (by decide +kernel)
theorem ml_tkWq {I : sm_I} {L : sm_L} {R : sm_R} (hm : en_mem ml_tb3 (mlW c48) (xLay, I, L, R)) : 0 ≤ (I 107 10).toInt ∧ (I 107 10).toInt ≤ 501 := hm.2.1 107 10 (0, 501) (by decide +kernel)
theorem mx_byteAtWq {S : sm_C} {d : Nat} {Φ : sm_Z → Prop} {I : sm_I} {L : sm_L} {R : sm_R} {x : Int32} (h0 : 0 ≤ x.toInt) (hm : en_mem ml_tb3 (mlW c48) (xLay, I, L, R)) (h : Φ (some (.int (ml_by I x)), (xLay, I, L, kM R))) : sm_wp sm_P S d 108 0 [.ref 107, .int x] [] (xLay, I, L, kM R) (0, 0) Φ := by
  have b := ml_szWq hm
  unfold ml_by at h
  refine u_X12_byteAt_0 ⟨fun a => ?_, fun a => ⟨?_, ?_⟩⟩
  · rw [if_pos a] at h; exact h
  · have := kl_nle a
    exact kl_in h0 (by omega)
  · rw [if_neg a] at h; exact h
theorem mx_tokenWq {S : sm_C} {d : Nat} {Φ : sm_Z → Prop} {I : sm_I} {L : sm_L} {R : sm_R} {x1 x2 x3 : Int32} {y4 : Int64} (b1 : 0 ≤ x1.toInt ∧ x1.toInt ≤ 34) (b2 : 0 ≤ x2.toInt ∧ x2.toInt ≤ 2000) (b3 : 0 ≤ x3.toInt ∧ x3.toInt ≤ 9999) (ht : (I 107 10).toInt ≤ 500) (hm : en_mem ml_tb3 (mlW c48) (xLay, I, L, R)) (h : ∀ (J : sm_I) (L' : sm_L), en_mem ml_tb3 (mlW c48) (xLay, J, L', R) → ml_cf I J → (J 107 10).toInt = (I 107 10).toInt + 1 → Φ (none, (xLay, J, L', kM R))) : sm_wp sm_P S d 204 0 [.ref 107, .int x1, .int x2, .int x3, .long y4] [] (xLay, I, L, kM R) (0, 0) Φ := by
  have bt := ml_tkWq hm
  have v : vp_in (I 107 10) 503 := kl_in bt.1 (by omega)
  refine u_X12_token_0 ⟨v, fun I1 e1 => ?_⟩
  have g1 : I1 107 10 = I 107 10 := by rw [e1, en_up_ne _ _ _ _ (by omega)]
  have m1 : en_mem ml_tb3 (mlW c48) (xLay, I1, L, R) := by rw [e1]; exact ml_we2Wq hm rfl (n := 503) (q := (0, 34)) rfl b1
  refine ⟨by rw [g1]; exact v, fun I2 e2 => ?_⟩
  rw [g1] at e2
  have g2 : I2 107 10 = I 107 10 := by rw [e2, en_up_ne _ _ _ _ (by omega), g1]
  have m2 : en_mem ml_tb3 (mlW c48) (xLay, I2, L, R) := by rw [e2]; exact ml_we2Wq m1 rfl (n := 503) (q := (0, 2000)) rfl b2
  refine ⟨by rw [g2]; exact v, fun I3 e3 => ?_⟩
  rw [g2] at e3
  have g3 : I3 107 10 = I 107 10 := by rw [e3, en_up_ne _ _ _ _ (by omega), g2]
  have m3 : en_mem ml_tb3 (mlW c48) (xLay, I3, L, R) := by rw [e3]; exact ml_we2Wq m2 rfl (n := 503) (q := (0, 9999)) rfl b3
  refine ⟨by rw [g3]; exact v, fun L4 eL I5 e5 => ?_⟩
  rw [g3] at e5
  have s := ml_in1 (x := I 107 10) (by omega)
  have m5 : en_mem ml_tb3 (mlW c48) (xLay, I5, L, R) := by
    rw [e5]
    exact ml_wfWq m3 (by decide +kernel) (q := (0, 501)) (by decide +kernel) (by show 0 ≤ _ ∧ _ ≤ (501 : Int); omega)
  refine h I5 L4 ⟨m5.1, m5.2.1, m5.2.2.1, m5.2.2.2.1, m5.2.2.2.2.1, m5.2.2.2.2.2.1, m5.2.2.2.2.2.2.1, m5.2.2.2.2.2.2.2.1, m5.2.2.2.2.2.2.2.2.1, ⟨pk_cg (L := L) (L' := L4) (fun j => by rw [eL]; exact en_up_ne _ _ _ _ (by omega)) m5.2.2.2.2.2.2.2.2.2.1, fun j => by show L4 48 j = c48 j; rw [eL, en_up_ne _ _ _ _ (by omega)]; exact m5.2.2.2.2.2.2.2.2.2.2 j⟩⟩ (fun p j hp => ?_) (by rw [e5, en_up_eq]; exact s)
  unfold ml_Dc at hp
  rw [e5, en_up_ne _ _ _ _ (by omega), e3, en_up_ne _ _ _ _ (by omega), e2, en_up_ne _ _ _ _ (by omega), e1, en_up_ne _ _ _ _ (by omega)]
theorem mx_cut1Wq {S : sm_C} {d : Nat} {Φ : sm_Z → Prop} {I0 : sm_I} {R : sm_R} (h : ∀ (J : sm_I) (L' : sm_L), en_mem ml_tb3 (mlW c48) (xLay, J, L', R) → ml_cf I0 J → Φ (none, (xLay, J, L', kM R))) : ∀ (m : Nat) (I : sm_I) (L : sm_L) (x1 : Int32), en_mem ml_tb3 (mlW c48) (xLay, I, L, R) → ml_cf I0 I → 0 ≤ x1.toInt → x1.toInt ≤ 2000 → (2000 - x1.toInt) + (501 - (I 107 10).toInt) < m → sm_wp sm_P S (d + 1) 119 1 [.ref 107, .int x1] [] (xLay, I, L, kM R) (0, 0) Φ := by
  intro m
  induction m with
  | zero =>
    intro I L x1 hm hc h0 h1 hM
    have := ml_tkWq hm
    omega
  | succ m ih =>
    intro I L x1 hm hc h0 h1 hM
    have bs := ml_szWq hm
    have bt := ml_tkWq hm
    have c500 : (500 : Int32).toInt = 500 := by decide
    refine u_X12_cut_1 ⟨fun _ => h I L hm hc, fun a => ?_⟩
    have a := kl_nlt a
    rw [c500] at a
    clear c500
    -- a token, then on
    have tok : ∀ (k v n : Int32) (y : Int64), (0 ≤ k.toInt ∧ k.toInt ≤ 34) → (0 ≤ v.toInt ∧ v.toInt ≤ 9999) → x1.toInt ≤ n.toInt → n.toInt ≤ 2000 → sm_wp sm_P S d 204 0 [.ref 107, .int k, .int x1, .int v, .long y] [] (xLay, I, L, kM R) (0, 0) (fun z => ∃ (I1 : sm_I) (L2 : sm_L) (R3 : sm_R), z = (none, (xLay, I1, L2, (kM R3))) ∧ sm_wp sm_P S (d + 1) 119 1 [.ref 107, .int n] [] (xLay, I1, L2, (kM R3)) (0, 0) Φ) := fun k v n y bk bv n0 n1 => mx_tokenWq bk ⟨h0, h1⟩ bv a hm (fun J L' mJ cJ tJ => ⟨J, L', R, rfl, ih J L' n mJ (ml_cf_tr hc cJ) (by omega) n1 (by omega)⟩)
    have w20 : ∀ (q : Nat) (x3 : Int32) (y : Int64) (x6 x7 : Int32), 0 ≤ x3.toInt → x1.toInt + x3.toInt ≤ 2000 → (0 ≤ x6.toInt ∧ x6.toInt ≤ 34) → 0 ≤ x7.toInt → 15 - x7.toInt ≤ q → sm_wp sm_P S (d + 1) 119 20 [.ref 107, .int x1, .int x3, .long y, .int x6, .int x7] [] (xLay, I, L, kM R) (0, 0) Φ := by
      intro q
      induction q with
      | zero =>
        intro x3 y x6 x7 k0 k1 b6 k7 hq
        have s : (x1 + x3).toInt = x1.toInt + x3.toInt := ml_ad rfl rfl (by omega) (by omega)
        refine u_X12_cut_20 ⟨fun _ => tok x6 0 _ y b6 (by decide) (by omega) (by omega), fun c => ?_⟩
        have c := kl_nle c
        have c15 : (15 : Int32).toInt = 15 := by decide
        rw [c15] at c
        omega
      | succ q ihq =>
        intro x3 y x6 x7 k0 k1 b6 k7 hq
        have s : (x1 + x3).toInt = x1.toInt + x3.toInt := ml_ad rfl rfl (by omega) (by omega)
        refine u_X12_cut_20 ⟨fun _ => tok x6 0 _ y b6 (by decide) (by omega) (by omega), fun c => ?_⟩
        have c := kl_nle c
        have c15 : (15 : Int32).toInt = 15 := by decide
        rw [c15] at c
        clear c15
        have s7 := ml_in1 (x := x7) (by omega)
        have s20 : ((20 : Int32) + x7).toInt = 20 + x7.toInt := ml_ad (by decide) rfl (by omega) (by omega)
        exact ⟨kl_in k7 (by omega), fun _ => ihq x3 y _ _ k0 k1 (by omega) (by omega) (by omega), fun _ => ihq x3 y _ _ k0 k1 b6 (by omega) (by omega)⟩
    have w11 : ∀ (q : Nat) (x3 : Int32) (y : Int64), 0 ≤ x3.toInt → x1.toInt + x3.toInt ≤ 2000 → 2000 - x1.toInt - x3.toInt < q → sm_wp sm_P S (d + 1) 119 11 [.ref 107, .int x1, .int x3, .long y] [] (xLay, I, L, kM R) (0, 0) Φ := by
      intro q
      induction q with
      | zero => intro x3 y k0 k1 hq; omega
      | succ q ihq =>
        intro x3 y k0 k1 hq
        have s : (x1 + x3).toInt = x1.toInt + x3.toInt := ml_ad rfl rfl (by omega) (by omega)
        refine u_X12_cut_11 (mx_byteAtWq (by omega) hm ⟨_, I, L, R, rfl, mx_isLetter (fun r8 hr => ⟨r8, I, L, R, rfl, fun _ => ⟨fun _ => ⟨fun _ => tok 1 0 _ y (by decide) (by decide) (by omega) (by omega), fun _ => w20 15 x3 y 1 0 k0 k1 (by decide) (by decide) (by decide)⟩, fun _ => ⟨fun _ => tok 3 0 _ y (by decide) (by decide) (by omega) (by omega), fun _ => w20 15 x3 y 3 0 k0 k1 (by decide) (by decide) (by decide)⟩⟩, fun c => ?_⟩)⟩)
        have lt := ml_by_lt (I := I) (x := x1 + x3) (by have := hr c; omega)
        rw [s] at lt
        have s3 := ml_in1 (x := x3) (by omega)
        exact ⟨fun _ => ihq _ _ (by omega) (by omega) (by omega), fun _ => mx_byteAtWq (by omega) hm ⟨_, I, L, R, rfl, mx_appends (fun r => ⟨r, I, L, R, rfl, ihq _ _ (by omega) (by omega) (by omega)⟩)⟩⟩
    have w27 : ∀ (q : Nat) (x3 x4 : Int32), 0 ≤ x3.toInt → x1.toInt + x3.toInt ≤ 2000 → (0 ≤ x4.toInt ∧ (x3.toInt = 0 → x4.toInt ≤ 0) ∧ (x3.toInt = 1 → x4.toInt ≤ 9) ∧ (x3.toInt = 2 → x4.toInt ≤ 99) ∧ (x3.toInt = 3 → x4.toInt ≤ 999) ∧ x4.toInt ≤ 9999) → 2000 - x1.toInt - x3.toInt < q → sm_wp sm_P S (d + 1) 119 27 [.ref 107, .int x1, .int x3, .int x4] [] (xLay, I, L, kM R) (0, 0) Φ := by
      intro q
      induction q with
      | zero => intro x3 x4 k0 k1 b4 hq; omega
      | succ q ihq =>
        intro x3 x4 k0 k1 b4 hq
        have s : (x1 + x3).toInt = x1.toInt + x3.toInt := ml_ad rfl rfl (by omega) (by omega)
        refine u_X12_cut_27 (mx_byteAtWq (by omega) hm ⟨_, I, L, R, rfl, mx_isDigit (fun r8 hr => ⟨r8, I, L, R, rfl, fun _ => ⟨fun _ => tok 2 x4 _ _ (by decide) ⟨b4.1, b4.2.2.2.2.2⟩ (by omega) (by omega), fun _ => tok 3 x4 _ _ (by decide) ⟨b4.1, b4.2.2.2.2.2⟩ (by omega) (by omega)⟩, fun c => ?_⟩)⟩)
        have dg := hr c
        have lt := ml_by_lt (I := I) (x := x1 + x3) dg.1
        rw [s] at lt
        have s3 := ml_in1 (x := x3) (by omega)
        refine ⟨fun c4 => ?_, fun c4 => mx_byteAtWq (by omega) hm ⟨_, I, L, R, rfl, fun n24 e24 => ?_⟩⟩
        · have c4 := kl_le.mp c4
          rw [(by decide : (4 : Int32).toInt = 4)] at c4
          exact ihq _ _ (by omega) (by omega) ⟨b4.1, by omega, by omega, by omega, by omega, b4.2.2.2.2.2⟩ (by omega)
        · have c4 := kl_nle c4
          rw [(by decide : (4 : Int32).toInt = 4)] at c4
          generalize ml_by I (x1 + x3) = w at dg e24
          have q1 : ((10 : Int32) * x4).toInt = 10 * x4.toInt := ml_mu (by decide) rfl (by omega) (by omega)
          have q2 : ((10 : Int32) * x4 + w).toInt = 10 * x4.toInt + w.toInt := ml_ad q1 rfl (by omega) (by omega)
          have q3 : n24.toInt = 10 * x4.toInt + w.toInt - 48 := by
            rw [e24, Int32.toInt_sub, q2, (by decide : (48 : Int32).toInt = 48)]; exact en_bmod (by omega) (by omega) (Or.inl rfl)
          clear e24 q1 q2
          exact ihq _ n24 (by omega) (by omega) ⟨by omega, by omega, by omega, by omega, by omega, by omega⟩ (by omega)
    refine mx_byteAtWq h0 hm ⟨_, I, L, R, rfl, fun lt => ?_, fun _ => mx_tokenWq (by decide) bs (by decide) a hm (fun J L' mJ cJ _ => ⟨J, L', R, rfl, h J L' mJ (ml_cf_tr hc cJ)⟩)⟩
    have lt := kl_lt.mp lt
    have s1 := ml_in1 (x := x1) (by omega)
    have on : sm_wp sm_P S (d + 1) 119 1 [.ref 107, .int (x1 + 1)] [] (xLay, I, L, kM R) (0, 0) Φ := ih I L _ hm hc (by omega) (by omega) (by omega)
    refine ⟨fun _ => on, fun _ => ⟨fun _ => on, fun _ => ⟨fun _ => on, fun _ => ⟨fun _ => on, fun _ => ?_⟩⟩⟩⟩
    refine mx_isLetter (fun r8 _ => ⟨r8, I, L, R, rfl, fun _ => mx_isDigit (fun r12 _ => ⟨r12, I, L, R, rfl, fun _ => mx_sign (fun r16 k0 k1 => ⟨r16, I, L, R, rfl, tok r16 0 _ _ ⟨k0, k1⟩ (by decide) (by omega) (by omega)⟩), fun _ => w27 2001 0 0 (by decide) (by rw [kl_0]; omega) (by decide) (by rw [kl_0]; omega)⟩), fun _ => w11 2001 0 0 (by decide) (by rw [kl_0]; omega) (by rw [kl_0]; omega)⟩)
theorem mx_cutWq {S : sm_C} {d : Nat} {Φ : sm_Z → Prop} {I : sm_I} {L : sm_L} {R : sm_R} (hm : en_mem ml_tb3 (mlW c48) (xLay, I, L, R)) (h : ∀ (J : sm_I) (L' : sm_L), en_mem ml_tb3 (mlW c48) (xLay, J, L', R) → ml_cf I J → Φ (none, (xLay, J, L', kM R))) : sm_wp sm_P S (d + 1) 119 0 [.ref 107] [] (xLay, I, L, kM R) (0, 0) Φ := by
  refine u_X12_cut_0 ?_
  refine mx_cut1Wq (I0 := I) h 2502 _ L 0 (ml_wfWq hm (by decide +kernel) (q := (0, 501)) (by decide +kernel) (by decide)) (fun p j hp => ?_) (by decide) (by decide) (by rw [en_up_eq]; decide)
  unfold ml_Dc at hp
  exact en_up_ne _ _ _ _ (by omega)
end
