section
/-! OPEN ones, questions, tell -/
theorem mx_open13 {S : sm_C} {d : Nat} {Φ : sm_Z → Prop} {I0 : sm_I} {L0 L : sm_L} {R : sm_R} {x2 x3 x4 x5 : Int32} {l s : Nat} (hls : ml_ls l s) (m0 : en_mem ml_tb mlX (xLay, I0, L0, R)) (T0 : ml_TI l s I0) (ho : (I0 134 s).toInt ≤ 3) (b2 : -1 ≤ x2.toInt ∧ x2.toInt ≤ 9) (b3 : 0 ≤ x3.toInt ∧ x3.toInt ≤ 500) (b4 : -1 ≤ x4.toInt ∧ x4.toInt ≤ 9) (b5 : 240 + 4 * (s : Int) ≤ x5.toInt ∧ x5.toInt ≤ 243 + 4 * (s : Int)) (h : ∀ (J : sm_I) (L' : sm_L), ml_ok l s R I0 J L' → Φ (none, (xLay, J, L', kM R))) : ∀ (m : Nat) (I : sm_I) (x6 : Int32), en_mem ml_tb mlX (xLay, I, L, R) → ml_pS (ml_D0 l) I0 I → ml_pg I0 I → (I 134 s = I0 134 s) → 240 ≤ x6.toInt → x5.toInt - x6.toInt ≤ m → sm_wp sm_P S (d + 4) 198 13 [.ref 107, .int x2, .int x3, .int x4, .int x5, .int x6] [] (xLay, I, L, kM R) (0, 0) Φ := by
  obtain ⟨hl, hs⟩ := ml_l1 hls
  have hls0 := hls
  unfold ml_ls at hls0
  have n5 := kl_nat (i := x5) (by omega)
  have v5 : vp_in x5 260 := kl_in (by omega) (by omega)
  have live : ∀ J : sm_I, ml_pS (ml_D0 l) I0 J → (J 107 18).toInt = l := fun J pJ => by rw [pJ.1 107 18 (by unfold ml_D0 ml_hm; omega) (by omega)]; exact T0.1
  have TI : ∀ J : sm_I, ml_pS (ml_D0 l) I0 J → ml_TI l s J := fun J pJ => ml_TI_0 hls m0 pJ T0
  have END : ∀ I : sm_I, en_mem ml_tb mlX (xLay, I, L, R) → ml_pS (ml_D0 l) I0 I → ml_pg I0 I → (I 134 s = I0 134 s) → (vp_in x5 260) ∧ ∀ I1 : sm_I, I1 = (sm_up I 130 x5.toNatClampNeg x2) → (vp_in x5 260) ∧ ∀ I2 : sm_I, I2 = (sm_up I1 131 x5.toNatClampNeg x4) → sm_wp sm_P S (d + 3) 169 0 [.ref 107, .int (0 : Int32)] [] (xLay, I2, L, (kM R)) (0, 0) (fun z => ∃ (r6 : Int32) (I3 : sm_I) (L4 : sm_L) (R5 : sm_R), z = (some (.int r6), (xLay, I3, L4, (kM R5))) ∧ (vp_in x5 260) ∧ ∀ I7 : sm_I, I7 = (sm_up I3 132 x5.toNatClampNeg r6) → sm_wp sm_P S (d + 3) 169 0 [.ref 107, .int (0 : Int32)] [] (xLay, I7, L4, (kM R5)) (0, 0) (fun z => ∃ (r11 : Int32) (I8 : sm_I) (L9 : sm_L) (R10 : sm_R), z = (some (.int r11), (xLay, I8, L9, (kM R10))) ∧ (vp_in x5 260) ∧ ∀ I12 : sm_I, I12 = (sm_up I8 133 x5.toNatClampNeg r11) → sm_wp sm_P S (d + 3) 165 0 [.ref 107, .int (4 : Int32)] [] (xLay, I12, L9, (kM R10)) (0, 0) (fun z => ∃ (I13 : sm_I) (L14 : sm_L) (R15 : sm_R), z = (none, (xLay, I13, L14, (kM R15))) ∧ (((I13 107 13) ≤ 0 → ((x2 = (-1 : Int32) → (vp_in (I13 107 19) 2) ∧ ∀ n17 : Int32, n17 = ((I13 134 (I13 107 19).toNatClampNeg) + (1 : Int32)) → (vp_in (I13 107 19) 2) ∧ ∀ I18 : sm_I, I18 = (sm_up I13 134 (I13 107 19).toNatClampNeg n17) → Φ (none, (xLay, I18, L14, (kM R15)))) ∧ (¬ x2 = (-1 : Int32) → ∀ n19 : Int32, n19 = (((10 : Int32) * (I13 107 19)) + x2) → (vp_in n19 20) ∧ ∀ I20 : sm_I, I20 = (sm_up I13 135 n19.toNatClampNeg x5) → (vp_in (I20 107 19) 2) ∧ ∀ n21 : Int32, n21 = ((I20 134 (I20 107 19).toNatClampNeg) + (1 : Int32)) → (vp_in (I20 107 19) 2) ∧ ∀ I22 : sm_I, I22 = (sm_up I20 134 (I20 107 19).toNatClampNeg n21) → Φ (none, (xLay, I22, L14, (kM R15)))))) ∧ (¬ (I13 107 13) ≤ 0 → Φ (none, (xLay, I13, L14, (kM R15)))))))) := by
    intro I hm hp hg h134
    refine ⟨v5, fun I1 e1 => ⟨v5, fun I2 e2 => ?_⟩⟩
    have w1 := ml_w0 (L := L) (R := R) (l := l) (p := 130) (j := x5.toNatClampNeg) (x := x2) (n := 260) (q := (-1, 9)) hl (live I hp) (by unfold ml_D0 ml_hm; omega) hm rfl b2
    rw [← e1] at w1
    have p1 := ml_pS_tr hp w1.2
    have w2 := ml_w0 (L := L) (R := R) (l := l) (p := 131) (j := x5.toNatClampNeg) (x := x4) (n := 260) (q := (-1, 9)) hl (live I1 p1) (by unfold ml_D0 ml_hm; omega) w1.1 rfl b4
    rw [← e2] at w2
    have p2 := ml_pS_tr p1 w2.2
    refine mx_number w2.1 (fun r6 I3 m3 p3 => ⟨r6, I3, L, R, rfl, v5, fun I7 e7 => ?_⟩)
    have p3' := ml_pS_tr p2 (ml_pS_no p3)
    have w7 := ml_w0 (L := L) (R := R) (l := l) (p := 132) (j := x5.toNatClampNeg) (x := r6) (n := 260) (q := (-2147483648, 2147483647)) hl (live I3 p3') (by unfold ml_D0 ml_hm; omega) m3 rfl en_crange
    rw [← e7] at w7
    have p7 := ml_pS_tr p3' w7.2
    refine mx_number w7.1 (fun r11 I8 m8 p8 => ⟨r11, I8, L, R, rfl, v5, fun I12 e12 => ?_⟩)
    have p8' := ml_pS_tr p7 (ml_pS_no p8)
    have w12 := ml_w0 (L := L) (R := R) (l := l) (p := 133) (j := x5.toNatClampNeg) (x := r11) (n := 260) (q := (-2147483648, 2147483647)) hl (live I8 p8') (by unfold ml_D0 ml_hm; omega) m8 rfl en_crange
    rw [← e12] at w12
    have p12 := ml_pS_tr p8' w12.2
    have g12 : ml_pg I0 I12 := ml_pg_tr (ml_pg_tr (ml_pg_tr (ml_pg_tr (ml_pg_tr (ml_pg_tr hg w1.2) w2.2) p3) w7.2) p8) w12.2
    have o134 : I12 134 s = I0 134 s := by
      rw [e12, en_up_ne _ _ _ _ (by omega), ml_pS_g p8 (by omega), e7, en_up_ne _ _ _ _ (by omega), ml_pS_g p3 (by omega), e2, en_up_ne _ _ _ _ (by omega), e1, en_up_ne _ _ _ _ (by omega), h134]
    refine mx_must w12.1 (fun I13 m13 p13 => ⟨I13, L, R, rfl, fun _ => ?_, fun _ => ?_⟩)
    all_goals
      have pI := ml_pS_tr p12 (ml_pS_no p13)
      have g13 : ml_pg I0 I13 := ml_pg_tr g12 p13
    · obtain ⟨sn, sv⟩ := ml_sn hls (TI I13 pI)
      have q134 : I13 134 s = I0 134 s := by rw [ml_pS_g p13 (by omega)]; exact o134
      have b134 : 0 ≤ (I13 134 s).toInt ∧ (I13 134 s).toInt ≤ 4 := ml_row m13 (p := 134) (n := 2) (q := (0, 4)) (fun _ => rfl) _ (by omega)
      have cnt : ∀ (J K : sm_I) (n : Int32), en_mem ml_tb mlX (xLay, J, L, R) → ml_pS (ml_D0 l) I0 J → ml_pg I0 J → J 134 s = I0 134 s → n = J 134 s + 1 → K = sm_up J 134 s n → Φ (none, (xLay, K, L, kM R)) := by
        intro J K n mJ pJ gJ qJ en eK
        rw [q134] at b134
        have sn' : n.toInt = (I0 134 s).toInt + 1 := by rw [en, qJ]; exact ml_in1 (by omega)
        have w := ml_w0 (L := L) (R := R) (l := l) (p := 134) (j := s) (x := n) (n := 2) (q := (0, 4)) hl (live J pJ) (by unfold ml_D0 ml_hm; omega) mJ rfl (by show 0 ≤ _ ∧ _ ≤ (4 : Int); omega)
        rw [← eK] at w
        exact h K L ⟨w.1, ml_D0l hl (ml_pS_tr pJ w.2), TI K (ml_pS_tr pJ w.2), ml_pg_tr gJ w.2⟩
      refine ⟨fun _ => ⟨sv, fun n17 e17 => ⟨sv, fun I18 e18 => ?_⟩⟩, fun c2 n19 e19 => ?_⟩
      · rw [sn] at e17 e18
        exact cnt I13 I18 n17 m13 pI g13 q134 e17 e18
      · have c2 := ml_m1 c2
        have hls' := hls
        unfold ml_ls at hls'
        have q1 : ((10 : Int32) * (I13 107 19)).toInt = 10 * (s : Int) := ml_mu (by decide) (TI I13 pI).2.1 (by omega) (by omega)
        have q2 : n19.toInt = 10 * (s : Int) + x2.toInt := by rw [e19]; exact ml_ad q1 rfl (by omega) (by omega)
        have n19n := kl_nat (i := n19) (by omega)
        refine ⟨kl_in (by omega) (by omega), fun I20 e20 => ?_⟩
        have w20 := ml_w0 (L := L) (R := R) (l := l) (p := 135) (j := n19.toNatClampNeg) (x := x5) (n := 20) (q := (-1, 247)) hl (live I13 pI) (by unfold ml_D0 ml_hm; omega) m13 rfl (by show (-1 : Int) ≤ _ ∧ _ ≤ (247 : Int); omega)
        rw [← e20] at w20
        have p20 := ml_pS_tr pI w20.2
        obtain ⟨sn2, sv2⟩ := ml_sn hls (TI I20 p20)
        refine ⟨sv2, fun n21 e21 => ⟨sv2, fun I22 e22 => ?_⟩⟩
        rw [sn2] at e21 e22
        exact cnt I20 I22 n21 w20.1 p20 (ml_pg_tr g13 w20.2) (by rw [e20, en_up_ne _ _ _ _ (by omega)]; exact q134) e21 e22
    · exact h I13 L ⟨m13, ml_D0l hl pI, TI I13 pI, g13⟩
  intro m
  induction m with
  | zero =>
    intro I x6 hm hp hg h134 h6 hM
    refine u_X12_tellOpen_13 ⟨fun _ => END I hm hp hg h134, fun a => ?_⟩
    have := kl_nle a
    omega
  | succ m ih =>
    intro I x6 hm hp hg h134 h6 hM
    refine u_X12_tellOpen_13 ⟨fun _ => END I hm hp hg h134, fun a => ⟨fun _ => ⟨fun _ => END I hm hp hg h134, fun _ => ?_⟩, fun _ => END I hm hp hg h134⟩⟩
    have a := kl_nle a
    have s6 := ml_in1 (x := x6) (by omega)
    refine ⟨kl_in (by omega) (by omega), fun _ => ?_, fun _ => ih I _ hm hp hg h134 (by omega) (by omega)⟩
    refine mx_wrong (by decide) (by decide) b3.1 (by omega) hm (fun J mJ pJ _ => ⟨J, L, R, rfl, ih J _ mJ (ml_pS_tr hp (ml_pS_no pJ)) (ml_pg_tr hg pJ) (by rw [ml_pS_g pJ (by omega)]; exact h134) (by omega) (by omega)⟩)
theorem mx_tellOpen {S : sm_C} {d : Nat} {Φ : sm_Z → Prop} {I : sm_I} {L : sm_L} {R : sm_R} {l s : Nat} (hls : ml_ls l s) (hm : en_mem ml_tb mlX (xLay, I, L, R)) (hT : ml_TI l s I) (ho : (I 134 s).toInt ≤ 3) (h : ∀ (J : sm_I) (L' : sm_L), ml_ok l s R I J L' → Φ (none, (xLay, J, L', kM R))) : sm_wp sm_P S (d + 4) 198 0 [.ref 107] [] (xLay, I, L, kM R) (0, 0) Φ := by
  obtain ⟨hl, hs⟩ := ml_l1 hls
  have hls' := hls
  unfold ml_ls at hls'
  have b134 : 0 ≤ (I 134 s).toInt ∧ (I 134 s).toInt ≤ 4 := ml_row hm (p := 134) (n := 2) (q := (0, 4)) (fun _ => rfl) _ (by omega)
  have g12 : ∀ (x2 x3 x4 x5 : Int32) (J : sm_I), en_mem ml_tb mlX (xLay, J, L, R) → ml_pS ml_no I J → ml_pg I J → (-1 ≤ x2.toInt ∧ x2.toInt ≤ 9) → (0 ≤ x3.toInt ∧ x3.toInt ≤ 500) → (-1 ≤ x4.toInt ∧ x4.toInt ≤ 9) → (240 + 4 * (s : Int) ≤ x5.toInt ∧ x5.toInt ≤ 243 + 4 * (s : Int)) → sm_wp sm_P S (d + 4) 198 12 [.ref 107, .int x2, .int x3, .int x4, .int x5] [] (xLay, J, L, kM R) (0, 0) Φ := by
    intro x2 x3 x4 x5 J mJ pJ gJ b2 b3 b4 b5
    refine u_X12_tellOpen_12 (fun n1 e1 => ?_)
    have q1 : ((4 : Int32) * (J 107 19)).toInt = 4 * (s : Int) := ml_mu (by decide) (ml_TI_no hls hm pJ hT).2.1 (by omega) (by omega)
    have q2 : n1.toInt = 240 + 4 * (s : Int) := by rw [e1]; exact ml_ad (by decide) q1 (by omega) (by omega)
    exact mx_open13 hls hm hT ho b2 b3 b4 b5 h 8 J n1 mJ (ml_pS_no pJ) gJ (ml_pS_g pJ (by omega)) (by omega) (by omega)
  have g7 : ∀ (x2 x3 x4 x5 : Int32) (J : sm_I), en_mem ml_tb mlX (xLay, J, L, R) → ml_pS ml_no I J → ml_pg I J → (-1 ≤ x2.toInt ∧ x2.toInt ≤ 9) → (0 ≤ x3.toInt ∧ x3.toInt ≤ 500) → (-1 ≤ x4.toInt ∧ x4.toInt ≤ 9) → (240 + 4 * (s : Int) ≤ x5.toInt ∧ x5.toInt ≤ 243 + 4 * (s : Int)) → sm_wp sm_P S (d + 4) 198 7 [.ref 107, .int x2, .int x3, .int x4, .int x5] [] (xLay, J, L, kM R) (0, 0) Φ := by
    intro x2 x3 x4 x5 J mJ pJ gJ b2 b3 b4 b5
    have go := g12 x2 x3 x4 x5 J mJ pJ gJ b2 b3 b4 b5
    have wr : sm_wp sm_P S (d + 3) 213 0 [.ref 107, .int (5 : Int32), .int x3] [] (xLay, J, L, (kM R)) (0, 0) (fun z => ∃ (I1 : sm_I) (L2 : sm_L) (R3 : sm_R), z = (none, (xLay, I1, L2, (kM R3))) ∧ sm_wp sm_P S (d + 4) 198 12 [.ref 107, .int x2, .int x3, .int x4, .int x5] [] (xLay, I1, L2, (kM R3)) (0, 0) Φ) := mx_wrong (by decide) (by decide) b3.1 (by omega) mJ (fun K mK pK _ => ⟨K, L, R, rfl, g12 x2 x3 x4 x5 K mK (ml_pS_tr pJ pK) (ml_pg_tr gJ pK) b2 b3 b4 b5⟩)
    refine u_X12_tellOpen_7 ⟨fun _ => ⟨fun _ => go, fun c4 => ⟨fun _ => wr, fun _ n6 e6 => ?_⟩⟩, fun _ => go⟩
    have c4 := ml_m1 c4
    have q1 : ((10 : Int32) * (J 107 19)).toInt = 10 * (s : Int) := ml_mu (by decide) (ml_TI_no hls hm pJ hT).2.1 (by omega) (by omega)
    have q2 : n6.toInt = 10 * (s : Int) + x4.toInt := by rw [e6]; exact ml_ad q1 rfl (by omega) (by omega)
    exact ⟨kl_in (by omega) (by omega), fun _ => go, fun _ => wr⟩
  refine u_X12_tellOpen_0 (mx_goesOn hm (fun J1 m1 p1 g1 => ⟨J1, L, R, rfl, mx_known m1 (fun r8 J5 m5 p5 a1 a2 a3 a4 a5 => ⟨r8, J5, L, R, rfl, mx_must m5 (fun J9 m9 p9 => ⟨J9, L, R, rfl, ?_⟩)⟩)⟩))
  have pI9 : ml_pS ml_no I J9 := ml_pS_tr p1 (ml_pS_tr p5 p9)
  have g9 : ml_pg I J9 := ml_pg_tr g1 (ml_pS_tr p5 p9)
  have t1 : 0 ≤ (J1 107 11).toInt ∧ (J1 107 11).toInt ≤ 500 := ml_t m1
  have t9 : 0 ≤ (J9 107 11).toInt ∧ (J9 107 11).toInt ≤ 500 := ml_t m9
  have X : ∀ (y : Int32) (J : sm_I), en_mem ml_tb mlX (xLay, J, L, R) → ml_pS ml_no I J → ml_pg I J → (-1 ≤ y.toInt ∧ y.toInt ≤ 9) → (vp_in (J 107 19) 2) ∧ ∀ n17 : Int32, n17 = (((240 : Int32) + ((4 : Int32) * (J 107 19))) + (J 134 (J 107 19).toNatClampNeg)) → (((J 107 13) = 0 → ((r8 = (-1 : Int32) → sm_wp sm_P S (d + 4) 198 7 [.ref 107, .int r8, .int (J9 107 11), .int y, .int n17] [] (xLay, J, L, (kM R)) (0, 0) Φ) ∧ (¬ r8 = (-1 : Int32) → ∀ n18 : Int32, n18 = (((10 : Int32) * (J 107 19)) + r8) → (vp_in n18 20) ∧ (((J 135 n18.toNatClampNeg) = (-1 : Int32) → sm_wp sm_P S (d + 4) 198 7 [.ref 107, .int r8, .int (J9 107 11), .int y, .int n17] [] (xLay, J, L, (kM R)) (0, 0) Φ) ∧ (¬ (J 135 n18.toNatClampNeg) = (-1 : Int32) → sm_wp sm_P S (d + 3) 213 0 [.ref 107, .int (5 : Int32), .int (J1 107 11)] [] (xLay, J, L, (kM R)) (0, 0) (fun z => ∃ (I19 : sm_I) (L20 : sm_L) (R21 : sm_R), z = (none, (xLay, I19, L20, (kM R21))) ∧ sm_wp sm_P S (d + 4) 198 7 [.ref 107, .int r8, .int (J9 107 11), .int y, .int n17] [] (xLay, I19, L20, (kM R21)) (0, 0) Φ)))))) ∧ (¬ (J 107 13) = 0 → sm_wp sm_P S (d + 4) 198 7 [.ref 107, .int r8, .int (J9 107 11), .int y, .int n17] [] (xLay, J, L, (kM R)) (0, 0) Φ)) := by
    intro y J mJ pJ gJ hy
    have TJ := ml_TI_no hls hm pJ hT
    obtain ⟨sn, sv⟩ := ml_sn hls TJ
    refine ⟨sv, fun n17 e17 => ?_⟩
    rw [sn, ml_pS_g pJ (p := 134) (by omega)] at e17
    have q1 : ((4 : Int32) * (J 107 19)).toInt = 4 * (s : Int) := ml_mu (by decide) TJ.2.1 (by omega) (by omega)
    have q2 : ((240 : Int32) + ((4 : Int32) * (J 107 19))).toInt = 240 + 4 * (s : Int) := ml_ad (by decide) q1 (by omega) (by omega)
    have q3 : n17.toInt = 240 + 4 * (s : Int) + (I 134 s).toInt := by rw [e17]; exact ml_ad q2 rfl (by omega) (by omega)
    have b17 : 240 + 4 * (s : Int) ≤ n17.toInt ∧ n17.toInt ≤ 243 + 4 * (s : Int) := by omega
    have go := g7 r8 (J9 107 11) y n17 J mJ pJ gJ ⟨a1, a2⟩ t9 hy b17
    refine ⟨fun _ => ⟨fun _ => go, fun c8 n18 e18 => ?_⟩, fun _ => go⟩
    have c8 := ml_m1 c8
    have q4 : ((10 : Int32) * (J 107 19)).toInt = 10 * (s : Int) := ml_mu (by decide) TJ.2.1 (by omega) (by omega)
    have q5 : n18.toInt = 10 * (s : Int) + r8.toInt := by rw [e18]; exact ml_ad q4 rfl (by omega) (by omega)
    exact ⟨kl_in (by omega) (by omega), fun _ => go, fun _ => mx_wrong (by decide) (by decide) t1.1 (by omega) mJ (fun K mK pK _ => ⟨K, L, R, rfl, g7 r8 (J9 107 11) y n17 K mK (ml_pS_tr pJ pK) (ml_pg_tr gJ pK) ⟨a1, a2⟩ t9 hy b17⟩)⟩
  exact ⟨fun _ => mx_known m9 (fun r16 J13 m13 p13 c1 c2 c3 c4 c5 => ⟨r16, J13, L, R, rfl, X r16 J13 m13 (ml_pS_tr pI9 p13) (ml_pg_tr g9 p13) ⟨c1, c2⟩⟩), fun _ => X 0 J9 m9 pI9 g9 (by decide)⟩
theorem mx_tellQuestion {S : sm_C} {d : Nat} {Φ : sm_Z → Prop} {I : sm_I} {L : sm_L} {R : sm_R} {l s : Nat} (hls : ml_ls l s) (hm : en_mem ml_tb mlX (xLay, I, L, R)) (hT : ml_TI l s I) (hq : (I 136 s).toInt ≤ 4) (h : ∀ (J : sm_I) (L' : sm_L), ml_ok l s R I J L' → Φ (none, (xLay, J, L', kM R))) : sm_wp sm_P S (d + 5) 199 0 [.ref 107] [] (xLay, I, L, kM R) (0, 0) Φ := by
  obtain ⟨hl, hs⟩ := ml_l1 hls
  have hls' := hls
  unfold ml_ls at hls'
  have b := ml_cs hs hm
  refine u_X12_tellQuestion_0 (mx_goesOn hm (fun J1 m1 p1 g1 => ⟨J1, L, R, rfl, mx_named m1 (fun r8 J5 r0 r1 m5 p5 => ⟨r8, J5, L, R, rfl, mx_must m5 (fun J9 m9 p9 => ⟨J9, L, R, rfl, ?_⟩)⟩)⟩))
  have pI9 : ml_pS ml_no I J9 := ml_pS_tr p1 (ml_pS_tr p5 p9)
  have g9 : ml_pg I J9 := ml_pg_tr g1 (ml_pS_tr p5 p9)
  have T9 := ml_TI_no hls hm pI9 hT
  have Q : ∀ J : sm_I, en_mem ml_tb mlX (xLay, J, L, R) → ml_pS (ml_D0 l) I J → ml_pg I J → sm_wp sm_P S (d + 4) 165 0 [.ref 107, .int (4 : Int32)] [] (xLay, J, L, (kM R)) (0, 0) (fun z => ∃ (I32 : sm_I) (L33 : sm_L) (R34 : sm_R), z = (none, (xLay, I32, L33, (kM R34))) ∧ (((I32 107 13) ≤ 0 → (vp_in (I32 107 19) 2) ∧ ∀ n36 : Int32, n36 = (I32 136 (I32 107 19).toNatClampNeg) → sm_wp sm_P S (d + 4) 155 0 [.ref 107, .int r8, .int (4 : Int32), .int n36] [] (xLay, I32, L33, (kM R34)) (0, 0) (fun z => ∃ (I37 : sm_I) (L38 : sm_L) (R39 : sm_R), z = (none, (xLay, I37, L38, (kM R39))) ∧ (vp_in (I37 107 19) 2) ∧ ∀ n41 : Int32, n41 = ((I37 136 (I37 107 19).toNatClampNeg) + (1 : Int32)) → (vp_in (I37 107 19) 2) ∧ ∀ I42 : sm_I, I42 = (sm_up I37 136 (I37 107 19).toNatClampNeg n41) → Φ (none, (xLay, I42, L38, (kM R39))))) ∧ (¬ (I32 107 13) ≤ 0 → Φ (none, (xLay, I32, L33, (kM R34)))))) := by
    intro J mJ pJ gJ
    refine mx_must mJ (fun J3 m3 p3 => ⟨J3, L, R, rfl, fun _ => ?_, fun _ => ?_⟩)
    all_goals
      have pI : ml_pS (ml_D0 l) I J3 := ml_pS_tr pJ (ml_pS_no p3)
      have T3 : ml_TI l s J3 := ml_TI_0 hls hm pI hT
      have g3 : ml_pg I J3 := ml_pg_tr gJ p3
    · obtain ⟨sn, sv⟩ := ml_sn hls T3
      have e136 : J3 136 s = I 136 s := pI.1 136 s (by unfold ml_D0 ml_hm; omega) (by omega)
      refine ⟨sv, fun n36 e36 => ?_⟩
      rw [sn, e136] at e36
      refine mx_knows r0 r1 (by decide) (by rw [e36]; omega) (fun c => absurd c (by decide)) (fun c => absurd c (by decide)) (ml_nm49 hls T3 m3) m3 (fun K L' mK pK nK => ⟨K, L', R, rfl, ?_⟩)
      have k19 : K 107 19 = J3 107 19 := pK.1 107 19 (by unfold ml_kn; omega) (by omega)
      rw [k19]
      refine ⟨sv, fun n41 e41 => ⟨sv, fun J' e => h J' L' ?_⟩⟩
      rw [sn] at e41 e
      exact ml_done hls m3 T3 (ml_D0l hl pI) g3 mK pK nK (Or.inr (Or.inr (Or.inr (Or.inr rfl)))) (mx := 5) (by rcases hls' with ⟨-, c⟩ | ⟨-, c⟩ <;> subst c <;> rfl) e41 (by rw [e136]; omega) (by rw [e136]; omega) (by omega) e (ml_V3 hls m3 T3 pK (Or.inr (Or.inr rfl)) e)
    · exact h J3 L ⟨m3, ml_D0l hl pI, T3, g3⟩
  refine ⟨fun _ => ?_, fun _ => Q J9 m9 (ml_pS_no pI9) g9⟩
  obtain ⟨sn, sv⟩ := ml_sn hls T9
  refine ⟨sv, fun n27 e27 => ?_⟩
  rw [sn, ml_pS_g pI9 (p := 136) (by omega)] at e27
  have q1 : ((6 : Int32) * (J9 107 19)).toInt = 6 * (s : Int) := ml_mu (by decide) T9.2.1 (by omega) (by omega)
  have q2 : ((248 : Int32) + ((6 : Int32) * (J9 107 19))).toInt = 248 + 6 * (s : Int) := ml_ad (by decide) q1 (by omega) (by omega)
  have q3 : n27.toInt = 248 + 6 * (s : Int) + (I 136 s).toInt := by rw [e27]; exact ml_ad q2 rfl (by omega) (by omega)
  have n2 := kl_nat (i := n27) (by omega)
  refine mx_tellSpan hl T9.1 (by omega) (by omega) (by unfold ml_hl; omega) m9 (fun J m p _ => ⟨J, L, R, rfl, ?_⟩)
  have pJ : ml_pS (ml_D0 l) J9 J := ml_pS_mo p (fun a b c => by unfold ml_sp at c; unfold ml_D0 ml_hm; omega)
  exact Q J m (ml_pS_tr (ml_pS_no pI9) pJ) (ml_pg_tr g9 pJ)
theorem mx_tell {S : sm_C} {d : Nat} {Φ : sm_Z → Prop} {I : sm_I} {L : sm_L} {R : sm_R} {l s : Nat} (hls : ml_ls l s) (hm : en_mem ml_tb mlX (xLay, I, L, R)) (hT : ml_TI l s I) (h : ∀ (J : sm_I) (L' : sm_L), ml_ok l s R I J L' → Φ (none, (xLay, J, L', kM R))) : sm_wp sm_P S (d + 7) 195 0 [.ref 107] [] (xLay, I, L, kM R) (0, 0) Φ := by
  obtain ⟨hl, hs⟩ := ml_l1 hls
  obtain ⟨sn, sv⟩ := ml_sn hls hT
  have b := ml_cs hs hm
  have b120 : 0 ≤ (I 120 s).toInt ∧ (I 120 s).toInt ≤ 12 := ml_row hm (p := 120) (n := 2) (q := (0, 12)) (fun _ => rfl) _ (by omega)
  have b134 : 0 ≤ (I 134 s).toInt ∧ (I 134 s).toInt ≤ 4 := ml_row hm (p := 134) (n := 2) (q := (0, 4)) (fun _ => rfl) _ (by omega)
  have fin : ∀ (J : sm_I) (L' : sm_L), ml_ok l s R I J L' → sm_wp sm_P S (d + 7) 195 30 [] [] (xLay, J, L', kM R) (0, 0) Φ := fun J L' o => u_X12_tell_30 (h J L' o)
  have bad : ∀ (J : sm_I), en_mem ml_tb mlX (xLay, J, L, R) → ml_pS ml_no I J → ¬ J 107 13 = 0 → sm_wp sm_P S (d + 7) 195 30 [] [] (xLay, J, L, kM R) (0, 0) Φ := fun J mJ pJ fJ => fin J L ⟨mJ, ml_pS_no pJ, ml_TI_no hls hm pJ hT, Or.inl fJ⟩
  have dft : sm_wp sm_P S (d + 6) 123 0 [.ref 107, .int (1 : Int32)] [] (xLay, I, L, (kM R)) (0, 0) (fun z => ∃ (I2 : sm_I) (L3 : sm_L) (R4 : sm_R), z = (none, (xLay, I2, L3, (kM R4))) ∧ sm_wp sm_P S (d + 7) 195 30 [] [] (xLay, I2, L3, (kM R4)) (0, 0) Φ) := mx_fail (by decide) (by decide) hm (fun J mJ pJ fJ => ⟨J, L, R, rfl, bad J mJ pJ fJ⟩)
  have full : ∀ B : Nat, (∀ J : sm_I, en_mem ml_tb mlX (xLay, J, L, R) → ml_pS ml_no I J → ¬ J 107 13 = 0 → sm_wp sm_P S (d + 7) 195 B [.ref 107] [] (xLay, J, L, kM R) (0, 0) Φ) → sm_wp sm_P S (d + 6) 123 0 [.ref 107, .int (2 : Int32)] [] (xLay, I, L, (kM R)) (0, 0) (fun z => ∃ (I2 : sm_I) (L3 : sm_L) (R4 : sm_R), z = (none, (xLay, I2, L3, (kM R4))) ∧ sm_wp sm_P S (d + 7) 195 B [.ref 107] [] (xLay, I2, L3, (kM R4)) (0, 0) Φ) := fun B k => mx_fail (by decide) (by decide) hm (fun J mJ pJ fJ => ⟨J, L, R, rfl, k J mJ pJ fJ⟩)
  have ne : ∀ {x k : Int32} {n : Int}, k.toInt = n → ¬ x = k → x.toInt ≠ n := fun e c q => c (en_ofI (by rw [q, e]))
  have c19 : ((I 125 s = (10 : Int32) → sm_wp sm_P S (d + 6) 123 0 [.ref 107, .int (2 : Int32)] [] (xLay, I, L, (kM R)) (0, 0) (fun z => ∃ (I2 : sm_I) (L3 : sm_L) (R4 : sm_R), z = (none, (xLay, I2, L3, (kM R4))) ∧ sm_wp sm_P S (d + 7) 195 19 [.ref 107] [] (xLay, I2, L3, (kM R4)) (0, 0) Φ)) ∧ (¬ I 125 s = (10 : Int32) → sm_wp sm_P S (d + 7) 195 19 [.ref 107] [] (xLay, I, L, (kM R)) (0, 0) Φ)) := ⟨fun _ => full 19 (fun J mJ pJ fJ => u_X12_tell_19 ⟨fun c => absurd c fJ, fun _ => bad J mJ pJ fJ⟩), fun c => u_X12_tell_19 ⟨fun _ => mx_tellSaying hls hm hT (by have := ne (n := 10) (by decide) c; omega) (fun J L' o => ⟨J, L', R, rfl, fin J L' o⟩), fun f => bad I hm ml_pS_rf f⟩⟩
  refine u_X12_tell_0 ⟨ml_vt hm, fun n1 _ => ?_⟩
  rw [sn]
  refine ⟨fun _ => ⟨sv, fun _ => full 3 (fun J mJ pJ fJ => u_X12_tell_3 ⟨fun c => absurd c fJ, fun _ => bad J mJ pJ fJ⟩), fun c => u_X12_tell_3 ⟨fun _ => mx_tellName hls hm hT (Or.inl ⟨rfl, by have := ne (n := 4) (by decide) c; omega⟩) (fun J L' o => ⟨J, L', R, rfl, fin J L' o⟩), fun f => bad I hm ml_pS_rf f⟩⟩, fun _ => ?_⟩
  refine ⟨fun _ => ⟨sv, fun _ => full 7 (fun J mJ pJ fJ => u_X12_tell_7 ⟨fun c => absurd c fJ, fun _ => bad J mJ pJ fJ⟩), fun c => u_X12_tell_7 ⟨fun _ => mx_tellName hls hm hT (Or.inr ⟨rfl, by have := ne (n := 6) (by decide) c; omega⟩) (fun J L' o => ⟨J, L', R, rfl, fin J L' o⟩), fun f => bad I hm ml_pS_rf f⟩⟩, fun _ => ?_⟩
  refine ⟨fun _ => ⟨sv, fun _ => full 11 (fun J mJ pJ fJ => u_X12_tell_11 ⟨fun c => absurd c fJ, fun _ => bad J mJ pJ fJ⟩), fun c => u_X12_tell_11 ⟨fun _ => mx_tellWay hls hm hT (by have := ne (n := 12) (by decide) c; omega) (fun J L' o => ⟨J, L', R, rfl, fin J L' o⟩), fun f => bad I hm ml_pS_rf f⟩⟩, fun _ => ?_⟩
  refine ⟨fun _ => ⟨sv, fun _ => full 15 (fun J mJ pJ fJ => u_X12_tell_15 ⟨fun c => absurd c fJ, fun _ => bad J mJ pJ fJ⟩), fun c => u_X12_tell_15 ⟨fun _ => mx_tellTime hls hm hT (by have := ne (n := 10) (by decide) c; omega) (fun J L' o => ⟨J, L', R, rfl, fin J L' o⟩), fun f => bad I hm ml_pS_rf f⟩⟩, fun _ => ?_⟩
  refine ⟨fun _ => dft, fun _ => ⟨fun _ => dft, fun _ => ⟨fun _ => ⟨sv, c19⟩, fun _ => ⟨fun _ => ⟨sv, c19⟩, fun _ => ⟨fun _ => dft, fun _ => ⟨fun _ => dft, fun _ => ⟨fun _ => dft, fun _ => ⟨fun _ => dft, fun _ => ?_⟩⟩⟩⟩⟩⟩⟩⟩
  refine ⟨fun _ => ⟨sv, fun _ => full 23 (fun J mJ pJ fJ => u_X12_tell_23 ⟨fun c => absurd c fJ, fun _ => bad J mJ pJ fJ⟩), fun c => u_X12_tell_23 ⟨fun _ => mx_tellOpen hls hm hT (by have := ne (n := 4) (by decide) c; omega) (fun J L' o => ⟨J, L', R, rfl, fin J L' o⟩), fun f => bad I hm ml_pS_rf f⟩⟩, fun _ => ?_⟩
  refine ⟨fun _ => ⟨sv, fun _ => full 27 (fun J mJ pJ fJ => u_X12_tell_27 ⟨fun c => absurd c fJ, fun _ => bad J mJ pJ fJ⟩), fun c => u_X12_tell_27 ⟨fun _ => mx_tellQuestion hls hm hT (by have := ne (n := 5) (by decide) c; omega) (fun J L' o => ⟨J, L', R, rfl, fin J L' o⟩), fun f => bad I hm ml_pS_rf f⟩⟩, fun _ => dft⟩
end
section
/-! cut -/
def ml_Dc (p j : Nat) : Prop := (p = 107 ∧ j = 10) ∨ p = 110 ∨ p = 111 ∨ p = 112
def ml_cf (I J : sm_I) : Prop := ∀ p j, ¬ ml_Dc p j → J p j = I p j
theorem ml_cf_rf {I : sm_I} : ml_cf I I := fun _ _ _ => rfl
theorem ml_cf_tr {I J K : sm_I} (h : ml_cf I J) (g : ml_cf J K) : ml_cf I K := fun p j a => (g p j a).trans (h p j a)
def ml_by (I : sm_I) (x : Int32) : Int32 := if I 107 4 ≤ x then 0 else I 109 x.toNatClampNeg &&& 255
theorem ml_sz {I : sm_I} {L : sm_L} {R : sm_R} (hm : en_mem ml_tb mlX (xLay, I, L, R)) : 0 ≤ (I 107 4).toInt ∧ (I 107 4).toInt ≤ 2000 := hm.2.1 107 4 (0, 2000) (by decide +kernel)
theorem ml_tk {I : sm_I} {L : sm_L} {R : sm_R} (hm : en_mem ml_tb mlX (xLay, I, L, R)) : 0 ≤ (I 107 10).toInt ∧ (I 107 10).toInt ≤ 501 := hm.2.1 107 10 (0, 501) (by decide +kernel)
theorem mx_byteAt {S : sm_C} {d : Nat} {Φ : sm_Z → Prop} {I : sm_I} {L : sm_L} {R : sm_R} {x : Int32} (h0 : 0 ≤ x.toInt) (hm : en_mem ml_tb mlX (xLay, I, L, R)) (h : Φ (some (.int (ml_by I x)), (xLay, I, L, kM R))) : sm_wp sm_P S d 108 0 [.ref 107, .int x] [] (xLay, I, L, kM R) (0, 0) Φ := by
  have b := ml_sz hm
  unfold ml_by at h
  refine u_X12_byteAt_0 ⟨fun a => ?_, fun a => ⟨?_, ?_⟩⟩
  · rw [if_pos a] at h; exact h
  · have := kl_nle a
    exact kl_in h0 (by omega)
  · rw [if_neg a] at h; exact h
theorem mx_isLetter {S : sm_C} {d : Nat} {Φ : sm_Z → Prop} {I : sm_I} {L : sm_L} {R : sm_R} {x : Int32} (h : ∀ r : Int32, (¬ r = 0 → 97 ≤ x.toInt) → Φ (some (.int r), (xLay, I, L, kM R))) : sm_wp sm_P S d 146 0 [.int x] [] (xLay, I, L, kM R) (0, 0) Φ := by
  have c : (97 : Int32).toInt = 97 := by decide
  refine u_X12_isLetter_0 ⟨fun _ => h 0 (fun q => absurd rfl q), fun a => ⟨fun _ => h 0 (fun q => absurd rfl q), fun _ => h 1 (fun _ => ?_)⟩⟩
  have := kl_nlt a
  rw [c] at this
  exact this
theorem mx_isDigit {S : sm_C} {d : Nat} {Φ : sm_Z → Prop} {I : sm_I} {L : sm_L} {R : sm_R} {x : Int32} (h : ∀ r : Int32, (¬ r = 0 → 48 ≤ x.toInt ∧ x.toInt ≤ 57) → Φ (some (.int r), (xLay, I, L, kM R))) : sm_wp sm_P S d 144 0 [.int x] [] (xLay, I, L, kM R) (0, 0) Φ := by
  have c : (48 : Int32).toInt = 48 := by decide
  have c' : (57 : Int32).toInt = 57 := by decide
  refine u_X12_isDigit_0 ⟨fun _ => h 0 (fun q => absurd rfl q), fun a => ⟨fun _ => h 0 (fun q => absurd rfl q), fun b => h 1 (fun _ => ?_)⟩⟩
  have a := kl_nlt a
  have b := kl_nlt b
  rw [c] at a
  rw [c'] at b
  exact ⟨a, b⟩
theorem ml_by_lt {I : sm_I} {x : Int32} (h : 48 ≤ (ml_by I x).toInt) : x.toInt < (I 107 4).toInt := by
  unfold ml_by at h
  by_cases c : I 107 4 ≤ x
  · rw [if_pos c, kl_0] at h; omega
  · exact kl_nle c
theorem mx_token {S : sm_C} {d : Nat} {Φ : sm_Z → Prop} {I : sm_I} {L : sm_L} {R : sm_R} {x1 x2 x3 : Int32} {y4 : Int64} (b1 : 0 ≤ x1.toInt ∧ x1.toInt ≤ 34) (b2 : 0 ≤ x2.toInt ∧ x2.toInt ≤ 2000) (b3 : 0 ≤ x3.toInt ∧ x3.toInt ≤ 9999) (ht : (I 107 10).toInt ≤ 500) (hm : en_mem ml_tb mlX (xLay, I, L, R)) (h : ∀ (J : sm_I) (L' : sm_L), en_mem ml_tb mlX (xLay, J, L', R) → ml_cf I J → (J 107 10).toInt = (I 107 10).toInt + 1 → Φ (none, (xLay, J, L', kM R))) : sm_wp sm_P S d 204 0 [.ref 107, .int x1, .int x2, .int x3, .long y4] [] (xLay, I, L, kM R) (0, 0) Φ := by
  have bt := ml_tk hm
  have v : vp_in (I 107 10) 503 := kl_in bt.1 (by omega)
  refine u_X12_token_0 ⟨v, fun I1 e1 => ?_⟩
  have g1 : I1 107 10 = I 107 10 := by rw [e1, en_up_ne _ _ _ _ (by omega)]
  have m1 : en_mem ml_tb mlX (xLay, I1, L, R) := by rw [e1]; exact ml_we2 hm rfl (n := 503) (q := (0, 34)) rfl b1
  refine ⟨by rw [g1]; exact v, fun I2 e2 => ?_⟩
  rw [g1] at e2
  have g2 : I2 107 10 = I 107 10 := by rw [e2, en_up_ne _ _ _ _ (by omega), g1]
  have m2 : en_mem ml_tb mlX (xLay, I2, L, R) := by rw [e2]; exact ml_we2 m1 rfl (n := 503) (q := (0, 2000)) rfl b2
  refine ⟨by rw [g2]; exact v, fun I3 e3 => ?_⟩
  rw [g2] at e3
  have g3 : I3 107 10 = I 107 10 := by rw [e3, en_up_ne _ _ _ _ (by omega), g2]
  have m3 : en_mem ml_tb mlX (xLay, I3, L, R) := by rw [e3]; exact ml_we2 m2 rfl (n := 503) (q := (0, 9999)) rfl b3
  refine ⟨by rw [g3]; exact v, fun L4 eL I5 e5 => ?_⟩
  rw [g3] at e5
  have s := ml_in1 (x := I 107 10) (by omega)
  have m5 : en_mem ml_tb mlX (xLay, I5, L, R) := by
    rw [e5]
    exact ml_wf m3 (by decide +kernel) (q := (0, 501)) (by decide +kernel) (by show 0 ≤ _ ∧ _ ≤ (501 : Int); omega)
  refine h I5 L4 ⟨m5.1, m5.2.1, m5.2.2.1, m5.2.2.2.1, m5.2.2.2.2.1, m5.2.2.2.2.2.1, m5.2.2.2.2.2.2.1, m5.2.2.2.2.2.2.2.1, m5.2.2.2.2.2.2.2.2.1, pk_cg (L := L) (L' := L4) (fun j => by rw [eL]; exact en_up_ne _ _ _ _ (by omega)) m5.2.2.2.2.2.2.2.2.2⟩ (fun p j hp => ?_) (by rw [e5, en_up_eq]; exact s)
  unfold ml_Dc at hp
  rw [e5, en_up_ne _ _ _ _ (by omega), e3, en_up_ne _ _ _ _ (by omega), e2, en_up_ne _ _ _ _ (by omega), e1, en_up_ne _ _ _ _ (by omega)]
theorem mx_appends {S : sm_C} {d : Nat} {Φ : sm_Z → Prop} {I : sm_I} {L : sm_L} {R : sm_R} {y : Int64} {x : Int32} (h : ∀ r : Int64, Φ (some (.long r), (xLay, I, L, kM R))) : sm_wp sm_P S d 95 0 [.long y, .int x] [] (xLay, I, L, kM R) (0, 0) Φ := u_X12_appends_0 ⟨fun _ => h _, fun _ => h _⟩
theorem mx_sign {S : sm_C} {d : Nat} {Φ : sm_Z → Prop} {I : sm_I} {L : sm_L} {R : sm_R} {x : Int32} (h : ∀ r : Int32, 0 ≤ r.toInt → r.toInt ≤ 34 → Φ (some (.int r), (xLay, I, L, kM R))) : sm_wp sm_P S d 191 0 [.int x] [] (xLay, I, L, kM R) (0, 0) Φ := u_X12_sign_0 ⟨fun _ => h _ (by decide) (by decide), fun _ => ⟨fun _ => h _ (by decide) (by decide), fun _ => ⟨fun _ => h _ (by decide) (by decide), fun _ => h _ (by decide) (by decide)⟩⟩⟩
theorem mx_cut1 {S : sm_C} {d : Nat} {Φ : sm_Z → Prop} {I0 : sm_I} {R : sm_R} (h : ∀ (J : sm_I) (L' : sm_L), en_mem ml_tb mlX (xLay, J, L', R) → ml_cf I0 J → Φ (none, (xLay, J, L', kM R))) : ∀ (m : Nat) (I : sm_I) (L : sm_L) (x1 : Int32), en_mem ml_tb mlX (xLay, I, L, R) → ml_cf I0 I → 0 ≤ x1.toInt → x1.toInt ≤ 2000 → (2000 - x1.toInt) + (501 - (I 107 10).toInt) < m → sm_wp sm_P S (d + 1) 119 1 [.ref 107, .int x1] [] (xLay, I, L, kM R) (0, 0) Φ := by
  intro m
  induction m with
  | zero =>
    intro I L x1 hm hc h0 h1 hM
    have := ml_tk hm
    omega
  | succ m ih =>
    intro I L x1 hm hc h0 h1 hM
    have bs := ml_sz hm
    have bt := ml_tk hm
    have c500 : (500 : Int32).toInt = 500 := by decide
    refine u_X12_cut_1 ⟨fun _ => h I L hm hc, fun a => ?_⟩
    have a := kl_nlt a
    rw [c500] at a
    clear c500
    -- a token, then on
    have tok : ∀ (k v n : Int32) (y : Int64), (0 ≤ k.toInt ∧ k.toInt ≤ 34) → (0 ≤ v.toInt ∧ v.toInt ≤ 9999) → x1.toInt ≤ n.toInt → n.toInt ≤ 2000 → sm_wp sm_P S d 204 0 [.ref 107, .int k, .int x1, .int v, .long y] [] (xLay, I, L, kM R) (0, 0) (fun z => ∃ (I1 : sm_I) (L2 : sm_L) (R3 : sm_R), z = (none, (xLay, I1, L2, (kM R3))) ∧ sm_wp sm_P S (d + 1) 119 1 [.ref 107, .int n] [] (xLay, I1, L2, (kM R3)) (0, 0) Φ) := fun k v n y bk bv n0 n1 => mx_token bk ⟨h0, h1⟩ bv a hm (fun J L' mJ cJ tJ => ⟨J, L', R, rfl, ih J L' n mJ (ml_cf_tr hc cJ) (by omega) n1 (by omega)⟩)
    have w20 : ∀ (q : Nat) (x3 : Int32) (y : Int64) (x6 x7 : Int32), 0 ≤ x3.toInt → x1.toInt + x3.toInt ≤ 2000 → (0 ≤ x6.toInt ∧ x6.toInt ≤ 34) → 0 ≤ x7.toInt → 15 - x7.toInt ≤ q → sm_wp sm_P S (d + 1) 119 20 [.ref 107, .int x1, .int x3, .long y, .int x6, .int x7] [] (xLay, I, L, kM R) (0, 0) Φ := by
      intro q
      induction q with
      | zero =>
        intro x3 y x6 x7 k0 k1 b6 k7 hq
        have s : (x1 + x3).toInt = x1.toInt + x3.toInt := ml_ad rfl rfl (by omega) (by omega)
        refine u_X12_cut_20 ⟨fun _ => tok x6 0 _ y b6 (by decide) (by omega) (by omega), fun c => ?_⟩
        have c := kl_nle c
        have c15 : (15 : Int32).toInt = 15 := by decide
        rw [c15] at c
        omega
      | succ q ihq =>
        intro x3 y x6 x7 k0 k1 b6 k7 hq
        have s : (x1 + x3).toInt = x1.toInt + x3.toInt := ml_ad rfl rfl (by omega) (by omega)
        refine u_X12_cut_20 ⟨fun _ => tok x6 0 _ y b6 (by decide) (by omega) (by omega), fun c => ?_⟩
        have c := kl_nle c
        have c15 : (15 : Int32).toInt = 15 := by decide
        rw [c15] at c
        clear c15
        have s7 := ml_in1 (x := x7) (by omega)
        have s20 : ((20 : Int32) + x7).toInt = 20 + x7.toInt := ml_ad (by decide) rfl (by omega) (by omega)
        exact ⟨kl_in k7 (by omega), fun _ => ihq x3 y _ _ k0 k1 (by omega) (by omega) (by omega), fun _ => ihq x3 y _ _ k0 k1 b6 (by omega) (by omega)⟩
    have w11 : ∀ (q : Nat) (x3 : Int32) (y : Int64), 0 ≤ x3.toInt → x1.toInt + x3.toInt ≤ 2000 → 2000 - x1.toInt - x3.toInt < q → sm_wp sm_P S (d + 1) 119 11 [.ref 107, .int x1, .int x3, .long y] [] (xLay, I, L, kM R) (0, 0) Φ := by
      intro q
      induction q with
      | zero => intro x3 y k0 k1 hq; omega
      | succ q ihq =>
        intro x3 y k0 k1 hq
        have s : (x1 + x3).toInt = x1.toInt + x3.toInt := ml_ad rfl rfl (by omega) (by omega)
        refine u_X12_cut_11 (mx_byteAt (by omega) hm ⟨_, I, L, R, rfl, mx_isLetter (fun r8 hr => ⟨r8, I, L, R, rfl, fun _ => ⟨fun _ => ⟨fun _ => tok 1 0 _ y (by decide) (by decide) (by omega) (by omega), fun _ => w20 15 x3 y 1 0 k0 k1 (by decide) (by decide) (by decide)⟩, fun _ => ⟨fun _ => tok 3 0 _ y (by decide) (by decide) (by omega) (by omega), fun _ => w20 15 x3 y 3 0 k0 k1 (by decide) (by decide) (by decide)⟩⟩, fun c => ?_⟩)⟩)
        have lt := ml_by_lt (I := I) (x := x1 + x3) (by have := hr c; omega)
        rw [s] at lt
        have s3 := ml_in1 (x := x3) (by omega)
        exact ⟨fun _ => ihq _ _ (by omega) (by omega) (by omega), fun _ => mx_byteAt (by omega) hm ⟨_, I, L, R, rfl, mx_appends (fun r => ⟨r, I, L, R, rfl, ihq _ _ (by omega) (by omega) (by omega)⟩)⟩⟩
    have w27 : ∀ (q : Nat) (x3 x4 : Int32), 0 ≤ x3.toInt → x1.toInt + x3.toInt ≤ 2000 → (0 ≤ x4.toInt ∧ (x3.toInt = 0 → x4.toInt ≤ 0) ∧ (x3.toInt = 1 → x4.toInt ≤ 9) ∧ (x3.toInt = 2 → x4.toInt ≤ 99) ∧ (x3.toInt = 3 → x4.toInt ≤ 999) ∧ x4.toInt ≤ 9999) → 2000 - x1.toInt - x3.toInt < q → sm_wp sm_P S (d + 1) 119 27 [.ref 107, .int x1, .int x3, .int x4] [] (xLay, I, L, kM R) (0, 0) Φ := by
      intro q
      induction q with
      | zero => intro x3 x4 k0 k1 b4 hq; omega
      | succ q ihq =>
        intro x3 x4 k0 k1 b4 hq
        have s : (x1 + x3).toInt = x1.toInt + x3.toInt := ml_ad rfl rfl (by omega) (by omega)
        refine u_X12_cut_27 (mx_byteAt (by omega) hm ⟨_, I, L, R, rfl, mx_isDigit (fun r8 hr => ⟨r8, I, L, R, rfl, fun _ => ⟨fun _ => tok 2 x4 _ _ (by decide) ⟨b4.1, b4.2.2.2.2.2⟩ (by omega) (by omega), fun _ => tok 3 x4 _ _ (by decide) ⟨b4.1, b4.2.2.2.2.2⟩ (by omega) (by omega)⟩, fun c => ?_⟩)⟩)
        have dg := hr c
        have lt := ml_by_lt (I := I) (x := x1 + x3) dg.1
        rw [s] at lt
        have s3 := ml_in1 (x := x3) (by omega)
        refine ⟨fun c4 => ?_, fun c4 => mx_byteAt (by omega) hm ⟨_, I, L, R, rfl, fun n24 e24 => ?_⟩⟩
        · have c4 := kl_le.mp c4
          rw [(by decide : (4 : Int32).toInt = 4)] at c4
          exact ihq _ _ (by omega) (by omega) ⟨b4.1, by omega, by omega, by omega, by omega, b4.2.2.2.2.2⟩ (by omega)
        · have c4 := kl_nle c4
          rw [(by decide : (4 : Int32).toInt = 4)] at c4
          generalize ml_by I (x1 + x3) = w at dg e24
          have q1 : ((10 : Int32) * x4).toInt = 10 * x4.toInt := ml_mu (by decide) rfl (by omega) (by omega)
          have q2 : ((10 : Int32) * x4 + w).toInt = 10 * x4.toInt + w.toInt := ml_ad q1 rfl (by omega) (by omega)
          have q3 : n24.toInt = 10 * x4.toInt + w.toInt - 48 := by
            rw [e24, Int32.toInt_sub, q2, (by decide : (48 : Int32).toInt = 48)]; exact en_bmod (by omega) (by omega) (Or.inl rfl)
          clear e24 q1 q2
          exact ihq _ n24 (by omega) (by omega) ⟨by omega, by omega, by omega, by omega, by omega, by omega⟩ (by omega)
    refine mx_byteAt h0 hm ⟨_, I, L, R, rfl, fun lt => ?_, fun _ => mx_token (by decide) bs (by decide) a hm (fun J L' mJ cJ _ => ⟨J, L', R, rfl, h J L' mJ (ml_cf_tr hc cJ)⟩)⟩
    have lt := kl_lt.mp lt
    have s1 := ml_in1 (x := x1) (by omega)
    have on : sm_wp sm_P S (d + 1) 119 1 [.ref 107, .int (x1 + 1)] [] (xLay, I, L, kM R) (0, 0) Φ := ih I L _ hm hc (by omega) (by omega) (by omega)
    refine ⟨fun _ => on, fun _ => ⟨fun _ => on, fun _ => ⟨fun _ => on, fun _ => ⟨fun _ => on, fun _ => ?_⟩⟩⟩⟩
    refine mx_isLetter (fun r8 _ => ⟨r8, I, L, R, rfl, fun _ => mx_isDigit (fun r12 _ => ⟨r12, I, L, R, rfl, fun _ => mx_sign (fun r16 k0 k1 => ⟨r16, I, L, R, rfl, tok r16 0 _ _ ⟨k0, k1⟩ (by decide) (by omega) (by omega)⟩), fun _ => w27 2001 0 0 (by decide) (by rw [kl_0]; omega) (by decide) (by rw [kl_0]; omega)⟩), fun _ => w11 2001 0 0 (by decide) (by rw [kl_0]; omega) (by rw [kl_0]; omega)⟩)
theorem mx_cut {S : sm_C} {d : Nat} {Φ : sm_Z → Prop} {I : sm_I} {L : sm_L} {R : sm_R} (hm : en_mem ml_tb mlX (xLay, I, L, R)) (h : ∀ (J : sm_I) (L' : sm_L), en_mem ml_tb mlX (xLay, J, L', R) → ml_cf I J → Φ (none, (xLay, J, L', kM R))) : sm_wp sm_P S (d + 1) 119 0 [.ref 107] [] (xLay, I, L, kM R) (0, 0) Φ := by
  refine u_X12_cut_0 ?_
  refine mx_cut1 (I0 := I) h 2502 _ L 0 (ml_wf hm (by decide +kernel) (q := (0, 501)) (by decide +kernel) (by decide)) (fun p j hp => ?_) (by decide) (by decide) (by rw [en_up_eq]; decide)
  unfold ml_Dc at hp
  exact en_up_ne _ _ _ _ (by omega)
end
section
/-! meets: at most 45 MOVES -/
def ml_S : Nat → Int
  | 0 => 0
  | 1 => 9
  | 2 => 17
  | 3 => 24
  | 4 => 30
  | 5 => 35
  | 6 => 39
  | 7 => 42
  | 8 => 44
  | _ => 45
theorem ml_S_st : ∀ a : Nat, a ≤ 9 → ml_S (a + 1) = ml_S a + (9 - a) ∧ ml_S (a + 1) ≤ 45 ∧ 0 ≤ ml_S a := by
  intro a ha
  rcases (by omega : a = 0 ∨ a = 1 ∨ a = 2 ∨ a = 3 ∨ a = 4 ∨ a = 5 ∨ a = 6 ∨ a = 7 ∨ a = 8 ∨ a = 9) with e | e | e | e | e | e | e | e | e | e <;> subst e <;> decide
def ml_mf (I J : sm_I) : Prop := ∀ p j, ¬ ((p = 107 ∧ j = 46) ∨ p = 140 ∨ p = 141 ∨ p = 142) → J p j = I p j
theorem ml_mf_tr {I J K : sm_I} (h : ml_mf I J) (g : ml_mf J K) : ml_mf I K := fun p j a => (g p j a).trans (h p j a)
theorem mx_meets3 {S : sm_C} {d : Nat} {Φ : sm_Z → Prop} {L : sm_L} {R : sm_R} {x1 : Int32} (a0 : 0 ≤ x1.toInt) (a1 : x1.toInt ≤ 9) (I0 : sm_I) (hk : ∀ J : sm_I, en_mem ml_tb mlX (xLay, J, L, R) → ml_mf I0 J → (J 107 46).toInt ≤ ml_S (x1.toNatClampNeg + 1) → sm_wp sm_P S d 161 1 [.ref 107, .int (x1 + 1)] [] (xLay, J, L, kM R) (0, 0) Φ) : ∀ (m : Nat) (I : sm_I) (x2 : Int32), en_mem ml_tb mlX (xLay, I, L, R) → ml_mf I0 I → x1.toInt + 1 ≤ x2.toInt → x2.toInt ≤ 10 → (I 107 46).toInt ≤ ml_S x1.toNatClampNeg + (x2.toInt - x1.toInt - 1) → 10 - x2.toInt < m → sm_wp sm_P S d 161 3 [.ref 107, .int x1, .int x2] [] (xLay, I, L, kM R) (0, 0) Φ := by
  have na := kl_nat a0
  have SS := ml_S_st x1.toNatClampNeg (by omega)
  have done : ∀ (I : sm_I) (x2 : Int32), en_mem ml_tb mlX (xLay, I, L, R) → ml_mf I0 I → x2.toInt ≤ 10 → (I 107 46).toInt ≤ ml_S x1.toNatClampNeg + (x2.toInt - x1.toInt - 1) → sm_wp sm_P S d 161 1 [.ref 107, .int (x1 + 1)] [] (xLay, I, L, kM R) (0, 0) Φ := fun I x2 hm hf b hs => hk I hm hf (by omega)
  intro m
  induction m with
  | zero => intro I x2 hm hf h0 h1 hs hM; omega
  | succ m ih =>
    intro I x2 hm hf h0 h1 hs hM
    obtain ⟨l0, l1, ln, lc⟩ := ml_live hm
    have l0 : 0 ≤ (I 107 18).toInt := l0
    have l1 : (I 107 18).toInt ≤ 1 := l1
    have ln : ((I 107 18).toNatClampNeg : Int) = (I 107 18).toInt := ln
    have bt : 0 ≤ (I 122 (I 107 18).toNatClampNeg).toInt ∧ (I 122 (I 107 18).toNatClampNeg).toInt ≤ 10 := ml_row hm (p := 122) (n := 2) (q := (0, 10)) (fun _ => rfl) _ (by omega)
    have bm : 0 ≤ (I 107 46).toInt ∧ (I 107 46).toInt ≤ 45 := hm.2.1 107 46 (0, 45) (by decide +kernel)
    refine u_X12_meets_3 ⟨kl_in l0 (by omega), fun _ => done I x2 hm hf h1 hs, fun a n1 e1 n2 e2 => ?_⟩
    have a := kl_nle a
    have nb := kl_nat (i := x2) (by omega)
    have s2 := ml_in1 (x := x2) (by omega)
    have q0 : ((10 : Int32) * I 107 18).toInt = 10 * (I 107 18).toInt := ml_mu (by decide) rfl (by omega) (by omega)
    have q1 : n1.toInt = 10 * (I 107 18).toInt + x1.toInt := by rw [e1]; exact ml_ad q0 rfl (by omega) (by omega)
    have q2 : n2.toInt = 10 * (I 107 18).toInt + x2.toInt := by rw [e2]; exact ml_ad q0 rfl (by omega) (by omega)
    have k1 := kl_nat (i := n1) (by omega)
    have k2 := kl_nat (i := n2) (by omega)
    have v1 : vp_in n1 20 := kl_in (by omega) (by omega)
    have v2 : vp_in n2 20 := kl_in (by omega) (by omega)
    have same : sm_wp sm_P S d 161 3 [.ref 107, .int x1, .int (x2 + 1)] [] (xLay, I, L, kM R) (0, 0) Φ := ih I _ hm hf (by omega) (by omega) (by omega) (by omega)
    refine ⟨v1, fun _ => same, fun c1 => ⟨v1, v2, fun c2 => ⟨v1, v2, fun _ => same, fun _ => ?_⟩, fun _ => same⟩⟩
    have c1 := ml_m1 c1
    have V := (ml_lv hm).1
    have P1 : 0 ≤ (I 124 n1.toNatClampNeg).toInt := by
      have := V x1.toNatClampNeg (by rw [na]; show x1.toInt < (I 122 (I 107 18).toNatClampNeg).toInt; omega) (by
        show (I 123 (10 * (I 107 18).toNatClampNeg + x1.toNatClampNeg)).toInt ≠ -1
        rw [show 10 * (I 107 18).toNatClampNeg + x1.toNatClampNeg = n1.toNatClampNeg by omega]; exact c1)
      rw [show n1.toNatClampNeg = 10 * (I 107 18).toNatClampNeg + x1.toNatClampNeg by omega]; exact this
    have P2 : 0 ≤ (I 124 n2.toNatClampNeg).toInt := by
      have := V x2.toNatClampNeg (by rw [nb]; show x2.toInt < (I 122 (I 107 18).toNatClampNeg).toInt; omega) (by
        show (I 123 (10 * (I 107 18).toNatClampNeg + x2.toNatClampNeg)).toInt ≠ -1
        rw [show 10 * (I 107 18).toNatClampNeg + x2.toNatClampNeg = n2.toNatClampNeg by omega, ← c2]; exact c1)
      rw [show n2.toNatClampNeg = 10 * (I 107 18).toNatClampNeg + x2.toNatClampNeg by omega]; exact this
    have B1 : -1 ≤ (I 124 n1.toNatClampNeg).toInt ∧ (I 124 n1.toNatClampNeg).toInt ≤ 5 := ml_row hm (p := 124) (n := 20) (q := (-1, 5)) (fun _ => rfl) _ (by omega)
    have B2 : -1 ≤ (I 124 n2.toNatClampNeg).toInt ∧ (I 124 n2.toNatClampNeg).toInt ≤ 5 := ml_row hm (p := 124) (n := 20) (q := (-1, 5)) (fun _ => rfl) _ (by omega)
    have v46 : vp_in (I 107 46) 45 := kl_in bm.1 (by omega)
    refine ⟨v46, fun I3 e3 => ?_⟩
    have g3 : I3 107 46 = I 107 46 := by rw [e3, en_up_ne _ _ _ _ (by omega)]
    have m3 : en_mem ml_tb mlX (xLay, I3, L, R) := by rw [e3]; exact ml_we2 hm rfl (n := 45) (q := (0, 9)) rfl (by show 0 ≤ _ ∧ _ ≤ (9 : Int); omega)
    refine ⟨by rw [g3]; exact v46, fun I4 e4 => ?_⟩
    rw [g3] at e4
    have g4 : I4 107 46 = I 107 46 := by rw [e4, en_up_ne _ _ _ _ (by omega), g3]
    have m4 : en_mem ml_tb mlX (xLay, I4, L, R) := by rw [e4]; exact ml_we2 m3 rfl (n := 45) (q := (0, 9)) rfl (by show 0 ≤ _ ∧ _ ≤ (9 : Int); omega)
    have o4 : ∀ p j, p ≠ 140 → p ≠ 141 → I4 p j = I p j := fun p j x y => by rw [e4, en_up_ne _ _ _ _ (by omega), e3, en_up_ne _ _ _ _ (by omega)]
    refine ⟨v1, v2, fun n5 e5 => ?_⟩
    rw [o4 _ _ (by decide) (by decide), o4 _ _ (by decide) (by decide)] at e5
    have r1 : ((6 : Int32) * I 124 n1.toNatClampNeg).toInt = 6 * (I 124 n1.toNatClampNeg).toInt := ml_mu (by decide) rfl (by omega) (by omega)
    have r2 : n5.toInt = 6 * (I 124 n1.toNatClampNeg).toInt + (I 124 n2.toNatClampNeg).toInt := by rw [e5]; exact ml_ad r1 rfl (by omega) (by omega)
    refine ⟨kl_in (by omega) (by omega), by rw [g4]; exact v46, fun I6 e6 I7 e7 => ?_⟩
    have m6 : en_mem ml_tb mlX (xLay, I6, L, R) := by rw [e6]; exact ml_we2 m4 rfl (n := 45) (q := (-2147483648, 2147483647)) rfl en_crange
    have g6 : I6 107 46 = I 107 46 := by rw [e6, en_up_ne _ _ _ _ (by omega), g4]
    have s46 := ml_in1 (x := I 107 46) (by omega)
    have g7 : (I7 107 46).toInt = (I 107 46).toInt + 1 := by rw [e7, g6, en_up_eq]; exact s46
    refine ih I7 _ ?_ ?_ (by omega) (by omega) (by omega) (by omega)
    · rw [e7, g6]
      exact ml_wf m6 (by decide +kernel) (q := (0, 45)) (by decide +kernel) (by show 0 ≤ _ ∧ _ ≤ (45 : Int); omega)
    · intro p j hp
      rw [e7, en_up_ne _ _ _ _ (by omega), e6, en_up_ne _ _ _ _ (by omega), o4 _ _ (by omega) (by omega)]
      exact hf p j hp
theorem mx_meets1 {S : sm_C} {d : Nat} {Φ : sm_Z → Prop} {L : sm_L} {R : sm_R} (I0 : sm_I) (h : ∀ J : sm_I, en_mem ml_tb mlX (xLay, J, L, R) → ml_mf I0 J → Φ (none, (xLay, J, L, kM R))) : ∀ (m : Nat) (I : sm_I) (x1 : Int32), en_mem ml_tb mlX (xLay, I, L, R) → ml_mf I0 I → 0 ≤ x1.toInt → x1.toInt ≤ 10 → (I 107 46).toInt ≤ ml_S x1.toNatClampNeg → 10 - x1.toInt < m → sm_wp sm_P S d 161 1 [.ref 107, .int x1] [] (xLay, I, L, kM R) (0, 0) Φ := by
  intro m
  induction m with
  | zero => intro I x1 hm hf h0 h1 hs hM; omega
  | succ m ih =>
    intro I x1 hm hf h0 h1 hs hM
    obtain ⟨l0, l1, ln, lc⟩ := ml_live hm
    have l0 : 0 ≤ (I 107 18).toInt := l0
    have l1 : (I 107 18).toInt ≤ 1 := l1
    have ln : ((I 107 18).toNatClampNeg : Int) = (I 107 18).toInt := ln
    have bt : 0 ≤ (I 122 (I 107 18).toNatClampNeg).toInt ∧ (I 122 (I 107 18).toNatClampNeg).toInt ≤ 10 := ml_row hm (p := 122) (n := 2) (q := (0, 10)) (fun _ => rfl) _ (by omega)
    refine u_X12_meets_1 ⟨kl_in l0 (by omega), fun _ => h I hm hf, fun a => ?_⟩
    have a := kl_nle a
    have na := kl_nat h0
    have s1 := ml_in1 (x := x1) (by omega)
    have n1 := kl_nat (i := x1 + 1) (by omega)
    refine mx_meets3 h0 (by omega) I0 (fun J mJ fJ sJ => ih J _ mJ fJ (by omega) (by omega) ?_ (by omega)) 11 I _ hm hf (by omega) (by omega) (by omega) (by omega)
    rw [show (x1 + 1).toNatClampNeg = x1.toNatClampNeg + 1 by omega]; exact sJ
theorem mx_meets {S : sm_C} {d : Nat} {Φ : sm_Z → Prop} {I : sm_I} {L : sm_L} {R : sm_R} (hm : en_mem ml_tb mlX (xLay, I, L, R)) (h : ∀ J : sm_I, en_mem ml_tb mlX (xLay, J, L, R) → ml_mf I J → Φ (none, (xLay, J, L, kM R))) : sm_wp sm_P S d 161 0 [.ref 107] [] (xLay, I, L, kM R) (0, 0) Φ := by
  refine u_X12_meets_0 (mx_meets1 I h 11 _ 0 (ml_wf hm (by decide +kernel) (q := (0, 45)) (by decide +kernel) (by decide)) (fun p j hp => en_up_ne _ _ _ _ (by omega)) (by decide) (by decide) ?_ (by decide))
  rw [en_up_eq]
  decide
end
section
/-! read -/
def ml_RW : en_W := mlc_65.2.2.2.2.1
theorem ml_rwa : ∀ p, p < 166 → 108 ≤ p → en_wall ml_RW p = true := by decide +kernel
theorem ml_wallok {W : en_W} {p j : Nat} (h : en_wall W p = true) : en_wok W p j = true := by
  obtain ⟨⟨b, l2⟩, g1, g2⟩ := List.any_eq_true.mp h
  obtain ⟨g2, g3⟩ := Bool.and_eq_true_iff.mp g2
  refine List.any_eq_true.mpr ⟨(b, l2), g1, ?_⟩
  cases l2 with
  | nil => rw [g2]; rfl
  | cons _ _ => cases g3
theorem ml_rw {p j : Nat} (h0 : 108 ≤ p) (h1 : p ≤ 165) : en_wok ml_RW p j = true := ml_wallok (ml_rwa p (by omega) h0)
theorem ml_rwf : ∀ j, j < 21 → (j = 0 ∨ j = 2 ∨ j = 4 ∨ 10 ≤ j) → en_wok ml_RW 107 j = true := by decide +kernel
theorem ml_fro {W : en_W} {w0 : sm_W} {I J : sm_I} {L L' : sm_L} {R : sm_R} (h : en_fr W w0 (xLay, I, L, R)) (o : ∀ p j, en_wok W p j = false → J p j = I p j) : en_fr W w0 (xLay, J, L', R) := ⟨h.1, fun p j hw => ⟨(o p j hw).trans (h.2 p j hw).1, (h.2 p j hw).2⟩⟩
theorem ml_frD {w0 : sm_W} {l : Nat} {I J : sm_I} {L L' : sm_L} {R : sm_R} (h : en_fr ml_RW w0 (xLay, I, L, R)) (p : ml_pS (ml_Dl l) I J) : en_fr ml_RW w0 (xLay, J, L', R) := ml_fro h (fun a b hw => p.1 a b (fun c => by
  unfold ml_Dl at c
  rcases c with ⟨c1, c2⟩ | ⟨c1, c2, -⟩
  · rw [c1, c2, ml_rwf 20 (by decide) (by decide)] at hw; cases hw
  · rw [ml_rw (by omega) (by omega)] at hw; cases hw) (fun c => by
  rw [c.1, ml_rwf b (by omega) (by omega)] at hw; cases hw))
theorem mx_read29 {S : sm_C} {d : Nat} {Φ : sm_Z → Prop} {w0 : sm_W} {L : sm_L} {R : sm_R} (hΦ : ∀ (r : Int32) (I : sm_I) (L : sm_L) (R : sm_R), 0 ≤ r.toInt → r.toInt ≤ 5 → en_mem ml_tb mlX (xLay, I, L, R) → en_fr ml_RW w0 (xLay, I, L, R) → I 107 2 = 0 → Φ (some (.int r), (xLay, I, L, kM R))) : ∀ (m : Nat) (I : sm_I) (x1 : Int32), en_mem ml_tb mlX (xLay, I, L, R) → en_fr ml_RW w0 (xLay, I, L, R) → I 107 2 = 0 → 0 ≤ x1.toInt → x1.toInt ≤ 60 → 60 - x1.toInt < m → sm_wp sm_P S (d + 1) 182 29 [.ref 107, .int x1] [] (xLay, I, L, kM R) (0, 0) Φ := by
  intro m
  induction m with
  | zero => intro I x1 hm hf hz h0 h1 hM; omega
  | succ m ih =>
    intro I x1 hm hf hz h0 h1 hM
    refine u_X12_read_29 ⟨fun _ => ?_, fun a => ?_⟩
    · have m1 : en_mem ml_tb mlX (xLay, sm_up I 107 54 0, L, R) := ml_wf hm (by decide +kernel) (q := (0, 6)) (by decide +kernel) (by decide)
      refine ml_cv (c := mlc_64) mlh_64 (Nat.zero_le _) ⟨⟨rfl, rfl⟩, trivial⟩ m1 ml_pf0 rfl (fun I2 L2 R2 m2 f2 => mx_meets m2 (fun I3 m3 f3 => ⟨I3, L2, R2, rfl, u_X12_changes_0 (fun I4 e4 => ⟨I4, L2, R2, rfl, ?_⟩)⟩))
      have hf2 : en_fr ml_RW w0 (xLay, I2, L2, R2) := ml_frt (ml_fr hf (by decide +kernel)) f2 (by decide +kernel)
      refine hΦ 0 I4 L2 R2 (by decide) (by decide) ?_ ?_ ?_
      · rw [e4]
        exact ml_wf (ml_wf m3 (by decide +kernel) (q := (0, 1)) (by decide +kernel) (by decide)) (by decide +kernel) (q := (0, 1)) (by decide +kernel) (by decide)
      · rw [e4]
        refine ml_fr (ml_fr (ml_fro hf2 (fun p j hw => f3 p j (fun c => ?_))) (by decide +kernel)) (by decide +kernel)
        rcases c with ⟨c1, c2⟩ | c | c | c
        · rw [c1, c2] at hw; exact absurd hw (by decide +kernel)
        · rw [ml_rw (by omega) (by omega)] at hw; cases hw
        · rw [ml_rw (by omega) (by omega)] at hw; cases hw
        · rw [ml_rw (by omega) (by omega)] at hw; cases hw
      · rw [e4, en_up_ne _ _ _ _ (by omega), en_up_ne _ _ _ _ (by omega), f3 _ _ (by omega), ml_g f2 (by decide), en_up_ne _ _ _ _ (by omega), hz]
    · have a := kl_nle a
      rw [(by decide : (60 : Int32).toInt = 60)] at a
      have s1 := ml_in1 (x := x1) (by omega)
      refine ⟨kl_in h0 (by omega), fun I2 e2 => ih I2 _ ?_ ?_ ?_ (by omega) (by omega) (by omega)⟩
      · rw [e2]
        exact ml_we2 hm rfl (n := 60) (q := (-1, 3)) rfl (by decide)
      · rw [e2]; exact ml_fr hf (ml_rw (by decide) (by decide))
      · rw [e2, en_up_ne _ _ _ _ (by omega), hz]
theorem mx_read26 {S : sm_C} {d : Nat} {Φ : sm_Z → Prop} {w0 : sm_W} {L : sm_L} {R : sm_R} (hΦ : ∀ (r : Int32) (I : sm_I) (L : sm_L) (R : sm_R), 0 ≤ r.toInt → r.toInt ≤ 5 → en_mem ml_tb mlX (xLay, I, L, R) → en_fr ml_RW w0 (xLay, I, L, R) → I 107 2 = 0 → Φ (some (.int r), (xLay, I, L, kM R))) : ∀ (m : Nat) (I : sm_I) (x1 : Int32), en_mem ml_tb mlX (xLay, I, L, R) → en_fr ml_RW w0 (xLay, I, L, R) → I 107 2 = 0 → 0 ≤ x1.toInt → x1.toInt ≤ 10 → 10 - x1.toInt < m → sm_wp sm_P S (d + 1) 182 26 [.ref 107, .int x1] [] (xLay, I, L, kM R) (0, 0) Φ := by
  intro m
  induction m with
  | zero => intro I x1 hm hf hz h0 h1 hM; omega
  | succ m ih =>
    intro I x1 hm hf hz h0 h1 hM
    refine u_X12_read_26 ⟨fun _ => mx_read29 hΦ 61 I 0 hm hf hz (by decide) (by decide) (by decide), fun a => ?_⟩
    have a := kl_nle a
    rw [(by decide : (10 : Int32).toInt = 10)] at a
    have s1 := ml_in1 (x := x1) (by omega)
    refine ⟨kl_in h0 (by omega), fun I1 e1 => ⟨kl_in h0 (by omega), fun I2 e2 => ih I2 _ ?_ ?_ ?_ (by omega) (by omega) (by omega)⟩⟩
    · rw [e2, e1]
      exact ml_we2 (ml_we2 hm rfl (n := 10) (q := (0, 1)) rfl (ml_boo 0)) rfl (n := 10) (q := (-1, 1440)) rfl (by decide)
    · rw [e2, e1]; exact ml_fr (ml_fr hf (ml_rw (by decide) (by decide))) (ml_rw (by decide) (by decide))
    · rw [e2, en_up_ne _ _ _ _ (by omega), e1, en_up_ne _ _ _ _ (by omega), hz]
theorem mx_read21 {S : sm_C} {d : Nat} {Φ : sm_Z → Prop} {w0 : sm_W} {I : sm_I} {L : sm_L} {R : sm_R} {s1 : Int32} {l s : Nat} (hls : ml_ls l s) (hT : ml_TI l s I) (b1 : -1 ≤ s1.toInt ∧ s1.toInt ≤ 2000) (hm : en_mem ml_tb mlX (xLay, I, L, R)) (hf : en_fr ml_RW w0 (xLay, I, L, R)) (hz : I 107 2 = 0) (hΦ : ∀ (r : Int32) (I : sm_I) (L : sm_L) (R : sm_R), 0 ≤ r.toInt → r.toInt ≤ 5 → en_mem ml_tb mlX (xLay, I, L, R) → en_fr ml_RW w0 (xLay, I, L, R) → I 107 2 = 0 → Φ (some (.int r), (xLay, I, L, kM R))) : sm_wp sm_P S (d + 1) 182 21 [.ref 107] [.int s1, .ref 107] (xLay, I, L, kM R) (0, 0) Φ := by
  obtain ⟨hl, hs⟩ := ml_l1 hls
  have m1 : en_mem ml_tb mlX (xLay, sm_up I 107 17 s1, L, R) := ml_wf hm (by decide +kernel) (q := (-1, 2000)) (by decide +kernel) b1
  have f1 : en_fr ml_RW w0 (xLay, sm_up I 107 17 s1, L, R) := ml_fr hf (by decide +kernel)
  have z1 : sm_up I 107 17 s1 107 2 = 0 := by rw [en_up_ne _ _ _ _ (by omega)]; exact hz
  have b15 : 0 ≤ (sm_up I 107 17 s1 107 15).toInt ∧ (sm_up I 107 17 s1 107 15).toInt ≤ 5 := m1.2.1 107 15 (0, 5) (by decide +kernel)
  have b13 : 0 ≤ (sm_up I 107 17 s1 107 13).toInt ∧ (sm_up I 107 17 s1 107 13).toInt ≤ 5 := m1.2.1 107 13 (0, 5) (by decide +kernel)
  refine u_X12_read_21 ⟨fun _ => ⟨fun c => fun I1 e1 => ?_, fun _ => hΦ _ _ L R b15.1 b15.2 m1 f1 z1⟩, fun _ => hΦ _ _ L R b13.1 b13.2 m1 f1 z1⟩
  have c15 : I 107 15 = 0 := by
    have c := kl_le.mp c
    rw [kl_0] at c
    have e : sm_up I 107 17 s1 107 15 = I 107 15 := en_up_ne _ _ _ _ (by omega)
    rw [e] at c b15
    exact en_ofI (by rw [kl_0]; omega)
  have e19 : sm_up I 107 17 s1 107 19 = I 107 19 := en_up_ne _ _ _ _ (by omega)
  rw [e19] at e1
  have o1 : ∀ p j, ¬ (p = 107 ∧ (j = 17 ∨ j = 18)) → I1 p j = I p j := fun p j hp => by rw [e1, en_up_ne _ _ _ _ (by omega), en_up_ne _ _ _ _ (by omega)]
  have g18 : I1 107 18 = I 107 19 := by rw [e1, en_up_eq]
  have mI : en_mem ml_tb mlX (xLay, I1, L, R) := by
    have X := hm.2.2.2.2
    have hX : mlX (xLay, I1, L, R) := by
      refine ⟨rfl, fun k hk => ?_, fun k hk => ?_, mlP_cg (fun j => o1 165 j (by omega)) X.2.2.2.1, mlN_cg (fun j => o1 116 j (by omega)) (fun j => o1 117 j (by omega)) X.2.2.2.2.1, X.2.2.2.2.2⟩
      · show (I1 148 k).toInt ≤ 54 ∨ 60 ≤ (I1 148 k).toInt
        rw [o1 148 k (by omega)]; exact X.2.1 k hk
      · have hk : (k : Int) = (I1 107 18).toInt := hk
        rw [g18, hT.2.1] at hk
        have hk : k = s := by omega
        subst hk
        exact mlV_cg (fun p hp j => o1 p j (by omega)) (hT.2.2.2 c15)
    rw [e1] at hX ⊢
    refine ml_wr m1 hX (fun q hq => ?_)
    have e : en_int ml_tb 107 18 = some (0, 1) := by decide +kernel
    rw [e] at hq
    rw [← Option.some.inj hq]
    show 0 ≤ (I 107 19).toInt ∧ (I 107 19).toInt ≤ 1
    have := hT.2.1
    omega
  exact mx_read26 hΦ 11 I1 0 mI (by rw [e1]; exact ml_fr f1 (by decide +kernel)) (by rw [o1 _ _ (by omega)]; exact hz) (by decide) (by decide) (by decide)
theorem mx_read13 {S : sm_C} {d : Nat} {Φ : sm_Z → Prop} {w0 : sm_W} {R : sm_R} {l s : Nat} (hls : ml_ls l s) (hΦ : ∀ (r : Int32) (I : sm_I) (L : sm_L) (R : sm_R), 0 ≤ r.toInt → r.toInt ≤ 5 → en_mem ml_tb mlX (xLay, I, L, R) → en_fr ml_RW w0 (xLay, I, L, R) → I 107 2 = 0 → Φ (some (.int r), (xLay, I, L, kM R))) : ∀ (m : Nat) (I : sm_I) (L : sm_L), ml_TI l s I → en_mem ml_tb mlX (xLay, I, L, R) → en_fr ml_RW w0 (xLay, I, L, R) → I 107 2 = 0 → (I 107 13 = 0 → 500 - (I 107 11).toInt < m) → sm_wp sm_P S (d + 8) 182 13 [.ref 107] [] (xLay, I, L, kM R) (0, 0) Φ := by
  have out : ∀ (I : sm_I) (L : sm_L), ml_TI l s I → en_mem ml_tb mlX (xLay, I, L, R) → en_fr ml_RW w0 (xLay, I, L, R) → I 107 2 = 0 → (((I 107 13) ≤ 0 → (((I 107 15) ≤ 0 → sm_wp sm_P S (d + 8) 182 21 [.ref 107] [.int (-1 : Int32), .ref 107] (xLay, I, L, (kM R)) (0, 0) Φ) ∧ (¬ (I 107 15) ≤ 0 → sm_wp sm_P S (d + 8) 182 21 [.ref 107] [.int (I 107 16), .ref 107] (xLay, I, L, (kM R)) (0, 0) Φ))) ∧ (¬ (I 107 13) ≤ 0 → sm_wp sm_P S (d + 8) 182 21 [.ref 107] [.int (I 107 14), .ref 107] (xLay, I, L, (kM R)) (0, 0) Φ)) := by
    intro I L hT hm hf hz
    have b16 : 0 ≤ (I 107 16).toInt ∧ (I 107 16).toInt ≤ 2000 := hm.2.1 107 16 (0, 2000) (by decide +kernel)
    have b14 : 0 ≤ (I 107 14).toInt ∧ (I 107 14).toInt ≤ 2000 := hm.2.1 107 14 (0, 2000) (by decide +kernel)
    exact ⟨fun _ => ⟨fun _ => mx_read21 hls hT (by decide) hm hf hz hΦ, fun _ => mx_read21 hls hT (by omega) hm hf hz hΦ⟩, fun _ => mx_read21 hls hT (by omega) hm hf hz hΦ⟩
  intro m
  induction m with
  | zero =>
    intro I L hT hm hf hz hM
    refine u_X12_read_13 ⟨fun c => ?_, fun _ => out I L hT hm hf hz⟩
    have := hM c
    have bt : 0 ≤ (I 107 11).toInt ∧ (I 107 11).toInt ≤ 500 := ml_t hm
    omega
  | succ m ih =>
    intro I L hT hm hf hz hM
    refine u_X12_read_13 ⟨fun c => mx_is hm (fun r _ _ => ⟨r, I, L, R, rfl, fun _ => mx_tell hls hm hT (fun J L' o => ⟨J, L', R, rfl, ?_⟩), fun _ => out I L hT hm hf hz⟩), fun _ => out I L hT hm hf hz⟩
    have M := hM c
    obtain ⟨mJ, pJ, TJ, gJ⟩ := o
    refine ih J L' TJ mJ (ml_frD hf pJ) ?_ (fun cJ => ?_)
    · rw [pJ.1 107 2 (by unfold ml_Dl; omega) (by omega)]; exact hz
    · rcases gJ with g | g
      · exact absurd cJ g
      · omega
theorem mx_read11 {S : sm_C} {d : Nat} {Φ : sm_Z → Prop} {w0 : sm_W} {L : sm_L} {R : sm_R} {l s : Nat} (hls : ml_ls l s) (hΦ : ∀ (r : Int32) (I : sm_I) (L : sm_L) (R : sm_R), 0 ≤ r.toInt → r.toInt ≤ 5 → en_mem ml_tb mlX (xLay, I, L, R) → en_fr ml_RW w0 (xLay, I, L, R) → I 107 2 = 0 → Φ (some (.int r), (xLay, I, L, kM R))) : ∀ (m : Nat) (I : sm_I) (x1 : Int32), ml_TI l s I → en_mem ml_tb mlX (xLay, I, L, R) → en_fr ml_RW w0 (xLay, I, L, R) → I 107 2 = 0 → 0 ≤ x1.toInt → x1.toInt ≤ 10 → 10 - x1.toInt < m → sm_wp sm_P S (d + 8) 182 11 [.ref 107, .int x1] [] (xLay, I, L, kM R) (0, 0) Φ := by
  obtain ⟨hl, hs⟩ := ml_l1 hls
  intro m
  induction m with
  | zero => intro I x1 hT hm hf hz h0 h1 hM; omega
  | succ m ih =>
    intro I x1 hT hm hf hz h0 h1 hM
    have bt : 0 ≤ (I 107 11).toInt ∧ (I 107 11).toInt ≤ 500 := ml_t hm
    refine u_X12_read_11 ⟨fun _ => mx_read13 hls hΦ 501 I L hT hm hf hz (fun _ => by omega), fun a n1 e1 => ?_⟩
    have a := kl_nle a
    rw [(by decide : (10 : Int32).toInt = 10)] at a
    have s1 := ml_in1 (x := x1) (by omega)
    have q1 : ((10 : Int32) * (I 107 19)).toInt = 10 * (s : Int) := ml_mu (by decide) hT.2.1 (by omega) (by omega)
    have q2 : n1.toInt = 10 * (s : Int) + x1.toInt := by rw [e1]; exact ml_ad q1 rfl (by omega) (by omega)
    refine ⟨kl_in (by omega) (by omega), fun I2 e2 => ?_⟩
    have nn0 := kl_nat (i := n1) (by omega)
    have hls0 := hls
    unfold ml_ls at hls0
    have w := ml_w0 (L := L) (R := R) (l := l) (p := 135) (j := n1.toNatClampNeg) (x := -1) (n := 20) (q := (-1, 247)) hl hT.1 (by unfold ml_D0 ml_hm; omega) hm rfl (by decide)
    rw [← e2] at w
    exact ih I2 _ (ml_TI_0 hls hm w.2 hT) w.1 (by rw [e2]; exact ml_fr hf (ml_rw (by decide) (by decide))) (by rw [e2, en_up_ne _ _ _ _ (by omega)]; exact hz) (by omega) (by omega) (by omega)
theorem mx_read5 {S : sm_C} {d : Nat} {Φ : sm_Z → Prop} {w0 : sm_W} {L : sm_L} {R : sm_R} {l s : Nat} (hls : ml_ls l s) (hΦ : ∀ (r : Int32) (I : sm_I) (L : sm_L) (R : sm_R), 0 ≤ r.toInt → r.toInt ≤ 5 → en_mem ml_tb mlX (xLay, I, L, R) → en_fr ml_RW w0 (xLay, I, L, R) → I 107 2 = 0 → Φ (some (.int r), (xLay, I, L, kM R))) : ∀ (m : Nat) (I : sm_I) (x1 : Int32), ml_TI l s I → en_mem ml_tb mlX (xLay, I, L, R) → en_fr ml_RW w0 (xLay, I, L, R) → I 107 2 = 0 → 0 ≤ x1.toInt → x1.toInt ≤ 36 → 36 - x1.toInt < m → sm_wp sm_P S (d + 8) 182 5 [.ref 107, .int x1] [] (xLay, I, L, kM R) (0, 0) Φ := by
  obtain ⟨hl, hs⟩ := ml_l1 hls
  intro m
  induction m with
  | zero => intro I x1 hT hm hf hz h0 h1 hM; omega
  | succ m ih =>
    intro I x1 hT hm hf hz h0 h1 hM
    have s1 := ml_in1 (x := x1) (by omega)
    have w : ∀ v : Int32, x1.toInt < 36 → ∀ n3 : Int32, n3 = (((36 : Int32) * (I 107 19)) + x1) → (vp_in n3 72) ∧ ∀ I4 : sm_I, I4 = (sm_up I 121 n3.toNatClampNeg v) → sm_wp sm_P S (d + 8) 182 5 [.ref 107, .int (x1 + (1 : Int32))] [] (xLay, I4, L, (kM R)) (0, 0) Φ := by
      intro v a n3 e3
      have q1 : ((36 : Int32) * (I 107 19)).toInt = 36 * (s : Int) := ml_mu (by decide) hT.2.1 (by omega) (by omega)
      have q2 : n3.toInt = 36 * (s : Int) + x1.toInt := by rw [e3]; exact ml_ad q1 rfl (by omega) (by omega)
      refine ⟨kl_in (by omega) (by omega), fun I2 e2 => ?_⟩
      have nn0 := kl_nat (i := n3) (by omega)
      have hls0 := hls
      unfold ml_ls at hls0
      have w := ml_w0 (L := L) (R := R) (l := l) (p := 121) (j := n3.toNatClampNeg) (x := v) (n := 72) (q := (-2147483648, 2147483647)) hl hT.1 (by unfold ml_D0 ml_hm; omega) hm rfl en_crange
      rw [← e2] at w
      exact ih I2 _ (ml_TI_0 hls hm w.2 hT) w.1 (by rw [e2]; exact ml_fr hf (ml_rw (by decide) (by decide))) (by rw [e2, en_up_ne _ _ _ _ (by omega)]; exact hz) (by omega) (by omega) (by omega)
    refine u_X12_read_5 ⟨fun _ => mx_read11 hls hΦ 11 I 0 hT hm hf hz (by decide) (by decide) (by decide), fun a => ?_⟩
    have a := kl_nle a
    rw [(by decide : (36 : Int32).toInt = 36)] at a
    exact ⟨by decide, fun _ => w _ a, fun _ => w _ a⟩
/-- a counter of the side set to 0 -/
theorem ml_z0 {I : sm_I} {L : sm_L} {R : sm_R} {w0 : sm_W} {l s p : Nat} (hls : ml_ls l s) (hv : (I 107 18).toInt = l) (hp : p = 118 ∨ p = 119 ∨ p = 120 ∨ p = 122 ∨ p = 125 ∨ p = 134 ∨ p = 136) (hm : en_mem ml_tb mlX (xLay, I, L, R)) (hf : en_fr ml_RW w0 (xLay, I, L, R)) : en_mem ml_tb mlX (xLay, sm_up I p s 0, L, R) ∧ en_fr ml_RW w0 (xLay, sm_up I p s 0, L, R) := by
  obtain ⟨hl, hs⟩ := ml_l1 hls
  unfold ml_ls at hls
  refine ⟨ml_wt (l := l) hl hv ⟨by omega, by omega, by unfold ml_hl; omega⟩ (by omega) hm (fun q hq => ?_), ml_fr hf (ml_rw (by omega) (by omega))⟩
  rw [kl_0]
  rcases hp with e | e | e | e | e | e | e <;> subst e <;> rcases hls with ⟨-, e⟩ | ⟨-, e⟩ <;> subst e
  all_goals
    first
    | (rw [show en_int ml_tb 118 _ = some (0, 4) from rfl] at hq; rw [← Option.some.inj hq]; decide)
    | (rw [show en_int ml_tb 119 _ = some (0, 6) from rfl] at hq; rw [← Option.some.inj hq]; decide)
    | (rw [show en_int ml_tb 120 _ = some (0, 12) from rfl] at hq; rw [← Option.some.inj hq]; decide)
    | (rw [show en_int ml_tb 122 _ = some (0, 10) from rfl] at hq; rw [← Option.some.inj hq]; decide)
    | (rw [show en_int ml_tb 125 _ = some (0, 10) from rfl] at hq; rw [← Option.some.inj hq]; decide)
    | (rw [show en_int ml_tb 134 _ = some (0, 4) from rfl] at hq; rw [← Option.some.inj hq]; decide)
    | (rw [show en_int ml_tb 136 _ = some (0, 5) from rfl] at hq; rw [← Option.some.inj hq]; decide)
theorem mx_read1 {S : sm_C} {d : Nat} {Φ : sm_Z → Prop} {w0 : sm_W} {L : sm_L} {R : sm_R} (hΦ : ∀ (r : Int32) (I : sm_I) (L : sm_L) (R : sm_R), 0 ≤ r.toInt → r.toInt ≤ 5 → en_mem ml_tb mlX (xLay, I, L, R) → en_fr ml_RW w0 (xLay, I, L, R) → I 107 2 = 0 → Φ (some (.int r), (xLay, I, L, kM R))) : ∀ (m : Nat) (I : sm_I) (x1 : Int32), en_mem ml_tb mlX (xLay, I, L, R) → en_fr ml_RW w0 (xLay, I, L, R) → 0 ≤ x1.toInt → x1.toInt ≤ 2000 → 2000 - x1.toInt < m → sm_wp sm_P S (d + 8) 182 1 [.ref 107, .int x1] [] (xLay, I, L, kM R) (0, 0) Φ := by
  intro m
  induction m with
  | zero => intro I x1 hm hf h0 h1 hM; omega
  | succ m ih =>
    intro I x1 hm hf h0 h1 hM
    have bs := ml_sz hm
    refine u_X12_read_1 ⟨fun _ => ?_, fun a => ?_⟩
    · refine mx_cut (ml_wf hm (by decide +kernel) (q := (0, 2000)) (by decide +kernel) (by decide)) (fun I1 L1 m1 c1 => ⟨I1, L1, R, rfl, fun I5 e5 I6 e6 I7 e7 I8 e8 I9 e9 => ?_⟩)
      have hf0 : en_fr ml_RW w0 (xLay, sm_up I 107 2 0, L, R) := ml_fr hf (by decide +kernel)
      have hf1 : en_fr ml_RW w0 (xLay, I1, L1, R) := ml_fro hf0 (fun p j hw => c1 p j (fun c => by
        unfold ml_Dc at c
        rcases c with ⟨a, b⟩ | c | c | c
        · rw [a, b] at hw; exact absurd hw (by decide +kernel)
        · rw [ml_rw (by omega) (by omega)] at hw; cases hw
        · rw [ml_rw (by omega) (by omega)] at hw; cases hw
        · rw [ml_rw (by omega) (by omega)] at hw; cases hw))
      have z1 : I1 107 2 = 0 := by rw [c1 107 2 (by unfold ml_Dc; omega), en_up_eq]
      have m5 : en_mem ml_tb mlX (xLay, I5, L1, R) := by rw [e5]; exact ml_wf m1 (by decide +kernel) (q := (0, 500)) (by decide +kernel) (by decide)
      have m6 : en_mem ml_tb mlX (xLay, I6, L1, R) := by rw [e6]; exact ml_wf m5 (by decide +kernel) (q := (0, 5)) (by decide +kernel) (by decide)
      have m7 : en_mem ml_tb mlX (xLay, I7, L1, R) := by rw [e7]; exact ml_wf m6 (by decide +kernel) (q := (0, 5)) (by decide +kernel) (by decide)
      obtain ⟨l0, l1, ln, lc⟩ := ml_live m7
      have l0 : 0 ≤ (I7 107 18).toInt := l0
      have l1 : (I7 107 18).toInt ≤ 1 := l1
      have ln : ((I7 107 18).toNatClampNeg : Int) = (I7 107 18).toInt := ln
      have s19 : ((1 : Int32) - I7 107 18).toInt = 1 - (I7 107 18).toInt := by
        rw [Int32.toInt_sub, kl_1]; exact en_bmod (by omega) (by omega) (Or.inl rfl)
      have m8 : en_mem ml_tb mlX (xLay, I8, L1, R) := by rw [e8]; exact ml_wf m7 (by decide +kernel) (q := (0, 1)) (by decide +kernel) (by show 0 ≤ _ ∧ _ ≤ (1 : Int); omega)
      have m9 : en_mem ml_tb mlX (xLay, I9, L1, R) := by rw [e9]; exact ml_wf m8 (by decide +kernel) (q := (0, 50)) (by decide +kernel) (by decide)
      have f9 : en_fr ml_RW w0 (xLay, I9, L1, R) := by
        rw [e9, e8, e7, e6, e5]
        exact ml_fr (ml_fr (ml_fr (ml_fr (ml_fr hf1 (by decide +kernel)) (by decide +kernel)) (by decide +kernel)) (by decide +kernel)) (by decide +kernel)
      have g19 : (I9 107 19).toInt = 1 - (I7 107 18).toInt := by rw [e9, en_up_ne _ _ _ _ (by omega), e8, en_up_eq]; exact s19
      have g18 : (I9 107 18).toInt = (I7 107 18).toInt := by rw [e9, en_up_ne _ _ _ _ (by omega), e8, en_up_ne _ _ _ _ (by omega)]
      have z9 : I9 107 2 = 0 := by rw [e9, en_up_ne _ _ _ _ (by omega), e8, en_up_ne _ _ _ _ (by omega), e7, en_up_ne _ _ _ _ (by omega), e6, en_up_ne _ _ _ _ (by omega), e5, en_up_ne _ _ _ _ (by omega), z1]
      have n20 : I9 107 20 = 0 := by rw [e9, en_up_eq]
      obtain ⟨l, s, hls, hl, hs⟩ : ∃ l s : Nat, ml_ls l s ∧ (I9 107 18).toInt = l ∧ (I9 107 19).toInt = s := by
        rcases (by omega : (I7 107 18).toInt = 0 ∨ (I7 107 18).toInt = 1) with c | c
        · exact ⟨0, 1, Or.inl ⟨rfl, rfl⟩, by rw [g18, c]; rfl, by rw [g19, c]; rfl⟩
        · exact ⟨1, 0, Or.inr ⟨rfl, rfl⟩, by rw [g18, c]; rfl, by rw [g19, c]; rfl⟩
      have ns := kl_nat (i := I9 107 19) (by omega)
      have sn : (I9 107 19).toNatClampNeg = s := by omega
      have sv : vp_in (I9 107 19) 2 := kl_in (by omega) (by omega)
      clear s19 g18 g19 l0 l1 ln lc m5 m6 m7 m8 e5 e6 e7 e8 e9
      have st : ∀ (J : sm_I), (∀ p j, ¬ ((p = 118 ∨ p = 119 ∨ p = 120 ∨ p = 122 ∨ p = 125 ∨ p = 134 ∨ p = 136) ∧ j = s) → J p j = I9 p j) → J 107 19 = I9 107 19 ∧ (J 107 18).toInt = l := fun J o => ⟨o 107 19 (by omega), by rw [o 107 18 (by omega)]; exact hl⟩
      refine ⟨sv, fun I10 e10 => ?_⟩
      rw [sn] at e10
      have o10 : ∀ p j, ¬ ((p = 118 ∨ p = 119 ∨ p = 120 ∨ p = 122 ∨ p = 125 ∨ p = 134 ∨ p = 136) ∧ j = s) → I10 p j = I9 p j := fun p j hp => by rw [e10, en_up_ne _ _ _ _ (by omega)]
      have k10 := ml_z0 (p := 118) hls hl (by omega) m9 f9
      rw [← e10] at k10
      rw [(st I10 o10).1]
      refine ⟨sv, fun I11 e11 => ?_⟩
      rw [sn] at e11
      have o11 : ∀ p j, ¬ ((p = 118 ∨ p = 119 ∨ p = 120 ∨ p = 122 ∨ p = 125 ∨ p = 134 ∨ p = 136) ∧ j = s) → I11 p j = I9 p j := fun p j hp => by rw [e11, en_up_ne _ _ _ _ (by omega), o10 p j hp]
      have k11 := ml_z0 (p := 119) hls (st I10 o10).2 (by omega) k10.1 k10.2
      rw [← e11] at k11
      rw [(st I11 o11).1]
      refine ⟨sv, fun I12 e12 => ?_⟩
      rw [sn] at e12
      have o12 : ∀ p j, ¬ ((p = 118 ∨ p = 119 ∨ p = 120 ∨ p = 122 ∨ p = 125 ∨ p = 134 ∨ p = 136) ∧ j = s) → I12 p j = I9 p j := fun p j hp => by rw [e12, en_up_ne _ _ _ _ (by omega), o11 p j hp]
      have k12 := ml_z0 (p := 120) hls (st I11 o11).2 (by omega) k11.1 k11.2
      rw [← e12] at k12
      rw [(st I12 o12).1]
      refine ⟨sv, fun I13 e13 => ?_⟩
      rw [sn] at e13
      have o13 : ∀ p j, ¬ ((p = 118 ∨ p = 119 ∨ p = 120 ∨ p = 122 ∨ p = 125 ∨ p = 134 ∨ p = 136) ∧ j = s) → I13 p j = I9 p j := fun p j hp => by rw [e13, en_up_ne _ _ _ _ (by omega), o12 p j hp]
      have k13 := ml_z0 (p := 122) hls (st I12 o12).2 (by omega) k12.1 k12.2
      rw [← e13] at k13
      rw [(st I13 o13).1]
      refine ⟨sv, fun I14 e14 => ?_⟩
      rw [sn] at e14
      have o14 : ∀ p j, ¬ ((p = 118 ∨ p = 119 ∨ p = 120 ∨ p = 122 ∨ p = 125 ∨ p = 134 ∨ p = 136) ∧ j = s) → I14 p j = I9 p j := fun p j hp => by rw [e14, en_up_ne _ _ _ _ (by omega), o13 p j hp]
      have k14 := ml_z0 (p := 125) hls (st I13 o13).2 (by omega) k13.1 k13.2
      rw [← e14] at k14
      rw [(st I14 o14).1]
      refine ⟨sv, fun I15 e15 => ?_⟩
      rw [sn] at e15
      have o15 : ∀ p j, ¬ ((p = 118 ∨ p = 119 ∨ p = 120 ∨ p = 122 ∨ p = 125 ∨ p = 134 ∨ p = 136) ∧ j = s) → I15 p j = I9 p j := fun p j hp => by rw [e15, en_up_ne _ _ _ _ (by omega), o14 p j hp]
      have k15 := ml_z0 (p := 134) hls (st I14 o14).2 (by omega) k14.1 k14.2
      rw [← e15] at k15
      rw [(st I15 o15).1]
      refine ⟨sv, fun I16 e16 => ?_⟩
      rw [sn] at e16
      have o16 : ∀ p j, ¬ ((p = 118 ∨ p = 119 ∨ p = 120 ∨ p = 122 ∨ p = 125 ∨ p = 134 ∨ p = 136) ∧ j = s) → I16 p j = I9 p j := fun p j hp => by rw [e16, en_up_ne _ _ _ _ (by omega), o15 p j hp]
      have k16 := ml_z0 (p := 136) hls (st I15 o15).2 (by omega) k15.1 k15.2
      rw [← e16] at k16
      have z122 : I16 122 s = 0 := by rw [e16, en_up_ne _ _ _ _ (by omega), e15, en_up_ne _ _ _ _ (by omega), e14, en_up_ne _ _ _ _ (by omega), e13, en_up_eq]
      have z125 : I16 125 s = 0 := by rw [e16, en_up_ne _ _ _ _ (by omega), e15, en_up_ne _ _ _ _ (by omega), e14, en_up_eq]
      have T16 : ml_TI l s I16 := by
        have b := ml_cs (ml_l1 hls).2 k16.1
        refine ⟨(st I16 o16).2, by rw [(st I16 o16).1]; exact hs, ?_, fun _ => ⟨fun i hi => ?_, fun k c i hk => ?_⟩⟩
        · rw [o16 107 20 (by omega), n20, kl_0]
          unfold ml_sum
          omega
        · rw [z122, kl_0] at hi; omega
        · rw [z125, kl_0] at hk; omega
      exact mx_read5 hls hΦ 37 I16 0 T16 k16.1 k16.2 (by rw [o16 107 2 (by omega), z9]) (by decide) (by decide) (by decide)
    · have a := kl_nle a
      have s1 := ml_in1 (x := x1) (by omega)
      have v : vp_in x1 2000 := kl_in h0 (by omega)
      refine ⟨v, v, fun I18 e18 => ih I18 _ ?_ ?_ (by omega) (by omega) (by omega)⟩
      · rw [e18]
        exact ml_we2 hm rfl (n := 2000) (q := (-128, 127)) rfl (ml_byte _)
      · rw [e18]; exact ml_fr hf (ml_rw (by decide) (by decide))
/-- read, and that nothing is left on the tape -/
theorem mx_read {S : sm_C} {d : Nat} {Φ : sm_Z → Prop} {I : sm_I} {L : sm_L} {R : sm_R} (hm : en_mem ml_tb mlX (xLay, I, L, R)) (hΦ : ∀ (r : Int32) (J : sm_I) (L' : sm_L) (R' : sm_R), 0 ≤ r.toInt → r.toInt ≤ 5 → en_mem ml_tb mlX (xLay, J, L', R') → en_fr ml_RW (xLay, I, L, R) (xLay, J, L', R') → J 107 2 = 0 → Φ (some (.int r), (xLay, J, L', kM R'))) : sm_wp sm_P S (d + 8) 182 0 [.ref 107] [] (xLay, I, L, kM R) (0, 0) Φ := by
  have b : 0 ≤ (I 107 2).toInt ∧ (I 107 2).toInt ≤ 2000 := ml_taped hm
  refine u_X12_read_0 (mx_read1 hΦ 2001 _ 0 (ml_wf hm (by decide +kernel) (q := (0, 2000)) (by decide +kernel) b) (ml_fr en_fr_rf (by decide +kernel)) (by decide) (by decide) (by decide))
theorem mlh_65 {Sc : sm_C} : en_hold ml_tb mlX sm_P Sc mlc_65 := by
  intro d hd vs w hv hm _
  obtain ⟨vs1, rfl, hv1⟩ := kl_vr (q := 107) rfl hv
  obtain rfl := kl_v0 hv1
  have hd : 8 ≤ d := hd
  obtain ⟨d, rfl⟩ : ∃ d', d = d' + 8 := ⟨d - 8, by omega⟩
  refine ml_top hm (fun I L R hw hm => ?_)
  exact mx_read hm (fun r J L' R' r0 r1 m f _ => ⟨_, J, L', R', rfl, Or.inl ⟨rfl, r0, r1⟩, m, f⟩)
end
section
/-! THE MACHINE OVER INTERVALS: the small machine's run over values that are known, or are an int of the script and a number, or are any; a test on an int of the script narrows its interval, a test on any goes both ways. It answers true if every road comes to an end with what is asked. It is written so that the kernel can run it: continuations, and numbers made plain at once. -/
abbrev ab_V : Type := Nat × Int
abbrev ab_T : Type := Lean.RArray ab_V
abbrev ab_Q : Type := Nat × Nat × ab_T
abbrev ab_M : Type := Nat × Lean.RArray ab_Q
abbrev ab_L : Type := List (Nat × ab_V)
abbrev ab_E : Type := List (Int × Int)
noncomputable def ab_if {α : Type} (c : Bool) (x y : α) : α := Bool.rec (motive := fun _ => α) y x c
noncomputable def ab_an (p q : Bool) : Bool := Bool.rec (motive := fun _ => Bool) false q p
noncomputable def ab_oo (p q : Bool) : Bool := Bool.rec (motive := fun _ => Bool) q true p
theorem ab_or2 {p q : Bool} (h : ab_oo p q = true) : p = true ∨ q = true := by
  cases p
  · exact Or.inr h
  · exact Or.inl rfl
theorem ab_oo_r {p q : Bool} (h : q = true) : ab_oo p q = true := by
  cases p
  · exact h
  · rfl
noncomputable def ab_fn (n : Nat) (c : Nat → Bool) : Bool := Nat.rec (motive := fun _ => Bool) (c 0) (fun m _ => c (Nat.succ m)) n
noncomputable def ab_fi (i : Int) (c : Int → Bool) : Bool := Int.rec (motive := fun _ => Bool) (fun n => ab_fn n (fun m => c (.ofNat m))) (fun n => ab_fn n (fun m => c (.negSucc m))) i
noncomputable def ab_fv (a : ab_V) (c : ab_V → Bool) : Bool := ab_fn a.1 (fun t => ab_fi a.2 (fun i => c (t, i)))
theorem ab_fn_eq (n : Nat) (c : Nat → Bool) : ab_fn n c = c n := by cases n <;> rfl
theorem ab_fi_eq (i : Int) (c : Int → Bool) : ab_fi i c = c i := by
  cases i with
  | ofNat n => show ab_fn n (fun m => c (.ofNat m)) = _; rw [ab_fn_eq]
  | negSucc n => show ab_fn n (fun m => c (.negSucc m)) = _; rw [ab_fn_eq]
theorem ab_fv_eq (a : ab_V) (c : ab_V → Bool) : ab_fv a c = c a := by
  show ab_fn a.1 (fun t => ab_fi a.2 (fun i => c (t, i))) = c a
  rw [ab_fn_eq, ab_fi_eq]
noncomputable def ab_le (a b : Int) : Bool := Int.rec (motive := fun _ => Bool) (fun _ => true) (fun _ => false) (Int.sub b a)
noncomputable def ab_eq (a b : Int) : Bool := Int.rec (motive := fun _ => Bool) (fun n => Nat.beq n 0) (fun _ => false) (Int.sub a b)
theorem ab_le_iff {a b : Int} : ab_le a b = true ↔ a ≤ b := by
  unfold ab_le
  have e : Int.sub b a = b - a := rfl
  rw [e]
  cases h : b - a with
  | ofNat n => exact ⟨fun _ => by have : b - a = (n : Int) := h; omega, fun _ => rfl⟩
  | negSucc n => exact ⟨fun q => (by cases q), fun q => by have : b - a = Int.negSucc n := h; rw [Int.negSucc_eq] at this; omega⟩
theorem ab_eq_iff {a b : Int} : ab_eq a b = true ↔ a = b := by
  unfold ab_eq
  have e : Int.sub a b = a - b := rfl
  rw [e]
  cases h : a - b with
  | ofNat n =>
    have h : a - b = (n : Int) := h
    constructor
    · intro q
      have : n = 0 := Nat.eq_of_beq_eq_true q
      omega
    · intro q
      have : n = 0 := by omega
      subst this
      rfl
  | negSucc n => exact ⟨fun q => (by cases q), fun q => by have : a - b = Int.negSucc n := h; rw [Int.negSucc_eq] at this; omega⟩
theorem ab_le_no {a b : Int} (h : ab_le a b = false) : b < a := by
  rcases Int.lt_or_le b a with q | q
  · exact q
  · rw [ab_le_iff.mpr q] at h; cases h
theorem ab_eq_no {a b : Int} (h : ab_eq a b = false) : a ≠ b := fun q => by rw [ab_eq_iff.mpr q] at h; cases h
/-! trees -/
noncomputable def ab_tg {α : Type} (t : Lean.RArray α) : Nat → α := Lean.RArray.rec (motive := fun _ => Nat → α) (fun v _ => v) (fun _ _ _ gl gr k => ab_if (Nat.beq (Nat.mod k 2) 0) (gl (Nat.div k 2)) (gr (Nat.div k 2))) t
noncomputable def ab_tn {α : Type} (u v : α) (d : Nat) : Nat → (Lean.RArray α → Bool) → Bool := Nat.rec (motive := fun _ => Nat → (Lean.RArray α → Bool) → Bool) (fun _ c => c (.leaf v)) (fun _ r k c => ab_if (Nat.beq (Nat.mod k 2) 0) (r (Nat.div k 2) (fun t => c (.branch 0 t (.leaf u)))) (r (Nat.div k 2) (fun t => c (.branch 0 (.leaf u) t)))) d
noncomputable def ab_ts {α : Type} (v : α) (t : Lean.RArray α) : Nat → Nat → (Lean.RArray α → Bool) → Bool := Lean.RArray.rec (motive := fun _ => Nat → Nat → (Lean.RArray α → Bool) → Bool) (fun u d k c => ab_tn u v d k c) (fun _ l r sl sr d k c => Nat.rec (motive := fun _ => Bool) (c (.leaf v)) (fun d' _ => ab_if (Nat.beq (Nat.mod k 2) 0) (sl d' (Nat.div k 2) (fun t => c (.branch 0 t r))) (sr d' (Nat.div k 2) (fun t => c (.branch 0 l t)))) d) t
theorem ab_tg_leaf {α : Type} (v : α) (k : Nat) : ab_tg (.leaf v) k = v := rfl
theorem ab_tg_branch {α : Type} (p : Nat) (l r : Lean.RArray α) (k : Nat) : ab_tg (.branch p l r) k = if k % 2 = 0 then ab_tg l (k / 2) else ab_tg r (k / 2) := by
  show (ab_if (Nat.beq (k % 2) 0) (ab_tg l (k / 2)) (ab_tg r (k / 2))) = _
  by_cases h : k % 2 = 0
  · rw [if_pos h, h]; rfl
  · rw [if_neg h]
    have : Nat.beq (k % 2) 0 = false := by
      cases e : Nat.beq (k % 2) 0 with
      | false => rfl
      | true => exact absurd (Nat.eq_of_beq_eq_true e) h
    rw [this]; rfl
theorem ab_par (k : Nat) : (Nat.beq (Nat.mod k 2) 0 = true ∧ k % 2 = 0) ∨ (Nat.beq (Nat.mod k 2) 0 = false ∧ k % 2 = 1) := by
  rcases Nat.mod_two_eq_zero_or_one k with h | h
  · left; refine ⟨?_, h⟩; show Nat.beq (k % 2) 0 = true; rw [h]; rfl
  · right; refine ⟨?_, h⟩; show Nat.beq (k % 2) 0 = false; rw [h]; rfl
theorem ab_half {k d : Nat} (h : k < 2 ^ (d + 1)) : k / 2 < 2 ^ d := by
  rw [Nat.pow_succ] at h
  omega
theorem ab_tn_ok {α : Type} {u v : α} : ∀ (d k : Nat) (c : Lean.RArray α → Bool), ab_tn u v d k c = true → k < 2 ^ d → ∃ t, c t = true ∧ ∀ k', k' < 2 ^ d → ab_tg t k' = if k' = k then v else u := by
  intro d
  induction d with
  | zero =>
    intro k c h hk
    refine ⟨.leaf v, h, fun k' hk' => ?_⟩
    rw [if_pos (by omega)]
    rfl
  | succ d ih =>
    intro k c h hk
    have h : (ab_if (Nat.beq (Nat.mod k 2) 0) (ab_tn u v d (k / 2) (fun t => c (.branch 0 t (.leaf u)))) (ab_tn u v d (k / 2) (fun t => c (.branch 0 (.leaf u) t)))) = true := h
    have hk2 := ab_half hk
    rcases ab_par k with ⟨q, e⟩ | ⟨q, e⟩
    · rw [q] at h
      obtain ⟨t, h1, h2⟩ := ih _ _ h hk2
      refine ⟨_, h1, fun k' hk' => ?_⟩
      rw [ab_tg_branch]
      by_cases e' : k' % 2 = 0
      · rw [if_pos e', h2 _ (ab_half hk')]
        by_cases g : k' / 2 = k / 2
        · rw [if_pos g, if_pos (by omega)]
        · rw [if_neg g, if_neg (by omega)]
      · rw [if_neg e', if_neg (by omega)]; rfl
    · rw [q] at h
      obtain ⟨t, h1, h2⟩ := ih _ _ h hk2
      refine ⟨_, h1, fun k' hk' => ?_⟩
      rw [ab_tg_branch]
      by_cases e' : k' % 2 = 0
      · rw [if_pos e', if_neg (by omega)]; rfl
      · rw [if_neg e', h2 _ (ab_half hk')]
        by_cases g : k' / 2 = k / 2
        · rw [if_pos g, if_pos (by omega)]
        · rw [if_neg g, if_neg (by omega)]
theorem ab_ts_ok {α : Type} {v : α} : ∀ (t : Lean.RArray α) (d k : Nat) (c : Lean.RArray α → Bool), ab_ts v t d k c = true → k < 2 ^ d → ∃ t', c t' = true ∧ ∀ k', k' < 2 ^ d → ab_tg t' k' = if k' = k then v else ab_tg t k' := by
  intro t
  induction t with
  | leaf u => intro d k c h hk; exact ab_tn_ok d k c h hk
  | branch p l r ihl ihr =>
    intro d k c h hk
    cases d with
    | zero =>
      refine ⟨.leaf v, h, fun k' hk' => ?_⟩
      rw [if_pos (by omega)]
      rfl
    | succ d =>
      have h : (ab_if (Nat.beq (Nat.mod k 2) 0) (ab_ts v l d (k / 2) (fun t => c (.branch 0 t r))) (ab_ts v r d (k / 2) (fun t => c (.branch 0 l t)))) = true := h
      have hk2 := ab_half hk
      rcases ab_par k with ⟨q, e⟩ | ⟨q, e⟩
      · rw [q] at h
        obtain ⟨t, h1, h2⟩ := ihl _ _ _ h hk2
        refine ⟨_, h1, fun k' hk' => ?_⟩
        rw [ab_tg_branch, ab_tg_branch]
        by_cases e' : k' % 2 = 0
        · rw [if_pos e', if_pos e', h2 _ (ab_half hk')]
          by_cases g : k' / 2 = k / 2
          · rw [if_pos g, if_pos (by omega)]
          · rw [if_neg g, if_neg (by omega)]
        · rw [if_neg e', if_neg e', if_neg (by omega)]
      · rw [q] at h
        obtain ⟨t, h1, h2⟩ := ihr _ _ _ h hk2
        refine ⟨_, h1, fun k' hk' => ?_⟩
        rw [ab_tg_branch, ab_tg_branch]
        by_cases e' : k' % 2 = 0
        · rw [if_pos e', if_pos e', if_neg (by omega)]
        · rw [if_neg e', if_neg e', h2 _ (ab_half hk')]
          by_cases g : k' / 2 = k / 2
          · rw [if_pos g, if_pos (by omega)]
          · rw [if_neg g, if_neg (by omega)]
/-! values -/
noncomputable def ab_isI (t : Nat) : Bool := ab_oo (Nat.beq t 0) ((ab_oo (Nat.beq t 3) (Nat.ble 6 t)))
noncomputable def ab_gi (xs : Nat → Int32) (a : ab_V) (n : Int) : Prop := (a.1 = 0 ∧ n = a.2) ∨ a.1 = 3 ∨ (a.1 = 6 ∧ n ≠ 0) ∨ (7 ≤ a.1 ∧ n = (xs (a.1 - 7)).toInt + a.2)
noncomputable def ab_g (xs : Nat → Int32) (a : ab_V) (v : Value) : Prop := match v with
  | .int x => ab_gi xs a x.toInt
  | .long x => (a.1 = 4 ∧ x.toInt = a.2) ∨ a.1 = 5
  | .null => a.1 = 1
  | .ref p => a.1 = 2 ∧ a.2 = (p : Int)
  | _ => False
noncomputable def ab_cat (a : ab_V) : Nat := ab_if (ab_oo (Nat.beq a.1 4) (Nat.beq a.1 5)) (2) (1)
noncomputable def ab_full : Int × Int := (Int.negSucc 2147483647, Int.ofNat 2147483647)
noncomputable def ab_sat (xs : Nat → Int32) (E : ab_E) : Prop := ∀ k, (E.getD k ab_full).1 ≤ (xs k).toInt ∧ (xs k).toInt ≤ (E.getD k ab_full).2
noncomputable def ab_gs (xs : Nat → Int32) : List ab_V → List Value → Prop
  | [], [] => True
  | a :: as, v :: vs => ab_g xs a v ∧ ab_gs xs as vs
  | [], _ :: _ => False
  | _ :: _, [] => False
noncomputable def ab_gl (xs : Nat → Int32) : ab_L → sm_V → Prop
  | [], [] => True
  | (i, a) :: as, (j, v) :: vs => (i = j ∧ ab_g xs a v) ∧ ab_gl xs as vs
  | [], _ :: _ => False
  | _ :: _, [] => False
section AbV
variable {xs : Nat → Int32} {a b : ab_V} {as : List ab_V} {lv : ab_L} {v : Value} {vs : List Value} {lv' : sm_V}
theorem ab_beq {n m : Nat} (h : Nat.beq n m = true) : n = m := Nat.eq_of_beq_eq_true h
theorem ab_bne {n m : Nat} (h : Nat.beq n m = false) : n ≠ m := fun e => by
  subst e
  have : Nat.beq n n = true := Nat.beq_refl n
  rw [this] at h
  cases h
theorem ab_ble {n m : Nat} (h : Nat.ble n m = true) : n ≤ m := Nat.le_of_ble_eq_true h
theorem ab_blt {n m : Nat} (h : Nat.blt n m = true) : n < m := Nat.le_of_ble_eq_true h
theorem ab_isI_of (h : ab_isI a.1 = true) (hg : ab_g xs a v) : ∃ x, v = .int x ∧ ab_gi xs a x.toInt := by
  have h1 : a.1 = 0 ∨ a.1 = 3 ∨ 6 ≤ a.1 := by
    rcases ab_or2 h with h | h
    · exact Or.inl (ab_beq h)
    · rcases ab_or2 h with h | h
      · exact Or.inr (Or.inl (ab_beq h))
      · exact Or.inr (Or.inr (ab_ble h))
  cases v with
  | int x => exact ⟨x, rfl, hg⟩
  | long x => rcases hg with ⟨q, -⟩ | q <;> omega
  | null => have q : a.1 = 1 := hg; omega
  | ref p => have q := hg.1; omega
  | float _ => exact hg.elim
  | double _ => exact hg.elim
  | retAddr _ => exact hg.elim
theorem ab_0_of (h : a.1 = 0) (hg : ab_g xs a v) : ∃ x, v = .int x ∧ x.toInt = a.2 := by
  obtain ⟨x, rfl, q⟩ := ab_isI_of (by rw [h]; rfl) hg
  refine ⟨x, rfl, ?_⟩
  rcases q with ⟨-, q⟩ | q | ⟨q, -⟩ | ⟨q, -⟩
  · exact q
  · omega
  · omega
  · omega
theorem ab_gi0 (n : Int) : ab_gi xs (0, n) n := Or.inl ⟨rfl, rfl⟩
theorem ab_gi3 (n m : Int) : ab_gi xs (3, m) n := Or.inr (Or.inl rfl)
theorem ab_ref_of (h : a.1 = 2) (hg : ab_g xs a v) : ∃ p : Nat, v = .ref p ∧ a.2 = (p : Int) := by
  cases v with
  | int x => rcases hg with ⟨q, -⟩ | q | ⟨q, -⟩ | ⟨q, -⟩ <;> omega
  | long x => rcases hg with ⟨q, -⟩ | q <;> omega
  | null => have q : a.1 = 1 := hg; omega
  | ref p => exact ⟨p, rfl, hg.2⟩
  | float _ => exact hg.elim
  | double _ => exact hg.elim
  | retAddr _ => exact hg.elim
theorem ab_null_of (h : a.1 = 1) (hg : ab_g xs a v) : v = .null := by
  cases v with
  | int x => rcases hg with ⟨q, -⟩ | q | ⟨q, -⟩ | ⟨q, -⟩ <;> omega
  | long x => rcases hg with ⟨q, -⟩ | q <;> omega
  | null => rfl
  | ref p => have q := hg.1; omega
  | float _ => exact hg.elim
  | double _ => exact hg.elim
  | retAddr _ => exact hg.elim
theorem ab_long_of (h : a.1 = 4 ∨ a.1 = 5) (hg : ab_g xs a v) : ∃ x, v = .long x ∧ (a.1 = 4 → x.toInt = a.2) := by
  cases v with
  | int x => rcases hg with ⟨q, -⟩ | q | ⟨q, -⟩ | ⟨q, -⟩ <;> omega
  | long x =>
    refine ⟨x, rfl, fun e => ?_⟩
    rcases hg with ⟨-, q⟩ | q
    · exact q
    · omega
  | null => have q : a.1 = 1 := hg; omega
  | ref p => have q := hg.1; omega
  | float _ => exact hg.elim
  | double _ => exact hg.elim
  | retAddr _ => exact hg.elim
theorem ab_cat_of (hg : ab_g xs a v) : v.category = ab_cat a := by
  obtain ⟨t, i⟩ := a
  cases v with
  | int x =>
    show 1 = ab_if (ab_oo (Nat.beq t 4) (Nat.beq t 5)) (2) (1)
    have h1 : Nat.beq t 4 = false := by
      cases e : Nat.beq t 4 with
      | false => rfl
      | true => have := ab_beq e; rcases hg with ⟨q, -⟩ | q | ⟨q, -⟩ | ⟨q, -⟩ <;> simp only at q <;> omega
    have h2 : Nat.beq t 5 = false := by
      cases e : Nat.beq t 5 with
      | false => rfl
      | true => have := ab_beq e; rcases hg with ⟨q, -⟩ | q | ⟨q, -⟩ | ⟨q, -⟩ <;> simp only at q <;> omega
    rw [h1, h2]; rfl
  | long x =>
    rcases hg with ⟨q, -⟩ | q
    · have q : t = 4 := q; subst q; rfl
    · have q : t = 5 := q; subst q; rfl
  | null => have q : t = 1 := hg; subst q; rfl
  | ref p => have q : t = 2 := hg.1; subst q; rfl
  | float _ => exact hg.elim
  | double _ => exact hg.elim
  | retAddr _ => exact hg.elim
theorem ab_gs_cons (h : ab_gs xs (a :: as) vs) : ∃ v r, vs = v :: r ∧ ab_g xs a v ∧ ab_gs xs as r := by
  cases vs with
  | nil => exact h.elim
  | cons v r => exact ⟨v, r, rfl, h.1, h.2⟩
theorem ab_gs_nil (h : ab_gs xs [] vs) : vs = [] := by
  cases vs with
  | nil => rfl
  | cons v r => exact h.elim
theorem ab_gs_len : ∀ {as : List ab_V} {vs : List Value}, ab_gs xs as vs → as.length = vs.length
  | [], [], _ => rfl
  | a :: as, v :: vs, h => by simp only [List.length_cons]; rw [ab_gs_len h.2]
  | [], _ :: _, h => h.elim
  | _ :: _, [], h => h.elim
theorem ab_gs_cats : ∀ {as : List ab_V} {vs : List Value}, ab_gs xs as vs → (vs.map fun v => v.category) = as.map ab_cat
  | [], [], _ => rfl
  | a :: as, v :: vs, h => by simp only [List.map_cons]; rw [ab_gs_cats h.2, ab_cat_of h.1]
  | [], _ :: _, h => h.elim
  | _ :: _, [], h => h.elim
theorem ab_gs_app : ∀ {as : List ab_V} {vs : List Value} {bs : List ab_V} {us : List Value}, ab_gs xs as vs → ab_gs xs bs us → ab_gs xs (as ++ bs) (vs ++ us)
  | [], [], _, _, _, h2 => h2
  | a :: as, v :: vs, _, _, h, h2 => ⟨h.1, ab_gs_app h.2 h2⟩
  | [], _ :: _, _, _, h, _ => h.elim
  | _ :: _, [], _, _, h, _ => h.elim
theorem ab_gs_rev : ∀ {as : List ab_V} {vs : List Value}, ab_gs xs as vs → ab_gs xs as.reverse vs.reverse
  | [], [], _ => trivial
  | a :: as, v :: vs, h => by
    rw [List.reverse_cons, List.reverse_cons]
    exact ab_gs_app (ab_gs_rev h.2) ⟨h.1, trivial⟩
  | [], _ :: _, h => h.elim
  | _ :: _, [], h => h.elim
theorem ab_gs_take : ∀ (n : Nat) {as : List ab_V} {vs : List Value}, ab_gs xs as vs → ab_gs xs (as.take n) (vs.take n)
  | 0, _, _, _ => trivial
  | n + 1, [], [], _ => trivial
  | n + 1, a :: as, v :: vs, h => ⟨h.1, ab_gs_take n h.2⟩
  | _ + 1, [], _ :: _, h => h.elim
  | _ + 1, _ :: _, [], h => h.elim
theorem ab_gs_drop : ∀ (n : Nat) {as : List ab_V} {vs : List Value}, ab_gs xs as vs → ab_gs xs (as.drop n) (vs.drop n)
  | 0, _, _, h => h
  | n + 1, [], [], _ => trivial
  | n + 1, a :: as, v :: vs, h => ab_gs_drop n h.2
  | _ + 1, [], _ :: _, h => h.elim
  | _ + 1, _ :: _, [], h => h.elim
/-! locals -/
noncomputable def ab_lk (lv : ab_L) (i : Nat) (c : ab_V → Bool) : Bool := List.rec (motive := fun _ => Bool) false (fun q _ ih => ab_if (Nat.beq q.1 i) (c q.2) (ih)) lv
theorem ab_lk_ok {i : Nat} {c : ab_V → Bool} : ∀ {lv : ab_L} {lv' : sm_V}, ab_gl xs lv lv' → ab_lk lv i c = true → ∃ a v, sm_lk lv' i = some v ∧ ab_g xs a v ∧ c a = true
  | [], _, _, h => by cases h
  | (j, a) :: r, (j', v) :: r', hg, h => by
    obtain ⟨⟨rfl, h1⟩, h2⟩ := hg
    have h : (ab_if (Nat.beq j i) (c a) (ab_lk r i c)) = true := h
    cases e : Nat.beq j i with
    | true =>
      rw [e] at h
      have := ab_beq e
      subst this
      exact ⟨a, v, by show (if j = j then some v else sm_lk r' j) = some v; rw [if_pos rfl], h1, h⟩
    | false =>
      rw [e] at h
      obtain ⟨a', v', q1, q2, q3⟩ := ab_lk_ok h2 h
      exact ⟨a', v', by show (if j = i then some v else sm_lk r' i) = some v'; rw [if_neg (ab_bne e)]; exact q1, q2, q3⟩
  | _ :: _, [], h, _ => h.elim
noncomputable def ab_pick (live : List Nat) (lv : ab_L) : (List ab_V → Bool) → Bool := List.rec (motive := fun _ => (List ab_V → Bool) → Bool) (fun c => c []) (fun i _ ih c => ab_lk lv i (fun v => ih (fun vs => c (v :: vs)))) live
theorem ab_pick_ok (hg : ab_gl xs lv lv') : ∀ {live : List Nat} {c : List ab_V → Bool}, ab_pick live lv c = true → ∃ as vs, sm_pick live lv' = some vs ∧ ab_gs xs as vs ∧ c as = true
  | [], c, h => ⟨[], [], rfl, trivial, h⟩
  | i :: r, c, h => by
    have h : ab_lk lv i (fun v => ab_pick r lv (fun vs => c (v :: vs))) = true := h
    obtain ⟨a, v, q1, q2, h⟩ := ab_lk_ok hg h
    obtain ⟨as, vs, q3, q4, q5⟩ := ab_pick_ok hg h
    exact ⟨a :: as, v :: vs, by simp only [sm_pick, q1, q3], ⟨q2, q4⟩, q5⟩
noncomputable def ab_f1 (i : Nat) (q : Nat × ab_V) : Bool := ab_if (Nat.beq q.1 i) false (ab_if (Nat.beq (Nat.succ q.1) i) (ab_if (Nat.beq (ab_cat q.2) 2) false true) true)
noncomputable def ab_f2 (i : Nat) (q : Nat × ab_V) : Bool := ab_if (Nat.beq q.1 i) false (ab_if (Nat.beq q.1 (Nat.succ i)) false (ab_if (Nat.beq (Nat.succ q.1) i) (ab_if (Nat.beq (ab_cat q.2) 2) false true) true))
noncomputable def ab_flt (f : Nat × ab_V → Bool) (lv : ab_L) : ab_L := List.rec (motive := fun _ => ab_L) [] (fun q _ ih => ab_if (f q) (q :: ih) (ih)) lv
theorem ab_flt_eq (f : Nat × ab_V → Bool) : ∀ lv : ab_L, ab_flt f lv = lv.filter f
  | [] => rfl
  | q :: r => by
    show (ab_if (f q) (q :: ab_flt f r) (ab_flt f r)) = _
    rw [ab_flt_eq f r]
    cases e : f q with
    | true => rw [List.filter_cons_of_pos e]; rfl
    | false => rw [List.filter_cons_of_neg (by rw [e]; decide)]; rfl
theorem ab_beq_eq (n m : Nat) : Nat.beq n m = (n == m) := by
  rw [Bool.eq_iff_iff, beq_iff_eq]
  exact ⟨ab_beq, fun e => by rw [e]; exact Nat.beq_refl m⟩
theorem ab_f1_eq (i : Nat) (q : Nat × ab_V) : ab_f1 i q = (!(q.1 == i) && !(q.1 + 1 == i && ab_cat q.2 == 2)) := by
  simp only [ab_f1, ab_beq_eq, Nat.succ_eq_add_one]
  cases (q.1 == i) <;> cases (q.1 + 1 == i) <;> cases (ab_cat q.2 == 2) <;> rfl
noncomputable def ab_s1 (lv : ab_L) (i : Nat) (a : ab_V) : ab_L := (i, a) :: ab_flt (ab_f1 i) lv
theorem ab_f2_eq (i : Nat) (q : Nat × ab_V) : ab_f2 i q = (!(q.1 == i) && (!(q.1 == i + 1) && !(q.1 + 1 == i && ab_cat q.2 == 2))) := by
  simp only [ab_f2, ab_beq_eq, Nat.succ_eq_add_one]
  cases (q.1 == i) <;> cases (q.1 == i + 1) <;> cases (q.1 + 1 == i) <;> cases (ab_cat q.2 == 2) <;> rfl
noncomputable def ab_s2 (lv : ab_L) (i : Nat) (a : ab_V) : ab_L := (i, a) :: ab_flt (ab_f2 i) lv
theorem ab_filter {f : Nat × ab_V → Bool} {g : Nat × Value → Bool} (hfg : ∀ j a v, ab_g xs a v → f (j, a) = g (j, v)) : ∀ {lv : ab_L} {lv' : sm_V}, ab_gl xs lv lv' → ab_gl xs (lv.filter f) (lv'.filter g)
  | [], [], _ => trivial
  | (j, a) :: r, (j', v) :: r', hg => by
    obtain ⟨⟨rfl, h1⟩, h2⟩ := hg
    have e := hfg j a v h1
    cases q : f (j, a) with
    | true =>
      rw [List.filter_cons_of_pos q, List.filter_cons_of_pos (by rw [← e]; exact q)]
      exact ⟨⟨rfl, h1⟩, ab_filter hfg h2⟩
    | false =>
      rw [List.filter_cons_of_neg (by rw [q]; decide), List.filter_cons_of_neg (by rw [← e, q]; decide)]
      exact ab_filter hfg h2
  | [], _ :: _, h => h.elim
  | _ :: _, [], h => h.elim
theorem ab_s1_ok {i : Nat} (hg : ab_gl xs lv lv') (h : ab_g xs a v) : ab_gl xs (ab_s1 lv i a) (sm_s1 lv' i v) := by
  unfold ab_s1
  rw [ab_flt_eq]
  refine ⟨⟨rfl, h⟩, ab_filter (fun j a v q => ?_) hg⟩
  rw [ab_cat_of q]
  exact ab_f1_eq i (j, a)
theorem ab_s2_ok {i : Nat} (hg : ab_gl xs lv lv') (h : ab_g xs a v) : ab_gl xs (ab_s2 lv i a) (sm_s2 lv' i v) := by
  unfold ab_s2
  rw [ab_flt_eq]
  refine ⟨⟨rfl, h⟩, ab_filter (fun j a v q => ?_) hg⟩
  rw [ab_cat_of q]
  exact ab_f2_eq i (j, a)
noncomputable def ab_args (i : Nat) (as : List ab_V) : ab_L := List.rec (motive := fun _ => Nat → ab_L) (fun _ => []) (fun v _ ih i => (i, v) :: ih (ab_if (Nat.beq (ab_cat v) 2) (Nat.succ (Nat.succ i)) (Nat.succ i))) as i
theorem ab_args_ok : ∀ {as : List ab_V} {vs : List Value} (i : Nat), ab_gs xs as vs → ab_gl xs (ab_args i as) (lv_args i vs)
  | [], [], _, _ => trivial
  | a :: as, v :: vs, i, h => by
    refine ⟨⟨rfl, h.1⟩, ?_⟩
    have e : (ab_if (Nat.beq (ab_cat a) 2) (Nat.succ (Nat.succ i)) (Nat.succ i)) = (if v.category = 2 then i + 2 else i + 1) := by
      rw [ab_cat_of h.1]
      cases q : Nat.beq (ab_cat a) 2 with
      | true => rw [if_pos (ab_beq q)]; rfl
      | false => rw [if_neg (ab_bne q)]; rfl
    show ab_gl xs (ab_args (ab_if (Nat.beq (ab_cat a) 2) (Nat.succ (Nat.succ i)) (Nat.succ i)) as) (lv_args (if v.category = 2 then i + 2 else i + 1) vs)
    rw [e]
    exact ab_args_ok _ h.2
  | [], _ :: _, _, h => h.elim
  | _ :: _, [], _, h => h.elim
noncomputable def ab_zip (is : List Nat) : List ab_V → ab_L := List.rec (motive := fun _ => List ab_V → ab_L) (fun _ => []) (fun i _ ih vs => List.rec (motive := fun _ => ab_L) [] (fun v r _ => (i, v) :: ih r) vs) is
theorem ab_zip_ok : ∀ {is : List Nat} {as : List ab_V} {vs : List Value}, ab_gs xs as vs → ab_gl xs (ab_zip is as) (is.zip vs)
  | [], _, _, _ => by rw [List.zip_nil_left]; exact trivial
  | i :: is, [], [], _ => trivial
  | i :: is, a :: as, v :: vs, h => ⟨⟨rfl, h.1⟩, ab_zip_ok h.2⟩
  | _ :: _, [], _ :: _, h => h.elim
  | _ :: _, _ :: _, [], h => h.elim
noncomputable def ab_slots (as : List ab_V) : Nat := List.rec (motive := fun _ => Nat) 0 (fun a _ ih => Nat.add (ab_cat a) ih) as
theorem ab_slots_ok : ∀ {as : List ab_V} {vs : List Value}, ab_gs xs as vs → (lg_sl vs).length = ab_slots as
  | [], [], _ => rfl
  | a :: as, v :: vs, h => by
    have e1 : (lg_sl (v :: vs)).length = (if v.category = 2 then [Slot.val v, .second] else [.val v]).length + (lg_sl vs).length := by
      simp only [lg_sl, List.flatMap_cons, List.length_append]
    rw [e1, ab_slots_ok h.2]
    show _ = ab_cat a + ab_slots as
    rw [← ab_cat_of h.1]
    cases v <;> rfl
  | [], _ :: _, h => h.elim
  | _ :: _, [], h => h.elim
end AbV
end
