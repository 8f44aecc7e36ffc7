/-! OPEN ones, questions, tell -/
theorem mx_open13 {S : sm_C} {d : Nat} {Φ : sm_Z → Prop} {I0 : sm_I} {L0 L : sm_L} {R : sm_R} {x2 x3 x4 x5 : Int32} {l s : Nat} (hls : ml_ls l s) (m0 : en_mem ml_tb mlX (xLay, I0, L0, R)) (T0 : ml_TI l s I0) (ho : (I0 134 s).toInt ≤ 3) (b2 : -1 ≤ x2.toInt ∧ x2.toInt ≤ 9) (b3 : 0 ≤ x3.toInt ∧ x3.toInt ≤ 500) (b4 : -1 ≤ x4.toInt ∧ x4.toInt ≤ 9) (b5 : 240 + 4 * (s : Int) ≤ x5.toInt ∧ x5.toInt ≤ 243 + 4 * (s : Int)) (h : ∀ (J : sm_I) (L' : sm_L), ml_ok l s R I0 J L' → Φ (none, (xLay, J, L', kM R))) : ∀ (m : Nat) (I : sm_I) (x6 : Int32), en_mem ml_tb mlX (xLay, I, L, R) → ml_pS (ml_D0 l) I0 I → ml_pg I0 I → (I 134 s = I0 134 s) → 240 ≤ x6.toInt → x5.toInt - x6.toInt ≤ m → sm_wp sm_P S (d + 4) 198 13 [.ref 107, .int x2, .int x3, .int x4, .int x5, .int x6] [] (xLay, I, L, kM R) (0, 0) Φ := by
  obtain ⟨hl, hs⟩ := ml_l1 hls
  have hls0 := hls
  unfold ml_ls at hls0
  have n5 := kl_nat (i := x5) (by omega)
  have v5 : vp_in x5 260 := kl_in (by omega) (by omega)
  have live : ∀ J : sm_I, ml_pS (ml_D0 l) I0 J → (J 107 18).toInt = l := fun J pJ => by rw [pJ.1 107 18 (by unfold ml_D0 ml_hm; omega) (by omega)]; exact T0.1
  have TI : ∀ J : sm_I, ml_pS (ml_D0 l) I0 J → ml_TI l s J := fun J pJ => ml_TI_0 hls m0 pJ T0
  have END : ∀ I : sm_I, en_mem ml_tb mlX (xLay, I, L, R) → ml_pS (ml_D0 l) I0 I → ml_pg I0 I → (I 134 s = I0 134 s) → (vp_in x5 260) ∧ ∀ I1 : sm_I, I1 = (sm_up I 130 x5.toNatClampNeg x2) → (vp_in x5 260) ∧ ∀ I2 : sm_I, I2 = (sm_up I1 131 x5.toNatClampNeg x4) → sm_wp sm_P S (d + 3) 169 0 [.ref 107, .int (0 : Int32)] [] (xLay, I2, L, (kM R)) (0, 0) (fun z => ∃ (r6 : Int32) (I3 : sm_I) (L4 : sm_L) (R5 : sm_R), z = (some (.int r6), (xLay, I3, L4, (kM R5))) ∧ (vp_in x5 260) ∧ ∀ I7 : sm_I, I7 = (sm_up I3 132 x5.toNatClampNeg r6) → sm_wp sm_P S (d + 3) 169 0 [.ref 107, .int (0 : Int32)] [] (xLay, I7, L4, (kM R5)) (0, 0) (fun z => ∃ (r11 : Int32) (I8 : sm_I) (L9 : sm_L) (R10 : sm_R), z = (some (.int r11), (xLay, I8, L9, (kM R10))) ∧ (vp_in x5 260) ∧ ∀ I12 : sm_I, I12 = (sm_up I8 133 x5.toNatClampNeg r11) → sm_wp sm_P S (d + 3) 165 0 [.ref 107, .int (4 : Int32)] [] (xLay, I12, L9, (kM R10)) (0, 0) (fun z => ∃ (I13 : sm_I) (L14 : sm_L) (R15 : sm_R), z = (none, (xLay, I13, L14, (kM R15))) ∧ (((I13 107 13) ≤ 0 → ((x2 = (-1 : Int32) → (vp_in (I13 107 19) 2) ∧ ∀ n17 : Int32, n17 = ((I13 134 (I13 107 19).toNatClampNeg) + (1 : Int32)) → (vp_in (I13 107 19) 2) ∧ ∀ I18 : sm_I, I18 = (sm_up I13 134 (I13 107 19).toNatClampNeg n17) → Φ (none, (xLay, I18, L14, (kM R15)))) ∧ (¬ x2 = (-1 : Int32) → ∀ n19 : Int32, n19 = (((10 : Int32) * (I13 107 19)) + x2) → (vp_in n19 20) ∧ ∀ I20 : sm_I, I20 = (sm_up I13 135 n19.toNatClampNeg x5) → (vp_in (I20 107 19) 2) ∧ ∀ n21 : Int32, n21 = ((I20 134 (I20 107 19).toNatClampNeg) + (1 : Int32)) → (vp_in (I20 107 19) 2) ∧ ∀ I22 : sm_I, I22 = (sm_up I20 134 (I20 107 19).toNatClampNeg n21) → Φ (none, (xLay, I22, L14, (kM R15)))))) ∧ (¬ (I13 107 13) ≤ 0 → Φ (none, (xLay, I13, L14, (kM R15)))))))) := by
    intro I hm hp hg h134
    refine ⟨v5, fun I1 e1 => ⟨v5, fun I2 e2 => ?_⟩⟩
    have w1 := ml_w0 (L := L) (R := R) (l := l) (p := 130) (j := x5.toNatClampNeg) (x := x2) (n := 260) (q := (-1, 9)) hl (live I hp) (by unfold ml_D0 ml_hm; omega) hm rfl b2
    rw [← e1] at w1
    have p1 := ml_pS_tr hp w1.2
    have w2 := ml_w0 (L := L) (R := R) (l := l) (p := 131) (j := x5.toNatClampNeg) (x := x4) (n := 260) (q := (-1, 9)) hl (live I1 p1) (by unfold ml_D0 ml_hm; omega) w1.1 rfl b4
    rw [← e2] at w2
    have p2 := ml_pS_tr p1 w2.2
    refine mx_number w2.1 (fun r6 I3 m3 p3 => ⟨r6, I3, L, R, rfl, v5, fun I7 e7 => ?_⟩)
    have p3' := ml_pS_tr p2 (ml_pS_no p3)
    have w7 := ml_w0 (L := L) (R := R) (l := l) (p := 132) (j := x5.toNatClampNeg) (x := r6) (n := 260) (q := (-2147483648, 2147483647)) hl (live I3 p3') (by unfold ml_D0 ml_hm; omega) m3 rfl en_crange
    rw [← e7] at w7
    have p7 := ml_pS_tr p3' w7.2
    refine mx_number w7.1 (fun r11 I8 m8 p8 => ⟨r11, I8, L, R, rfl, v5, fun I12 e12 => ?_⟩)
    have p8' := ml_pS_tr p7 (ml_pS_no p8)
    have w12 := ml_w0 (L := L) (R := R) (l := l) (p := 133) (j := x5.toNatClampNeg) (x := r11) (n := 260) (q := (-2147483648, 2147483647)) hl (live I8 p8') (by unfold ml_D0 ml_hm; omega) m8 rfl en_crange
    rw [← e12] at w12
    have p12 := ml_pS_tr p8' w12.2
    have g12 : ml_pg I0 I12 := ml_pg_tr (ml_pg_tr (ml_pg_tr (ml_pg_tr (ml_pg_tr (ml_pg_tr hg w1.2) w2.2) p3) w7.2) p8) w12.2
    have o134 : I12 134 s = I0 134 s := by
      rw [e12, en_up_ne _ _ _ _ (by omega), ml_pS_g p8 (by omega), e7, en_up_ne _ _ _ _ (by omega), ml_pS_g p3 (by omega), e2, en_up_ne _ _ _ _ (by omega), e1, en_up_ne _ _ _ _ (by omega), h134]
    refine mx_must w12.1 (fun I13 m13 p13 => ⟨I13, L, R, rfl, fun _ => ?_, fun _ => ?_⟩)
    all_goals
      have pI := ml_pS_tr p12 (ml_pS_no p13)
      have g13 : ml_pg I0 I13 := ml_pg_tr g12 p13
    · obtain ⟨sn, sv⟩ := ml_sn hls (TI I13 pI)
      have q134 : I13 134 s = I0 134 s := by rw [ml_pS_g p13 (by omega)]; exact o134
      have b134 : 0 ≤ (I13 134 s).toInt ∧ (I13 134 s).toInt ≤ 4 := ml_row m13 (p := 134) (n := 2) (q := (0, 4)) (fun _ => rfl) _ (by omega)
      have cnt : ∀ (J K : sm_I) (n : Int32), en_mem ml_tb mlX (xLay, J, L, R) → ml_pS (ml_D0 l) I0 J → ml_pg I0 J → J 134 s = I0 134 s → n = J 134 s + 1 → K = sm_up J 134 s n → Φ (none, (xLay, K, L, kM R)) := by
        intro J K n mJ pJ gJ qJ en eK
        rw [q134] at b134
        have sn' : n.toInt = (I0 134 s).toInt + 1 := by rw [en, qJ]; exact ml_in1 (by omega)
        have w := ml_w0 (L := L) (R := R) (l := l) (p := 134) (j := s) (x := n) (n := 2) (q := (0, 4)) hl (live J pJ) (by unfold ml_D0 ml_hm; omega) mJ rfl (by show 0 ≤ _ ∧ _ ≤ (4 : Int); omega)
        rw [← eK] at w
        exact h K L ⟨w.1, ml_D0l hl (ml_pS_tr pJ w.2), TI K (ml_pS_tr pJ w.2), ml_pg_tr gJ w.2⟩
      refine ⟨fun _ => ⟨sv, fun n17 e17 => ⟨sv, fun I18 e18 => ?_⟩⟩, fun c2 n19 e19 => ?_⟩
      · rw [sn] at e17 e18
        exact cnt I13 I18 n17 m13 pI g13 q134 e17 e18
      · have c2 := ml_m1 c2
        have hls' := hls
        unfold ml_ls at hls'
        have q1 : ((10 : Int32) * (I13 107 19)).toInt = 10 * (s : Int) := ml_mu (by decide) (TI I13 pI).2.1 (by omega) (by omega)
        have q2 : n19.toInt = 10 * (s : Int) + x2.toInt := by rw [e19]; exact ml_ad q1 rfl (by omega) (by omega)
        have n19n := kl_nat (i := n19) (by omega)
        refine ⟨kl_in (by omega) (by omega), fun I20 e20 => ?_⟩
        have w20 := ml_w0 (L := L) (R := R) (l := l) (p := 135) (j := n19.toNatClampNeg) (x := x5) (n := 20) (q := (-1, 247)) hl (live I13 pI) (by unfold ml_D0 ml_hm; omega) m13 rfl (by show (-1 : Int) ≤ _ ∧ _ ≤ (247 : Int); omega)
        rw [← e20] at w20
        have p20 := ml_pS_tr pI w20.2
        obtain ⟨sn2, sv2⟩ := ml_sn hls (TI I20 p20)
        refine ⟨sv2, fun n21 e21 => ⟨sv2, fun I22 e22 => ?_⟩⟩
        rw [sn2] at e21 e22
        exact cnt I20 I22 n21 w20.1 p20 (ml_pg_tr g13 w20.2) (by rw [e20, en_up_ne _ _ _ _ (by omega)]; exact q134) e21 e22
    · exact h I13 L ⟨m13, ml_D0l hl pI, TI I13 pI, g13⟩
  intro m
  induction m with
  | zero =>
    intro I x6 hm hp hg h134 h6 hM
    refine u_X12_tellOpen_13 ⟨fun _ => END I hm hp hg h134, fun a => ?_⟩
    have := kl_nle a
    omega
  | succ m ih =>
    intro I x6 hm hp hg h134 h6 hM
    refine u_X12_tellOpen_13 ⟨fun _ => END I hm hp hg h134, fun a => ⟨fun _ => ⟨fun _ => END I hm hp hg h134, fun _ => ?_⟩, fun _ => END I hm hp hg h134⟩⟩
    have a := kl_nle a
    have s6 := ml_in1 (x := x6) (by omega)
    refine ⟨kl_in (by omega) (by omega), fun _ => ?_, fun _ => ih I _ hm hp hg h134 (by omega) (by omega)⟩
    refine mx_wrong (by decide) (by decide) b3.1 (by omega) hm (fun J mJ pJ _ => ⟨J, L, R, rfl, ih J _ mJ (ml_pS_tr hp (ml_pS_no pJ)) (ml_pg_tr hg pJ) (by rw [ml_pS_g pJ (by omega)]; exact h134) (by omega) (by omega)⟩)
theorem mx_tellOpen {S : sm_C} {d : Nat} {Φ : sm_Z → Prop} {I : sm_I} {L : sm_L} {R : sm_R} {l s : Nat} (hls : ml_ls l s) (hm : en_mem ml_tb mlX (xLay, I, L, R)) (hT : ml_TI l s I) (ho : (I 134 s).toInt ≤ 3) (h : ∀ (J : sm_I) (L' : sm_L), ml_ok l s R I J L' → Φ (none, (xLay, J, L', kM R))) : sm_wp sm_P S (d + 4) 198 0 [.ref 107] [] (xLay, I, L, kM R) (0, 0) Φ := by
  obtain ⟨hl, hs⟩ := ml_l1 hls
  have hls' := hls
  unfold ml_ls at hls'
  have b134 : 0 ≤ (I 134 s).toInt ∧ (I 134 s).toInt ≤ 4 := ml_row hm (p := 134) (n := 2) (q := (0, 4)) (fun _ => rfl) _ (by omega)
  have g12 : ∀ (x2 x3 x4 x5 : Int32) (J : sm_I), en_mem ml_tb mlX (xLay, J, L, R) → ml_pS ml_no I J → ml_pg I J → (-1 ≤ x2.toInt ∧ x2.toInt ≤ 9) → (0 ≤ x3.toInt ∧ x3.toInt ≤ 500) → (-1 ≤ x4.toInt ∧ x4.toInt ≤ 9) → (240 + 4 * (s : Int) ≤ x5.toInt ∧ x5.toInt ≤ 243 + 4 * (s : Int)) → sm_wp sm_P S (d + 4) 198 12 [.ref 107, .int x2, .int x3, .int x4, .int x5] [] (xLay, J, L, kM R) (0, 0) Φ := by
    intro x2 x3 x4 x5 J mJ pJ gJ b2 b3 b4 b5
    refine u_X12_tellOpen_12 (fun n1 e1 => ?_)
    have q1 : ((4 : Int32) * (J 107 19)).toInt = 4 * (s : Int) := ml_mu (by decide) (ml_TI_no hls hm pJ hT).2.1 (by omega) (by omega)
    have q2 : n1.toInt = 240 + 4 * (s : Int) := by rw [e1]; exact ml_ad (by decide) q1 (by omega) (by omega)
    exact mx_open13 hls hm hT ho b2 b3 b4 b5 h 8 J n1 mJ (ml_pS_no pJ) gJ (ml_pS_g pJ (by omega)) (by omega) (by omega)
  have g7 : ∀ (x2 x3 x4 x5 : Int32) (J : sm_I), en_mem ml_tb mlX (xLay, J, L, R) → ml_pS ml_no I J → ml_pg I J → (-1 ≤ x2.toInt ∧ x2.toInt ≤ 9) → (0 ≤ x3.toInt ∧ x3.toInt ≤ 500) → (-1 ≤ x4.toInt ∧ x4.toInt ≤ 9) → (240 + 4 * (s : Int) ≤ x5.toInt ∧ x5.toInt ≤ 243 + 4 * (s : Int)) → sm_wp sm_P S (d + 4) 198 7 [.ref 107, .int x2, .int x3, .int x4, .int x5] [] (xLay, J, L, kM R) (0, 0) Φ := by
    intro x2 x3 x4 x5 J mJ pJ gJ b2 b3 b4 b5
    have go := g12 x2 x3 x4 x5 J mJ pJ gJ b2 b3 b4 b5
    have wr : sm_wp sm_P S (d + 3) 213 0 [.ref 107, .int (5 : Int32), .int x3] [] (xLay, J, L, (kM R)) (0, 0) (fun z => ∃ (I1 : sm_I) (L2 : sm_L) (R3 : sm_R), z = (none, (xLay, I1, L2, (kM R3))) ∧ sm_wp sm_P S (d + 4) 198 12 [.ref 107, .int x2, .int x3, .int x4, .int x5] [] (xLay, I1, L2, (kM R3)) (0, 0) Φ) := mx_wrong (by decide) (by decide) b3.1 (by omega) mJ (fun K mK pK _ => ⟨K, L, R, rfl, g12 x2 x3 x4 x5 K mK (ml_pS_tr pJ pK) (ml_pg_tr gJ pK) b2 b3 b4 b5⟩)
    refine u_X12_tellOpen_7 ⟨fun _ => ⟨fun _ => go, fun c4 => ⟨fun _ => wr, fun _ n6 e6 => ?_⟩⟩, fun _ => go⟩
    have c4 := ml_m1 c4
    have q1 : ((10 : Int32) * (J 107 19)).toInt = 10 * (s : Int) := ml_mu (by decide) (ml_TI_no hls hm pJ hT).2.1 (by omega) (by omega)
    have q2 : n6.toInt = 10 * (s : Int) + x4.toInt := by rw [e6]; exact ml_ad q1 rfl (by omega) (by omega)
    exact ⟨kl_in (by omega) (by omega), fun _ => go, fun _ => wr⟩
  refine u_X12_tellOpen_0 (mx_goesOn hm (fun J1 m1 p1 g1 => ⟨J1, L, R, rfl, mx_known m1 (fun r8 J5 m5 p5 a1 a2 a3 a4 a5 => ⟨r8, J5, L, R, rfl, mx_must m5 (fun J9 m9 p9 => ⟨J9, L, R, rfl, ?_⟩)⟩)⟩))
  have pI9 : ml_pS ml_no I J9 := ml_pS_tr p1 (ml_pS_tr p5 p9)
  have g9 : ml_pg I J9 := ml_pg_tr g1 (ml_pS_tr p5 p9)
  have t1 : 0 ≤ (J1 107 11).toInt ∧ (J1 107 11).toInt ≤ 500 := ml_t m1
  have t9 : 0 ≤ (J9 107 11).toInt ∧ (J9 107 11).toInt ≤ 500 := ml_t m9
  have X : ∀ (y : Int32) (J : sm_I), en_mem ml_tb mlX (xLay, J, L, R) → ml_pS ml_no I J → ml_pg I J → (-1 ≤ y.toInt ∧ y.toInt ≤ 9) → (vp_in (J 107 19) 2) ∧ ∀ n17 : Int32, n17 = (((240 : Int32) + ((4 : Int32) * (J 107 19))) + (J 134 (J 107 19).toNatClampNeg)) → (((J 107 13) = 0 → ((r8 = (-1 : Int32) → sm_wp sm_P S (d + 4) 198 7 [.ref 107, .int r8, .int (J9 107 11), .int y, .int n17] [] (xLay, J, L, (kM R)) (0, 0) Φ) ∧ (¬ r8 = (-1 : Int32) → ∀ n18 : Int32, n18 = (((10 : Int32) * (J 107 19)) + r8) → (vp_in n18 20) ∧ (((J 135 n18.toNatClampNeg) = (-1 : Int32) → sm_wp sm_P S (d + 4) 198 7 [.ref 107, .int r8, .int (J9 107 11), .int y, .int n17] [] (xLay, J, L, (kM R)) (0, 0) Φ) ∧ (¬ (J 135 n18.toNatClampNeg) = (-1 : Int32) → sm_wp sm_P S (d + 3) 213 0 [.ref 107, .int (5 : Int32), .int (J1 107 11)] [] (xLay, J, L, (kM R)) (0, 0) (fun z => ∃ (I19 : sm_I) (L20 : sm_L) (R21 : sm_R), z = (none, (xLay, I19, L20, (kM R21))) ∧ sm_wp sm_P S (d + 4) 198 7 [.ref 107, .int r8, .int (J9 107 11), .int y, .int n17] [] (xLay, I19, L20, (kM R21)) (0, 0) Φ)))))) ∧ (¬ (J 107 13) = 0 → sm_wp sm_P S (d + 4) 198 7 [.ref 107, .int r8, .int (J9 107 11), .int y, .int n17] [] (xLay, J, L, (kM R)) (0, 0) Φ)) := by
    intro y J mJ pJ gJ hy
    have TJ := ml_TI_no hls hm pJ hT
    obtain ⟨sn, sv⟩ := ml_sn hls TJ
    refine ⟨sv, fun n17 e17 => ?_⟩
    rw [sn, ml_pS_g pJ (p := 134) (by omega)] at e17
    have q1 : ((4 : Int32) * (J 107 19)).toInt = 4 * (s : Int) := ml_mu (by decide) TJ.2.1 (by omega) (by omega)
    have q2 : ((240 : Int32) + ((4 : Int32) * (J 107 19))).toInt = 240 + 4 * (s : Int) := ml_ad (by decide) q1 (by omega) (by omega)
    have q3 : n17.toInt = 240 + 4 * (s : Int) + (I 134 s).toInt := by rw [e17]; exact ml_ad q2 rfl (by omega) (by omega)
    have b17 : 240 + 4 * (s : Int) ≤ n17.toInt ∧ n17.toInt ≤ 243 + 4 * (s : Int) := by omega
    have go := g7 r8 (J9 107 11) y n17 J mJ pJ gJ ⟨a1, a2⟩ t9 hy b17
    refine ⟨fun _ => ⟨fun _ => go, fun c8 n18 e18 => ?_⟩, fun _ => go⟩
    have c8 := ml_m1 c8
    have q4 : ((10 : Int32) * (J 107 19)).toInt = 10 * (s : Int) := ml_mu (by decide) TJ.2.1 (by omega) (by omega)
    have q5 : n18.toInt = 10 * (s : Int) + r8.toInt := by rw [e18]; exact ml_ad q4 rfl (by omega) (by omega)
    exact ⟨kl_in (by omega) (by omega), fun _ => go, fun _ => mx_wrong (by decide) (by decide) t1.1 (by omega) mJ (fun K mK pK _ => ⟨K, L, R, rfl, g7 r8 (J9 107 11) y n17 K mK (ml_pS_tr pJ pK) (ml_pg_tr gJ pK) ⟨a1, a2⟩ t9 hy b17⟩)⟩
  exact ⟨fun _ => mx_known m9 (fun r16 J13 m13 p13 c1 c2 c3 c4 c5 => ⟨r16, J13, L, R, rfl, X r16 J13 m13 (ml_pS_tr pI9 p13) (ml_pg_tr g9 p13) ⟨c1, c2⟩⟩), fun _ => X 0 J9 m9 pI9 g9 (by decide)⟩
theorem mx_tellQuestion {S : sm_C} {d : Nat} {Φ : sm_Z → Prop} {I : sm_I} {L : sm_L} {R : sm_R} {l s : Nat} (hls : ml_ls l s) (hm : en_mem ml_tb mlX (xLay, I, L, R)) (hT : ml_TI l s I) (hq : (I 136 s).toInt ≤ 4) (h : ∀ (J : sm_I) (L' : sm_L), ml_ok l s R I J L' → Φ (none, (xLay, J, L', kM R))) : sm_wp sm_P S (d + 5) 199 0 [.ref 107] [] (xLay, I, L, kM R) (0, 0) Φ := by
  obtain ⟨hl, hs⟩ := ml_l1 hls
  have hls' := hls
  unfold ml_ls at hls'
  have b := ml_cs hs hm
  refine u_X12_tellQuestion_0 (mx_goesOn hm (fun J1 m1 p1 g1 => ⟨J1, L, R, rfl, mx_named m1 (fun r8 J5 r0 r1 m5 p5 => ⟨r8, J5, L, R, rfl, mx_must m5 (fun J9 m9 p9 => ⟨J9, L, R, rfl, ?_⟩)⟩)⟩))
  have pI9 : ml_pS ml_no I J9 := ml_pS_tr p1 (ml_pS_tr p5 p9)
  have g9 : ml_pg I J9 := ml_pg_tr g1 (ml_pS_tr p5 p9)
  have T9 := ml_TI_no hls hm pI9 hT
  have Q : ∀ J : sm_I, en_mem ml_tb mlX (xLay, J, L, R) → ml_pS (ml_D0 l) I J → ml_pg I J → sm_wp sm_P S (d + 4) 165 0 [.ref 107, .int (4 : Int32)] [] (xLay, J, L, (kM R)) (0, 0) (fun z => ∃ (I32 : sm_I) (L33 : sm_L) (R34 : sm_R), z = (none, (xLay, I32, L33, (kM R34))) ∧ (((I32 107 13) ≤ 0 → (vp_in (I32 107 19) 2) ∧ ∀ n36 : Int32, n36 = (I32 136 (I32 107 19).toNatClampNeg) → sm_wp sm_P S (d + 4) 155 0 [.ref 107, .int r8, .int (4 : Int32), .int n36] [] (xLay, I32, L33, (kM R34)) (0, 0) (fun z => ∃ (I37 : sm_I) (L38 : sm_L) (R39 : sm_R), z = (none, (xLay, I37, L38, (kM R39))) ∧ (vp_in (I37 107 19) 2) ∧ ∀ n41 : Int32, n41 = ((I37 136 (I37 107 19).toNatClampNeg) + (1 : Int32)) → (vp_in (I37 107 19) 2) ∧ ∀ I42 : sm_I, I42 = (sm_up I37 136 (I37 107 19).toNatClampNeg n41) → Φ (none, (xLay, I42, L38, (kM R39))))) ∧ (¬ (I32 107 13) ≤ 0 → Φ (none, (xLay, I32, L33, (kM R34)))))) := by
    intro J mJ pJ gJ
    refine mx_must mJ (fun J3 m3 p3 => ⟨J3, L, R, rfl, fun _ => ?_, fun _ => ?_⟩)
    all_goals
      have pI : ml_pS (ml_D0 l) I J3 := ml_pS_tr pJ (ml_pS_no p3)
      have T3 : ml_TI l s J3 := ml_TI_0 hls hm pI hT
      have g3 : ml_pg I J3 := ml_pg_tr gJ p3
    · obtain ⟨sn, sv⟩ := ml_sn hls T3
      have e136 : J3 136 s = I 136 s := pI.1 136 s (by unfold ml_D0 ml_hm; omega) (by omega)
      refine ⟨sv, fun n36 e36 => ?_⟩
      rw [sn, e136] at e36
      refine mx_knows r0 r1 (by decide) (by rw [e36]; omega) (fun c => absurd c (by decide)) (fun c => absurd c (by decide)) (ml_nm49 hls T3 m3) m3 (fun K L' mK pK nK => ⟨K, L', R, rfl, ?_⟩)
      have k19 : K 107 19 = J3 107 19 := pK.1 107 19 (by unfold ml_kn; omega) (by omega)
      rw [k19]
      refine ⟨sv, fun n41 e41 => ⟨sv, fun J' e => h J' L' ?_⟩⟩
      rw [sn] at e41 e
      exact ml_done hls m3 T3 (ml_D0l hl pI) g3 mK pK nK (Or.inr (Or.inr (Or.inr (Or.inr rfl)))) (mx := 5) (by rcases hls' with ⟨-, c⟩ | ⟨-, c⟩ <;> subst c <;> rfl) e41 (by rw [e136]; omega) (by rw [e136]; omega) (by omega) e (ml_V3 hls m3 T3 pK (Or.inr (Or.inr rfl)) e)
    · exact h J3 L ⟨m3, ml_D0l hl pI, T3, g3⟩
  refine ⟨fun _ => ?_, fun _ => Q J9 m9 (ml_pS_no pI9) g9⟩
  obtain ⟨sn, sv⟩ := ml_sn hls T9
  refine ⟨sv, fun n27 e27 => ?_⟩
  rw [sn, ml_pS_g pI9 (p := 136) (by omega)] at e27
  have q1 : ((6 : Int32) * (J9 107 19)).toInt = 6 * (s : Int) := ml_mu (by decide) T9.2.1 (by omega) (by omega)
  have q2 : ((248 : Int32) + ((6 : Int32) * (J9 107 19))).toInt = 248 + 6 * (s : Int) := ml_ad (by decide) q1 (by omega) (by omega)
  have q3 : n27.toInt = 248 + 6 * (s : Int) + (I 136 s).toInt := by rw [e27]; exact ml_ad q2 rfl (by omega) (by omega)
  have n2 := kl_nat (i := n27) (by omega)
  refine mx_tellSpan hl T9.1 (by omega) (by omega) (by unfold ml_hl; omega) m9 (fun J m p _ => ⟨J, L, R, rfl, ?_⟩)
  have pJ : ml_pS (ml_D0 l) J9 J := ml_pS_mo p (fun a b c => by unfold ml_sp at c; unfold ml_D0 ml_hm; omega)
  exact Q J m (ml_pS_tr (ml_pS_no pI9) pJ) (ml_pg_tr g9 pJ)
theorem mx_tell {S : sm_C} {d : Nat} {Φ : sm_Z → Prop} {I : sm_I} {L : sm_L} {R : sm_R} {l s : Nat} (hls : ml_ls l s) (hm : en_mem ml_tb mlX (xLay, I, L, R)) (hT : ml_TI l s I) (h : ∀ (J : sm_I) (L' : sm_L), ml_ok l s R I J L' → Φ (none, (xLay, J, L', kM R))) : sm_wp sm_P S (d + 7) 195 0 [.ref 107] [] (xLay, I, L, kM R) (0, 0) Φ := by
  obtain ⟨hl, hs⟩ := ml_l1 hls
  obtain ⟨sn, sv⟩ := ml_sn hls hT
  have b := ml_cs hs hm
  have b120 : 0 ≤ (I 120 s).toInt ∧ (I 120 s).toInt ≤ 12 := ml_row hm (p := 120) (n := 2) (q := (0, 12)) (fun _ => rfl) _ (by omega)
  have b134 : 0 ≤ (I 134 s).toInt ∧ (I 134 s).toInt ≤ 4 := ml_row hm (p := 134) (n := 2) (q := (0, 4)) (fun _ => rfl) _ (by omega)
  have fin : ∀ (J : sm_I) (L' : sm_L), ml_ok l s R I J L' → sm_wp sm_P S (d + 7) 195 30 [] [] (xLay, J, L', kM R) (0, 0) Φ := fun J L' o => u_X12_tell_30 (h J L' o)
  have bad : ∀ (J : sm_I), en_mem ml_tb mlX (xLay, J, L, R) → ml_pS ml_no I J → ¬ J 107 13 = 0 → sm_wp sm_P S (d + 7) 195 30 [] [] (xLay, J, L, kM R) (0, 0) Φ := fun J mJ pJ fJ => fin J L ⟨mJ, ml_pS_no pJ, ml_TI_no hls hm pJ hT, Or.inl fJ⟩
  have dft : sm_wp sm_P S (d + 6) 123 0 [.ref 107, .int (1 : Int32)] [] (xLay, I, L, (kM R)) (0, 0) (fun z => ∃ (I2 : sm_I) (L3 : sm_L) (R4 : sm_R), z = (none, (xLay, I2, L3, (kM R4))) ∧ sm_wp sm_P S (d + 7) 195 30 [] [] (xLay, I2, L3, (kM R4)) (0, 0) Φ) := mx_fail (by decide) (by decide) hm (fun J mJ pJ fJ => ⟨J, L, R, rfl, bad J mJ pJ fJ⟩)
  have full : ∀ B : Nat, (∀ J : sm_I, en_mem ml_tb mlX (xLay, J, L, R) → ml_pS ml_no I J → ¬ J 107 13 = 0 → sm_wp sm_P S (d + 7) 195 B [.ref 107] [] (xLay, J, L, kM R) (0, 0) Φ) → sm_wp sm_P S (d + 6) 123 0 [.ref 107, .int (2 : Int32)] [] (xLay, I, L, (kM R)) (0, 0) (fun z => ∃ (I2 : sm_I) (L3 : sm_L) (R4 : sm_R), z = (none, (xLay, I2, L3, (kM R4))) ∧ sm_wp sm_P S (d + 7) 195 B [.ref 107] [] (xLay, I2, L3, (kM R4)) (0, 0) Φ) := fun B k => mx_fail (by decide) (by decide) hm (fun J mJ pJ fJ => ⟨J, L, R, rfl, k J mJ pJ fJ⟩)
  have ne : ∀ {x k : Int32} {n : Int}, k.toInt = n → ¬ x = k → x.toInt ≠ n := fun e c q => c (en_ofI (by rw [q, e]))
  have c19 : ((I 125 s = (10 : Int32) → sm_wp sm_P S (d + 6) 123 0 [.ref 107, .int (2 : Int32)] [] (xLay, I, L, (kM R)) (0, 0) (fun z => ∃ (I2 : sm_I) (L3 : sm_L) (R4 : sm_R), z = (none, (xLay, I2, L3, (kM R4))) ∧ sm_wp sm_P S (d + 7) 195 19 [.ref 107] [] (xLay, I2, L3, (kM R4)) (0, 0) Φ)) ∧ (¬ I 125 s = (10 : Int32) → sm_wp sm_P S (d + 7) 195 19 [.ref 107] [] (xLay, I, L, (kM R)) (0, 0) Φ)) := ⟨fun _ => full 19 (fun J mJ pJ fJ => u_X12_tell_19 ⟨fun c => absurd c fJ, fun _ => bad J mJ pJ fJ⟩), fun c => u_X12_tell_19 ⟨fun _ => mx_tellSaying hls hm hT (by have := ne (n := 10) (by decide) c; omega) (fun J L' o => ⟨J, L', R, rfl, fin J L' o⟩), fun f => bad I hm ml_pS_rf f⟩⟩
  refine u_X12_tell_0 ⟨ml_vt hm, fun n1 _ => ?_⟩
  rw [sn]
  refine ⟨fun _ => ⟨sv, fun _ => full 3 (fun J mJ pJ fJ => u_X12_tell_3 ⟨fun c => absurd c fJ, fun _ => bad J mJ pJ fJ⟩), fun c => u_X12_tell_3 ⟨fun _ => mx_tellName hls hm hT (Or.inl ⟨rfl, by have := ne (n := 4) (by decide) c; omega⟩) (fun J L' o => ⟨J, L', R, rfl, fin J L' o⟩), fun f => bad I hm ml_pS_rf f⟩⟩, fun _ => ?_⟩
  refine ⟨fun _ => ⟨sv, fun _ => full 7 (fun J mJ pJ fJ => u_X12_tell_7 ⟨fun c => absurd c fJ, fun _ => bad J mJ pJ fJ⟩), fun c => u_X12_tell_7 ⟨fun _ => mx_tellName hls hm hT (Or.inr ⟨rfl, by have := ne (n := 6) (by decide) c; omega⟩) (fun J L' o => ⟨J, L', R, rfl, fin J L' o⟩), fun f => bad I hm ml_pS_rf f⟩⟩, fun _ => ?_⟩
  refine ⟨fun _ => ⟨sv, fun _ => full 11 (fun J mJ pJ fJ => u_X12_tell_11 ⟨fun c => absurd c fJ, fun _ => bad J mJ pJ fJ⟩), fun c => u_X12_tell_11 ⟨fun _ => mx_tellWay hls hm hT (by have := ne (n := 12) (by decide) c; omega) (fun J L' o => ⟨J, L', R, rfl, fin J L' o⟩), fun f => bad I hm ml_pS_rf f⟩⟩, fun _ => ?_⟩
  refine ⟨fun _ => ⟨sv, fun _ => full 15 (fun J mJ pJ fJ => u_X12_tell_15 ⟨fun c => absurd c fJ, fun _ => bad J mJ pJ fJ⟩), fun c => u_X12_tell_15 ⟨fun _ => mx_tellTime hls hm hT (by have := ne (n := 10) (by decide) c; omega) (fun J L' o => ⟨J, L', R, rfl, fin J L' o⟩), fun f => bad I hm ml_pS_rf f⟩⟩, fun _ => ?_⟩
  refine ⟨fun _ => dft, fun _ => ⟨fun _ => dft, fun _ => ⟨fun _ => ⟨sv, c19⟩, fun _ => ⟨fun _ => ⟨sv, c19⟩, fun _ => ⟨fun _ => dft, fun _ => ⟨fun _ => dft, fun _ => ⟨fun _ => dft, fun _ => ⟨fun _ => dft, fun _ => ?_⟩⟩⟩⟩⟩⟩⟩⟩
  refine ⟨fun _ => ⟨sv, fun _ => full 23 (fun J mJ pJ fJ => u_X12_tell_23 ⟨fun c => absurd c fJ, fun _ => bad J mJ pJ fJ⟩), fun c => u_X12_tell_23 ⟨fun _ => mx_tellOpen hls hm hT (by have := ne (n := 4) (by decide) c; omega) (fun J L' o => ⟨J, L', R, rfl, fin J L' o⟩), fun f => bad I hm ml_pS_rf f⟩⟩, fun _ => ?_⟩
  refine ⟨fun _ => ⟨sv, fun _ => full 27 (fun J mJ pJ fJ => u_X12_tell_27 ⟨fun c => absurd c fJ, fun _ => bad J mJ pJ fJ⟩), fun c => u_X12_tell_27 ⟨fun _ => mx_tellQuestion hls hm hT (by have := ne (n := 5) (by decide) c; omega) (fun J L' o => ⟨J, L', R, rfl, fin J L' o⟩), fun f => bad I hm ml_pS_rf f⟩⟩, fun _ => dft⟩
