/-! ways and TIMES -/
theorem ml_Dl0 {l p j : Nat} (hl : l ≤ 1) (h : ml_D0 l p j) : ml_Dl l p j := by
  unfold ml_D0 ml_hm at h
  unfold ml_Dl ml_hl ml_hm
  omega
theorem ml_w0 {I : sm_I} {L : sm_L} {R : sm_R} {l p j n : Nat} {x : Int32} {q : Int × Int} (hl : l ≤ 1) (hv : (I 107 18).toInt = l) (hD : ml_D0 l p j) (hm : en_mem ml_tb mlX (xLay, I, L, R)) (e : en_int ml_tb p j = bif Nat.blt j n then some q else none) (hx : q.1 ≤ x.toInt ∧ x.toInt ≤ q.2) : en_mem ml_tb mlX (xLay, sm_up I p j x, L, R) ∧ ml_pS (ml_D0 l) I (sm_up I p j x) := by
  have hE := hD
  unfold ml_D0 at hE
  exact ⟨ml_wt (l := l) hl hv (by unfold ml_hl; omega) (by omega) hm (ml_rq e hx), ml_pS_up hD (by omega)⟩
theorem ml_l1 {l s : Nat} (hls : ml_ls l s) : l ≤ 1 ∧ s ≤ 1 := by unfold ml_ls at hls; omega
theorem ml_D0l {l : Nat} {I J : sm_I} (hl : l ≤ 1) (h : ml_pS (ml_D0 l) I J) : ml_pS (ml_Dl l) I J := ml_pS_mo h (fun _ _ c => ml_Dl0 hl c)
/-- the one way, and back -/
theorem ml_wy {I J K : sm_I} {L : sm_L} {R : sm_R} {l : Nat} {a b v : Int32} (ha : a.toNatClampNeg < 36 * l ∨ 36 * l + 36 ≤ a.toNatClampNeg) (hb : b.toNatClampNeg < 36 * l ∨ 36 * l + 36 ≤ b.toNatClampNeg) (hl : l ≤ 1) (hv : (I 107 18).toInt = l) (hm : en_mem ml_tb mlX (xLay, I, L, R)) (e1 : J = sm_up I 121 a.toNatClampNeg v) (e2 : K = sm_up J 121 b.toNatClampNeg v) : en_mem ml_tb mlX (xLay, K, L, R) ∧ ml_pS (ml_D0 l) I K := by
  have h1 := ml_w0 (L := L) (R := R) (l := l) (p := 121) (j := a.toNatClampNeg) (x := v) (n := 72) (q := (-2147483648, 2147483647)) hl hv (by unfold ml_D0 ml_hm; omega) hm rfl en_crange
  rw [← e1] at h1
  have h2 := ml_w0 (L := L) (R := R) (l := l) (p := 121) (j := b.toNatClampNeg) (x := v) (n := 72) (q := (-2147483648, 2147483647)) hl (by rw [e1, en_up_ne _ _ _ _ (by omega)]; exact hv) (by unfold ml_D0 ml_hm; omega) h1.1 rfl en_crange
  rw [← e2] at h2
  exact ⟨h2.1, ml_pS_tr h1.2 h2.2⟩
theorem mx_tellWay4 {S : sm_C} {d : Nat} {Φ : sm_Z → Prop} {I I0 : sm_I} {L : sm_L} {R : sm_R} {x1 x3 : Int32} {l s : Nat} (hls : ml_ls l s) (hm : en_mem ml_tb mlX (xLay, I, L, R)) (hT : ml_TI l s I) (p0 : ml_pS ml_no I0 I) (g0 : ml_pg I0 I) (hw : (I 120 s).toInt ≤ 11) (b1 : -1 ≤ x1.toInt ∧ x1.toInt ≤ 5) (b3 : -1 ≤ x3.toInt ∧ x3.toInt ≤ 5) (h : ∀ (J : sm_I) (L' : sm_L), ml_ok l s R I0 J L' → Φ (none, (xLay, J, L', kM R))) : sm_wp sm_P S (d + 4) 203 4 [.ref 107, .int x1, .int x3] [] (xLay, I, L, kM R) (0, 0) Φ := by
  obtain ⟨hl, hs⟩ := ml_l1 hls
  refine u_X12_tellWay_4 (mx_number hm (fun r J1 m1 p1 => ⟨r, J1, L, R, rfl, mx_must m1 (fun J3 m3 p3 => ⟨J3, L, R, rfl, fun a => ?_, fun _ => ?_⟩)⟩))
  all_goals
    have pI : ml_pS ml_no I J3 := ml_pS_tr p1 p3
    have T3 : ml_TI l s J3 := ml_TI_no hls hm pI hT
    have g3 : ml_pg I0 J3 := ml_pg_tr g0 pI
  · obtain ⟨sn, sv⟩ := ml_sn hls T3
    have e120 : J3 120 s = I 120 s := ml_pS_g pI (by omega)
    have b120 : 0 ≤ (J3 120 s).toInt ∧ (J3 120 s).toInt ≤ 12 := ml_row m3 (p := 120) (n := 2) (q := (0, 12)) (fun _ => rfl) _ (by omega)
    refine ⟨sv, fun n9 e9 => ⟨sv, fun J10 e10 => ?_⟩⟩
    rw [sn] at e9 e10
    have s9 : n9.toInt = (J3 120 s).toInt + 1 := by rw [e9]; exact ml_in1 (by omega)
    have w10 := ml_w0 (L := L) (R := R) (l := l) (p := 120) (j := s) (x := n9) (n := 2) (q := (0, 12)) hl T3.1 (by unfold ml_D0 ml_hm; unfold ml_ls at hls; omega) m3 rfl (by show 0 ≤ _ ∧ _ ≤ (12 : Int); rw [e120] at *; omega)
    rw [← e10] at w10
    have fin : ∀ J : sm_I, en_mem ml_tb mlX (xLay, J, L, R) → ml_pS (ml_D0 l) J3 J → Φ (none, (xLay, J, L, kM R)) := fun J mJ pJ => h J L ⟨mJ, ml_pS_tr (ml_pS_no (ml_pS_tr p0 pI)) (ml_D0l hl pJ), ml_TI_0 hls m3 pJ T3, ml_pg_tr g3 pJ⟩
    have f10 := fin J10 w10.1 w10.2
    refine ⟨fun _ => f10, fun c1 => ⟨fun _ => f10, fun c3 => ⟨fun _ => f10, fun _ n11 e11 => ?_⟩⟩⟩
    have c1 := ml_m1 c1
    have c3 := ml_m1 c3
    have k18 : (J10 107 18).toInt = l := (ml_TI_0 hls m3 w10.2 T3).1
    have k19 : (J10 107 19).toInt = s := (ml_TI_0 hls m3 w10.2 T3).2.1
    have idx : ∀ (y z n : Int32) (J : sm_I), (J 107 19).toInt = s → 0 ≤ y.toInt → y.toInt ≤ 5 → 0 ≤ z.toInt → z.toInt ≤ 5 → n = ((((36 : Int32) * (J 107 19)) + ((6 : Int32) * y)) + z) → vp_in n 72 ∧ (n.toNatClampNeg < 36 * l ∨ 36 * l + 36 ≤ n.toNatClampNeg) := by
      intro y z n J hJ y0 y1 z0 z1 en
      have q1 : ((36 : Int32) * (J 107 19)).toInt = 36 * (s : Int) := ml_mu (by decide) hJ (by omega) (by omega)
      have q2 : ((6 : Int32) * y).toInt = 6 * y.toInt := ml_mu (by decide) rfl (by omega) (by omega)
      have q3 : (((36 : Int32) * (J 107 19)) + ((6 : Int32) * y)).toInt = 36 * (s : Int) + 6 * y.toInt := ml_ad q1 q2 (by omega) (by omega)
      have q4 : n.toInt = 36 * (s : Int) + 6 * y.toInt + z.toInt := by rw [en]; exact ml_ad q3 rfl (by omega) (by omega)
      have nn := kl_nat (i := n) (by omega)
      exact ⟨kl_in (by omega) (by omega), by unfold ml_ls at hls; omega⟩
    obtain ⟨v11, u11⟩ := idx x1 x3 n11 J10 k19 (by omega) b1.2 (by omega) b3.2 e11
    have two : ∀ J12 : sm_I, J12 = sm_up J10 121 n11.toNatClampNeg r → ∀ n13 : Int32, n13 = ((((36 : Int32) * (J12 107 19)) + ((6 : Int32) * x3)) + x1) → (vp_in n13 72) ∧ ∀ J14 : sm_I, J14 = (sm_up J12 121 n13.toNatClampNeg r) → Φ (none, (xLay, J14, L, (kM R))) := by
      intro J12 e12 n13 e13
      obtain ⟨v13, u13⟩ := idx x3 x1 n13 J12 (by rw [e12, en_up_ne _ _ _ _ (by omega)]; exact k19) (by omega) b3.2 (by omega) b1.2 e13
      refine ⟨v13, fun J14 e14 => ?_⟩
      have w := ml_wy u11 u13 hl k18 w10.1 e12 e14
      exact fin J14 w.1 (ml_pS_tr w10.2 w.2)
    exact ⟨v11, fun _ => ⟨v11, two⟩, fun _ => ⟨v11, fun _ => ⟨v11, two⟩, fun _ => f10⟩⟩
  · exact h J3 L ⟨m3, ml_pS_no (ml_pS_tr p0 pI), T3, g3⟩
theorem mx_tellWay {S : sm_C} {d : Nat} {Φ : sm_Z → Prop} {I : sm_I} {L : sm_L} {R : sm_R} {l s : Nat} (hls : ml_ls l s) (hm : en_mem ml_tb mlX (xLay, I, L, R)) (hT : ml_TI l s I) (hw : (I 120 s).toInt ≤ 11) (h : ∀ (J : sm_I) (L' : sm_L), ml_ok l s R I J L' → Φ (none, (xLay, J, L', kM R))) : sm_wp sm_P S (d + 4) 203 0 [.ref 107] [] (xLay, I, L, kM R) (0, 0) Φ := by
  refine u_X12_tellWay_0 (mx_goesOn hm (fun J1 m1 p1 g1 => ⟨J1, L, R, rfl, mx_known m1 (fun r8 J2 m2 p2 a1 a2 a3 a4 a5 => ⟨r8, J2, L, R, rfl, mx_known m2 (fun r12 J3 m3 p3 c1 c2 c3 c4 c5 => ⟨r12, J3, L, R, rfl, ?_⟩)⟩)⟩))
  have bt : 0 ≤ (J2 107 11).toInt ∧ (J2 107 11).toInt ≤ 500 := ml_t m2
  have pI : ml_pS ml_no I J3 := ml_pS_tr p1 (ml_pS_tr p2 p3)
  have T3 : ml_TI l s J3 := ml_TI_no hls hm pI hT
  have g3 : ml_pg I J3 := ml_pg_tr g1 (ml_pS_tr p2 p3)
  have w3 : (J3 120 s).toInt ≤ 11 := by rw [ml_pS_g pI (by omega)]; exact hw
  have b8 : -1 ≤ r8.toInt ∧ r8.toInt ≤ 5 := ⟨a1, a4 (by decide)⟩
  have b12 : -1 ≤ r12.toInt ∧ r12.toInt ≤ 5 := ⟨c1, c4 (by decide)⟩
  have go : sm_wp sm_P S (d + 4) 203 4 [.ref 107, .int r8, .int r12] [] (xLay, J3, L, kM R) (0, 0) Φ := mx_tellWay4 hls m3 T3 pI g3 w3 b8 b12 h
  refine ⟨fun _ => ⟨fun _ => ⟨fun _ => go, fun _ => ?_⟩, fun _ => go⟩, fun _ => go⟩
  refine mx_wrong (by decide) (by decide) bt.1 (by omega) m3 (fun J4 m4 p4 _ => ⟨J4, L, R, rfl, ?_⟩)
  exact mx_tellWay4 hls m4 (ml_TI_no hls m3 p4 T3) (ml_pS_tr pI p4) (ml_pg_tr g3 p4) (by rw [ml_pS_g p4 (by omega)]; exact w3) b8 b12 h
/-- a TIME is told -/
theorem ml_time {S : sm_C} {d : Nat} {Φ : sm_Z → Prop} {I J3 : sm_I} {L : sm_L} {R : sm_R} {l s : Nat} {r8 n9 y z : Int32} (hls : ml_ls l s) (r0 : 0 ≤ r8.toInt) (r1 : r8.toInt ≤ 500) (m3 : en_mem ml_tb mlX (xLay, J3, L, R)) (T3 : ml_TI l s J3) (p3 : ml_pS ml_no I J3) (g3 : ml_pg I J3) (ht : (J3 122 s).toInt ≤ 9) (e9 : n9.toInt = 10 * (s : Int) + (J3 122 s).toInt) (by0 : -1 ≤ y.toInt ∧ y.toInt ≤ 3) (bz : -1 ≤ z.toInt ∧ z.toInt ≤ 5) (hyz : J3 107 15 = 0 → y.toInt ≠ -1 → 0 ≤ z.toInt) (h : ∀ (J : sm_I) (L' : sm_L), ml_ok l s R I J L' → Φ (none, (xLay, J, L', kM R))) : (vp_in n9 20) ∧ ∀ I18 : sm_I, I18 = (sm_up J3 123 n9.toNatClampNeg y) → (vp_in n9 20) ∧ ∀ I19 : sm_I, I19 = (sm_up I18 124 n9.toNatClampNeg z) → (vp_in (I19 107 19) 2) ∧ ∀ n20 : Int32, n20 = (I19 122 (I19 107 19).toNatClampNeg) → sm_wp sm_P S d 155 0 [.ref 107, .int r8, .int (2 : Int32), .int n20] [] (xLay, I19, L, (kM R)) (0, 0) (fun z => ∃ (I21 : sm_I) (L22 : sm_L) (R23 : sm_R), z = (none, (xLay, I21, L22, (kM R23))) ∧ (vp_in (I21 107 19) 2) ∧ ∀ n25 : Int32, n25 = ((I21 122 (I21 107 19).toNatClampNeg) + (1 : Int32)) → (vp_in (I21 107 19) 2) ∧ ∀ I26 : sm_I, I26 = (sm_up I21 122 (I21 107 19).toNatClampNeg n25) → Φ (none, (xLay, I26, L22, (kM R23)))) := by
  obtain ⟨hl, hs⟩ := ml_l1 hls
  have hls' := hls
  unfold ml_ls at hls'
  have b3 := ml_cs hs m3
  have n9n := kl_nat (i := n9) (by omega)
  have v9 : vp_in n9 20 := kl_in (by omega) (by omega)
  have d123 : 116 ≤ 123 ∧ 123 ≤ 136 ∧ ¬ ml_hl l 123 n9.toNatClampNeg := ⟨by decide, by decide, by unfold ml_hl; omega⟩
  have d124 : 116 ≤ 124 ∧ 124 ≤ 136 ∧ ¬ ml_hl l 124 n9.toNatClampNeg := ⟨by decide, by decide, by unfold ml_hl; omega⟩
  refine ⟨v9, fun I18 e18 => ⟨v9, fun I19 e19 => ?_⟩⟩
  have m18 : en_mem ml_tb mlX (xLay, I18, L, R) := by
    rw [e18]
    exact ml_wt hl T3.1 d123 (by decide) m3 (ml_rq (n := 20) (q := (-1, 3)) rfl by0)
  have m19 : en_mem ml_tb mlX (xLay, I19, L, R) := by
    rw [e19]
    exact ml_wt hl (by rw [e18, en_up_ne _ _ _ _ (by omega)]; exact T3.1) d124 (by decide) m18 (ml_rq (n := 20) (q := (-1, 5)) rfl bz)
  have o19 : ∀ p j, ¬ ((p = 123 ∨ p = 124) ∧ j = n9.toNatClampNeg) → I19 p j = J3 p j := fun p j hp => by rw [e19, en_up_ne _ _ _ _ (by omega), e18, en_up_ne _ _ _ _ (by omega)]
  have p19 : ml_pS (ml_Dl l) J3 I19 := by
    have q1 : ml_pS (ml_Dl l) J3 I18 := by rw [e18]; exact ml_pS_up (Or.inr ⟨d123.1, d123.2.1, d123.2.2, fun c => by unfold ml_hm at c; omega⟩) (by omega)
    have q2 : ml_pS (ml_Dl l) I18 I19 := by rw [e19]; exact ml_pS_up (Or.inr ⟨d124.1, d124.2.1, d124.2.2, fun c => by unfold ml_hm at c; omega⟩) (by omega)
    exact ml_pS_tr q1 q2
  have V19 : J3 107 15 = 0 → mlV I19 s := fun c => by
    refine mlV_dom (o19 122 s (by omega)) (o19 125 s (by omega)) (fun i hi => ⟨o19 _ _ (by omega), o19 _ _ (by omega)⟩) (fun k hk => o19 _ _ (by omega)) (fun k c hk hc => o19 _ _ (by omega)) (fun k c i hk hc hi => o19 _ _ (by omega)) (T3.2.2.2 c)
  have T19 : ml_TI l s I19 := by
    refine ⟨by rw [o19 _ _ (by omega)]; exact T3.1, by rw [o19 _ _ (by omega)]; exact T3.2.1, ?_, fun c => V19 (by rw [o19 _ _ (by omega)] at c; exact c)⟩
    unfold ml_sum
    rw [o19 _ _ (by omega), o19 _ _ (by omega), o19 _ _ (by omega), o19 _ _ (by omega), o19 _ _ (by omega), o19 _ _ (by omega)]
    exact T3.2.2.1
  obtain ⟨sn, sv⟩ := ml_sn hls T19
  refine ⟨sv, fun n20 e20 => ?_⟩
  rw [sn, o19 _ _ (by omega)] at e20
  have t2 : (2 : Int32).toInt = 2 := by decide
  refine mx_knows r0 r1 (by decide) (by rw [e20]; omega) (fun c => absurd c (by decide)) (fun c => absurd c (by decide)) (ml_nm49 hls T19 m19) m19 (fun K L' mK pK nK => ⟨K, L', R, rfl, ?_⟩)
  have oK : ∀ a b, ¬ ml_kn (I19 107 20).toNatClampNeg a b → ¬ (a = 107 ∧ (b = 11 ∨ b = 13 ∨ b = 14 ∨ b = 15 ∨ b = 16)) → K a b = I19 a b := pK.1
  unfold ml_kn at oK
  rw [oK 107 19 (by omega) (by omega)]
  refine ⟨sv, fun n25 e25 => ⟨sv, fun J e => h J L' ?_⟩⟩
  rw [sn] at e25 e
  refine ml_done hls m19 T19 (ml_pS_tr (ml_pS_no p3) p19) (ml_pg_tr g3 p19) mK pK nK (Or.inr (Or.inr (Or.inl rfl))) (mx := 10) (by rcases hls' with ⟨-, c⟩ | ⟨-, c⟩ <;> subst c <;> rfl) e25 (by rw [o19 _ _ (by omega)]; omega) (by rw [o19 _ _ (by omega)]; omega) (by omega) e (fun c => ?_)
  have c0 : J3 107 15 = 0 := by
    rw [e, en_up_ne _ _ _ _ (by omega)] at c
    by_cases c2 : J3 107 15 = 0
    · exact c2
    · exact absurd c (pK.2.1 (by rw [o19 _ _ (by omega)]; exact c2))
  have W := T3.2.2.2 c0
  have oJ : ∀ p j, p = 123 ∨ p = 124 ∨ p = 125 ∨ p = 128 ∨ p = 129 ∨ p = 130 → J p j = I19 p j := fun p j hp => by rw [e, en_up_ne _ _ _ _ (by omega), oK p j (by omega) (by omega)]
  have nJ : (J 122 s).toInt = (J3 122 s).toInt + 1 := by
    rw [e, en_up_eq, e25, oK 122 s (by omega) (by omega), o19 122 s (by omega)]; exact ml_in1 (by omega)
  refine ⟨fun i hi hy => ?_, fun k q i hk hq hi => ?_⟩
  · rw [oJ 123 _ (by omega)] at hy
    rw [oJ 124 _ (by omega)]
    by_cases ci : 10 * s + i = n9.toNatClampNeg
    · have a1 : I19 124 (10 * s + i) = z := by rw [ci, e19, en_up_eq]
      have a2 : I19 123 (10 * s + i) = y := by rw [ci, e19, en_up_ne _ _ _ _ (by omega), e18, en_up_eq]
      rw [a2] at hy
      rw [a1]; exact hyz c0 hy
    · rw [o19 _ _ (by omega)] at hy
      rw [o19 _ _ (by omega)]
      exact W.1 i (by omega) hy
  · rw [oJ 125 _ (by omega), o19 _ _ (by omega)] at hk
    rw [oJ 128 _ (by omega), o19 _ _ (by omega)] at hq
    rw [oJ 129 _ (by omega), o19 _ _ (by omega)] at hi
    rw [oJ 130 _ (by omega), o19 _ _ (by omega)]
    exact W.2 k q i hk hq hi
theorem mx_tellTime {S : sm_C} {d : Nat} {Φ : sm_Z → Prop} {I : sm_I} {L : sm_L} {R : sm_R} {l s : Nat} (hls : ml_ls l s) (hm : en_mem ml_tb mlX (xLay, I, L, R)) (hT : ml_TI l s I) (ht : (I 122 s).toInt ≤ 9) (h : ∀ (J : sm_I) (L' : sm_L), ml_ok l s R I J L' → Φ (none, (xLay, J, L', kM R))) : sm_wp sm_P S (d + 4) 202 0 [.ref 107] [] (xLay, I, L, kM R) (0, 0) Φ := by
  obtain ⟨hl, hs⟩ := ml_l1 hls
  refine u_X12_tellTime_0 (mx_goesOn hm (fun J1 m1 p1 g1 => ⟨J1, L, R, rfl, mx_named m1 (fun r8 J2 r0 r1 m2 p2 => ⟨r8, J2, L, R, rfl, ?_⟩)⟩))
  have pI2 : ml_pS ml_no I J2 := ml_pS_tr p1 p2
  have T2 : ml_TI l s J2 := ml_TI_no hls hm pI2 hT
  have g2 : ml_pg I J2 := ml_pg_tr g1 p2
  obtain ⟨sn, sv⟩ := ml_sn hls T2
  have b2 := ml_cs hs m2
  refine ⟨sv, fun n9 e9 => ?_⟩
  rw [sn] at e9
  have q1 : ((10 : Int32) * (J2 107 19)).toInt = 10 * (s : Int) := ml_mu (by decide) T2.2.1 (by omega) (by omega)
  have q9 : n9.toInt = 10 * (s : Int) + (J2 122 s).toInt := by rw [e9]; exact ml_ad q1 rfl (by omega) (by omega)
  have t2 : (J2 122 s).toInt ≤ 9 := by rw [ml_pS_g pI2 (by omega)]; exact ht
  have tn : (-1 : Int32).toInt = -1 := by decide
  refine mx_is m2 (fun r13 _ _ => ⟨r13, J2, L, R, rfl, fun _ => ?_, fun _ => ?_⟩)
  · refine mx_must m2 (fun J3 m3 p3 => ⟨J3, L, R, rfl, fun _ => ?_, fun _ => ?_⟩)
    · exact ml_time hls r0 r1 m3 (ml_TI_no hls m2 p3 T2) (ml_pS_tr pI2 p3) (ml_pg_tr g2 p3) (by rw [ml_pS_g p3 (by omega)]; exact t2) (by rw [ml_pS_g p3 (by omega)]; exact q9) (by decide) (by decide) (fun _ c => absurd tn c) h
    · exact h J3 L ⟨m3, ml_pS_no (ml_pS_tr pI2 p3), ml_TI_no hls m2 p3 T2, ml_pg_tr g2 p3⟩
  · refine mx_goesOn m2 (fun J3 m3 p3 _ => ⟨J3, L, R, rfl, mx_known m3 (fun r37 J4 m4 p4 a1 a2 a3 a4 a5 => ⟨r37, J4, L, R, rfl, mx_must m4 (fun J5 m5 p5 => ⟨J5, L, R, rfl, mx_known m5 (fun r45 J6 m6 p6 c1 c2 c3 c4 c5 => ⟨r45, J6, L, R, rfl, mx_must m6 (fun J7 m7 p7 => ⟨J7, L, R, rfl, fun _ => ?_, fun _ => ?_⟩)⟩)⟩)⟩)⟩)
    all_goals have p27 : ml_pS ml_no J2 J7 := ml_pS_tr p3 (ml_pS_tr p4 (ml_pS_tr p5 (ml_pS_tr p6 p7)))
    · refine ml_time hls r0 r1 m7 (ml_TI_no hls m2 p27 T2) (ml_pS_tr pI2 p27) (ml_pg_tr g2 p27) (by rw [ml_pS_g p27 (by omega)]; exact t2) (by rw [ml_pS_g p27 (by omega)]; exact q9) ⟨a1, a3 (by decide)⟩ ⟨c1, c4 (by decide)⟩ (fun c _ => ?_) h
      by_cases cz : r45.toInt = -1
      · exact absurd c (p7.2.1 (c5 cz))
      · omega
    · exact h J7 L ⟨m7, ml_pS_no (ml_pS_tr pI2 p27), ml_TI_no hls m2 p27 T2, ml_pg_tr g2 p27⟩
