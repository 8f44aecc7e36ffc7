/-! spans -/
def ml_sp (x p j : Nat) : Prop := 130 ≤ p ∧ p ≤ 133 ∧ j = x
theorem ml_w15 {D : Nat → Nat → Prop} {I J : sm_I} (h : ml_pS D I J) (c : J 107 15 = 0) : I 107 15 = 0 := by
  by_cases c2 : I 107 15 = 0
  · exact c2
  · exact absurd c (h.2.1 c2)
theorem mx_tellSpan {S : sm_C} {d : Nat} {Φ : sm_Z → Prop} {I : sm_I} {L : sm_L} {R : sm_R} {x1 : Int32} {l : Nat} (hl : l ≤ 1) (hv : (I 107 18).toInt = l) (h0 : 0 ≤ x1.toInt) (h1 : x1.toInt < 260) (hx : ¬ ml_hl l 130 x1.toNatClampNeg) (hm : en_mem ml_tb mlX (xLay, I, L, R)) (h : ∀ J : sm_I, en_mem ml_tb mlX (xLay, J, L, R) → ml_pS (ml_sp x1.toNatClampNeg) I J → (J 107 15 = 0 → 0 ≤ (J 130 x1.toNatClampNeg).toInt) → Φ (none, (xLay, J, L, kM R))) : sm_wp sm_P S (d + 4) 201 0 [.ref 107, .int x1] [] (xLay, I, L, kM R) (0, 0) Φ := by
  have v : vp_in x1 260 := kl_in h0 (by omega)
  have n1 := kl_nat h0
  have live : ∀ J : sm_I, ml_pS (ml_sp x1.toNatClampNeg) I J → (J 107 18).toInt = l := fun J pJ => by rw [pJ.1 107 18 (by unfold ml_sp; omega) (by omega)]; exact hv
  have B : ∀ (b : Int32) (J : sm_I), en_mem ml_tb mlX (xLay, J, L, R) → ml_pS (ml_sp x1.toNatClampNeg) I J → (J 107 15 = 0 → 0 ≤ (J 130 x1.toNatClampNeg).toInt) → sm_wp sm_P S (d + 3) 169 0 [.ref 107, .int b] [] (xLay, J, L, kM R) (0, 0) (fun z => ∃ (r : Int32) (I' : sm_I) (L' : sm_L) (R' : sm_R), z = (some (.int r), (xLay, I', L', kM R')) ∧ (vp_in x1 260) ∧ ∀ I2 : sm_I, I2 = (sm_up I' 133 x1.toNatClampNeg r) → Φ (none, (xLay, I2, L', kM R'))) := by
    intro b J mJ pJ qJ
    refine mx_number mJ (fun r K mK pK => ⟨r, K, L, R, rfl, v, fun I2 e2 => ?_⟩)
    have pIK : ml_pS (ml_sp x1.toNatClampNeg) I K := ml_pS_tr pJ (ml_pS_no pK)
    refine h I2 ?_ ?_ (fun c => ?_)
    · rw [e2]
      exact ml_wt hl (live K pIK) ⟨by decide, by decide, by unfold ml_hl; omega⟩ (by decide) mK (ml_rq (n := 260) (q := (-2147483648, 2147483647)) rfl en_crange)
    · refine ml_pS_tr pIK ?_
      rw [e2]; exact ml_pS_up ⟨by decide, by decide, rfl⟩ (by omega)
    · rw [e2, en_up_ne _ _ _ _ (by omega)] at c
      rw [e2, en_up_ne _ _ _ _ (by omega), ml_pS_g pK (by omega)]
      exact qJ (ml_w15 pK c)
  have A : ∀ (b r8 : Int32) (J : sm_I), en_mem ml_tb mlX (xLay, J, L, R) → ml_pS (ml_sp x1.toNatClampNeg) I J → (J 107 15 = 0 → 0 ≤ (J 130 x1.toNatClampNeg).toInt) → sm_wp sm_P S (d + 3) 169 0 [.ref 107, .int b] [] (xLay, J, L, kM R) (0, 0) (fun z => ∃ (r : Int32) (I' : sm_I) (L' : sm_L) (R' : sm_R), z = (some (.int r), (xLay, I', L', kM R')) ∧ (vp_in x1 260) ∧ ∀ I2 : sm_I, I2 = (sm_up I' 132 x1.toNatClampNeg r) → ((r8 = 0 → sm_wp sm_P S (d + 3) 169 0 [.ref 107, .int (1 : Int32)] [] (xLay, I2, L', kM R') (0, 0) (fun z => ∃ (r : Int32) (I' : sm_I) (L' : sm_L) (R' : sm_R), z = (some (.int r), (xLay, I', L', kM R')) ∧ (vp_in x1 260) ∧ ∀ I2 : sm_I, I2 = (sm_up I' 133 x1.toNatClampNeg r) → Φ (none, (xLay, I2, L', kM R')))) ∧ (¬ r8 = 0 → sm_wp sm_P S (d + 3) 169 0 [.ref 107, .int (0 : Int32)] [] (xLay, I2, L', kM R') (0, 0) (fun z => ∃ (r : Int32) (I' : sm_I) (L' : sm_L) (R' : sm_R), z = (some (.int r), (xLay, I', L', kM R')) ∧ (vp_in x1 260) ∧ ∀ I2 : sm_I, I2 = (sm_up I' 133 x1.toNatClampNeg r) → Φ (none, (xLay, I2, L', kM R')))))) := by
    intro b r8 J mJ pJ qJ
    refine mx_number mJ (fun r K mK pK => ⟨r, K, L, R, rfl, v, fun I2 e2 => ?_⟩)
    have pIK : ml_pS (ml_sp x1.toNatClampNeg) I K := ml_pS_tr pJ (ml_pS_no pK)
    have m2 : en_mem ml_tb mlX (xLay, I2, L, R) := by
      rw [e2]
      exact ml_wt hl (live K pIK) ⟨by decide, by decide, by unfold ml_hl; omega⟩ (by decide) mK (ml_rq (n := 260) (q := (-2147483648, 2147483647)) rfl en_crange)
    have p2 : ml_pS (ml_sp x1.toNatClampNeg) I I2 := by
      refine ml_pS_tr pIK ?_
      rw [e2]; exact ml_pS_up ⟨by decide, by decide, rfl⟩ (by omega)
    have q2 : I2 107 15 = 0 → 0 ≤ (I2 130 x1.toNatClampNeg).toInt := fun c => by
      rw [e2, en_up_ne _ _ _ _ (by omega)] at c
      rw [e2, en_up_ne _ _ _ _ (by omega), ml_pS_g pK (by omega)]
      exact qJ (ml_w15 pK c)
    exact ⟨fun _ => B _ I2 m2 p2 q2, fun _ => B _ I2 m2 p2 q2⟩
  refine u_X12_tellSpan_0 (mx_known hm (fun r4 J1 m1 p1 a1 a2 a3 a4 a5 => ⟨r4, J1, L, R, rfl, mx_is m1 (fun r8 _ _ => ⟨r8, J1, L, R, rfl, ?_⟩)⟩))
  have W2 : ∀ (y : Int32) (J : sm_I), en_mem ml_tb mlX (xLay, J, L, R) → ml_pS ml_no J1 J → -1 ≤ y.toInt → y.toInt ≤ 9 → ∀ I17 : sm_I, I17 = (sm_up J 131 x1.toNatClampNeg y) → ∀ I18 : sm_I, I18 = (sm_up I17 130 x1.toNatClampNeg r4) → en_mem ml_tb mlX (xLay, I18, L, R) ∧ ml_pS (ml_sp x1.toNatClampNeg) I I18 ∧ (I18 107 15 = 0 → 0 ≤ (I18 130 x1.toNatClampNeg).toInt) := by
    intro y J mJ pJ y0 y1 I17 e17 I18 e18
    have pIJ : ml_pS (ml_sp x1.toNatClampNeg) I J := ml_pS_no (ml_pS_tr p1 pJ)
    have p17 : ml_pS (ml_sp x1.toNatClampNeg) I I17 := by
      refine ml_pS_tr pIJ ?_
      rw [e17]; exact ml_pS_up ⟨by decide, by decide, rfl⟩ (by omega)
    have m17 : en_mem ml_tb mlX (xLay, I17, L, R) := by
      rw [e17]
      exact ml_wt hl (live J pIJ) ⟨by decide, by decide, by unfold ml_hl; omega⟩ (by decide) mJ (ml_rq (n := 260) (q := (-1, 9)) rfl ⟨y0, y1⟩)
    refine ⟨?_, ?_, fun c => ?_⟩
    · rw [e18]
      exact ml_wt hl (live I17 p17) ⟨by decide, by decide, hx⟩ (by decide) m17 (ml_rq (n := 260) (q := (-1, 9)) rfl ⟨a1, a2⟩)
    · refine ml_pS_tr p17 ?_
      rw [e18]; exact ml_pS_up ⟨by decide, by decide, rfl⟩ (by omega)
    · rw [e18, en_up_ne _ _ _ _ (by omega), e17, en_up_ne _ _ _ _ (by omega)] at c
      rw [e18, en_up_eq]
      by_cases cr : r4.toInt = -1
      · exact absurd (ml_w15 pJ c) (a5 cr)
      · omega
  refine ⟨fun _ => mx_must m1 (fun J2 m2 p2 => ⟨J2, L, R, rfl, fun _ => mx_known m2 (fun r16 J3 m3 p3 c1 c2 c3 c4 c5 => ⟨r16, J3, L, R, rfl, v, fun I17 e17 => ⟨v, fun I18 e18 => ?_⟩⟩), fun _ => ⟨v, fun I17 e17 => ⟨v, fun I18 e18 => ?_⟩⟩⟩), fun _ => mx_goesOn m1 (fun J2 m2 p2 _ => ⟨J2, L, R, rfl, v, fun I17 e17 => ⟨v, fun I18 e18 => ?_⟩⟩)⟩
  · obtain ⟨q1, q2, q3⟩ := W2 r16 J3 m3 (ml_pS_tr p2 p3) c1 c2 I17 e17 I18 e18
    exact ⟨fun _ => A _ _ I18 q1 q2 q3, fun _ => A _ _ I18 q1 q2 q3⟩
  · obtain ⟨q1, q2, q3⟩ := W2 0 J2 m2 p2 (by decide) (by decide) I17 e17 I18 e18
    exact ⟨fun _ => A _ _ I18 q1 q2 q3, fun _ => A _ _ I18 q1 q2 q3⟩
  · obtain ⟨q1, q2, q3⟩ := W2 (-1) J2 m2 p2 (by decide) (by decide) I17 e17 I18 e18
    exact ⟨fun _ => A _ _ I18 q1 q2 q3, fun _ => A _ _ I18 q1 q2 q3⟩
/-! all of a choice -/
def ml_al (x p j : Nat) : Prop := (p = 129 ∧ j = x) ∨ (130 ≤ p ∧ p ≤ 133 ∧ 3 * x ≤ j ∧ j < 3 * x + 3)
def ml_ai (I : sm_I) (x : Nat) : Prop := I 107 15 = 0 → ∀ i : Nat, (i : Int) < (I 129 x).toInt → 0 ≤ (I 130 (3 * x + i)).toInt
theorem ml_ai_no {I J : sm_I} {x : Nat} (h : ml_pS ml_no I J) (q : ml_ai I x) : ml_ai J x := fun c i hi => by
  rw [ml_pS_g h (by omega)] at hi
  rw [ml_pS_g h (by omega)]
  exact q (ml_w15 h c) i hi
theorem mx_tellAll1 {S : sm_C} {d : Nat} {Φ : sm_Z → Prop} {I0 : sm_I} {L : sm_L} {R : sm_R} {x1 : Int32} {l s : Nat} (hls : ml_ls l s) (hv : (I0 107 18).toInt = l) (h0 : 40 * (s : Int) ≤ x1.toInt) (h1 : x1.toInt < 40 * (s : Int) + 40) (h : ∀ J : sm_I, en_mem ml_tb mlX (xLay, J, L, R) → ml_pS (ml_al x1.toNatClampNeg) I0 J → ml_ai J x1.toNatClampNeg → Φ (none, (xLay, J, L, kM R))) : ∀ (m : Nat) (I : sm_I) (x2 : Int32), en_mem ml_tb mlX (xLay, I, L, R) → ml_pS (ml_al x1.toNatClampNeg) I0 I → ml_ai I x1.toNatClampNeg → (¬ x2 = 0 → I 107 13 = 0 → (I 129 x1.toNatClampNeg).toInt ≤ 2) → 3 - (I 129 x1.toNatClampNeg).toInt < m → sm_wp sm_P S (d + 5) 196 1 [.ref 107, .int x1, .int x2] [] (xLay, I, L, kM R) (0, 0) Φ := by
  obtain ⟨hl, hs⟩ := ml_l1 hls
  have hls' := hls
  unfold ml_ls at hls'
  have n1 := kl_nat (i := x1) (by omega)
  have v : vp_in x1 80 := kl_in (by omega) (by omega)
  intro m
  induction m with
  | zero =>
    intro I x2 hm hp hq hc hM
    have b : 0 ≤ (I 129 x1.toNatClampNeg).toInt ∧ (I 129 x1.toNatClampNeg).toInt ≤ 3 := ml_row hm (p := 129) (n := 80) (q := (0, 3)) (fun _ => rfl) _ (by omega)
    omega
  | succ m ih =>
    intro I x2 hm hp hq hc hM
    have b : 0 ≤ (I 129 x1.toNatClampNeg).toInt ∧ (I 129 x1.toNatClampNeg).toInt ≤ 3 := ml_row hm (p := 129) (n := 80) (q := (0, 3)) (fun _ => rfl) _ (by omega)
    refine u_X12_tellAll_1 ⟨fun _ => h I hm hp hq, fun c2 => ⟨fun c13 => ⟨v, fun n1' e1 => ?_⟩, fun _ => h I hm hp hq⟩⟩
    have b2 := hc c2 c13
    have q1 : ((3 : Int32) * x1).toInt = 3 * x1.toInt := ml_mu (by decide) rfl (by omega) (by omega)
    have q2 : n1'.toInt = 3 * x1.toInt + (I 129 x1.toNatClampNeg).toInt := by rw [e1]; exact ml_ad q1 rfl (by omega) (by omega)
    have n2 := kl_nat (i := n1') (by omega)
    have v18 : (I 107 18).toInt = l := by rw [hp.1 107 18 (by unfold ml_al; omega) (by omega)]; exact hv
    refine mx_tellSpan hl v18 (by omega) (by omega) (by unfold ml_hl; omega) hm (fun J2 m2 p2 q2' => ⟨J2, L, R, rfl, fun _ => ⟨v, fun n6 e6 => ⟨v, fun J7 e7 => ?_⟩⟩, fun _ => ?_⟩)
    all_goals
      have pJ2 : ml_pS (ml_al x1.toNatClampNeg) I0 J2 := ml_pS_tr hp (ml_pS_mo p2 (fun p j c => by unfold ml_sp at c; unfold ml_al; omega))
      have o2 : ∀ p j, ¬ ml_sp n1'.toNatClampNeg p j → ¬ (p = 107 ∧ (j = 11 ∨ j = 13 ∨ j = 14 ∨ j = 15 ∨ j = 16)) → J2 p j = I p j := p2.1
      unfold ml_sp at o2
      have s129 : J2 129 x1.toNatClampNeg = I 129 x1.toNatClampNeg := o2 _ _ (by omega) (by omega)
    · rw [s129] at e6
      have s6 : n6.toInt = (I 129 x1.toNatClampNeg).toInt + 1 := by rw [e6]; exact ml_in1 (by omega)
      have m7 : en_mem ml_tb mlX (xLay, J7, L, R) := by
        rw [e7]
        exact ml_wt hl (by rw [o2 107 18 (by omega) (by omega)]; exact v18) ⟨by decide, by decide, by unfold ml_hl; omega⟩ (by decide) m2 (ml_rq (n := 80) (q := (0, 3)) rfl (by show 0 ≤ _ ∧ _ ≤ (3 : Int); omega))
      have p7 : ml_pS (ml_al x1.toNatClampNeg) I0 J7 := by
        refine ml_pS_tr pJ2 ?_
        rw [e7]; exact ml_pS_up (Or.inl ⟨rfl, rfl⟩) (by omega)
      have c7 : (J7 129 x1.toNatClampNeg).toInt = (I 129 x1.toNatClampNeg).toInt + 1 := by rw [e7, en_up_eq]; exact s6
      have a7 : ml_ai J7 x1.toNatClampNeg := by
        intro c i hi
        rw [e7, en_up_ne _ _ _ _ (by omega)] at c
        rw [c7] at hi
        rw [e7, en_up_ne _ _ _ _ (by omega)]
        by_cases ci : 3 * x1.toNatClampNeg + i = n1'.toNatClampNeg
        · rw [ci]; exact q2' c
        · rw [o2 _ _ (by omega) (by omega)]
          exact hq (ml_w15 p2 c) i (by omega)
      have nx : ∀ (J : sm_I) (r : Int32), en_mem ml_tb mlX (xLay, J, L, R) → ml_pS ml_no J7 J → (¬ r = 0 → J 107 13 = 0 → (J7 129 x1.toNatClampNeg).toInt ≤ 2) → sm_wp sm_P S (d + 5) 196 1 [.ref 107, .int x1, .int r] [] (xLay, J, L, kM R) (0, 0) Φ := by
        intro J r mJ pJ hr
        have e129 : J 129 x1.toNatClampNeg = J7 129 x1.toNatClampNeg := ml_pS_g pJ (by omega)
        exact ih J r mJ (ml_pS_tr p7 (ml_pS_no pJ)) (ml_ai_no pJ a7) (by rw [e129]; exact hr) (by rw [e129]; omega)
      refine mx_is m7 (fun r _ _ => ⟨r, J7, L, R, rfl, fun c => ⟨fun _ => nx J7 r m7 ml_pS_rf (fun c' => absurd c c'), fun c' => absurd c c'⟩, fun cr => ⟨v, fun c3 => ?_, fun c3 => ⟨fun c => absurd c cr, fun _ => ?_⟩⟩⟩)
      · refine mx_fail (by decide) (by decide) m7 (fun J8 m8 p8 f8 => ⟨J8, L, R, rfl, fun c => absurd c cr, fun _ => mx_goesOn m8 (fun J9 m9 p9 _ => ⟨J9, L, R, rfl, nx J9 r m9 (ml_pS_tr p8 p9) (fun _ c => absurd c (p9.2.2.1 f8))⟩)⟩)
      · have c3' : (J7 129 x1.toNatClampNeg).toInt ≠ 3 := fun c => c3 (en_ofI (by rw [c]; decide))
        exact mx_goesOn m7 (fun J9 m9 p9 _ => ⟨J9, L, R, rfl, nx J9 r m9 p9 (fun _ _ => by omega)⟩)
    · refine h J2 m2 pJ2 (fun c i hi => ?_)
      rw [s129] at hi
      rw [o2 _ _ (by omega) (by omega)]
      exact hq (ml_w15 p2 c) i hi
theorem mx_tellAll {S : sm_C} {d : Nat} {Φ : sm_Z → Prop} {I : sm_I} {L : sm_L} {R : sm_R} {x1 : Int32} {l s : Nat} (hls : ml_ls l s) (hv : (I 107 18).toInt = l) (h0 : 40 * (s : Int) ≤ x1.toInt) (h1 : x1.toInt < 40 * (s : Int) + 40) (hm : en_mem ml_tb mlX (xLay, I, L, R)) (h : ∀ J : sm_I, en_mem ml_tb mlX (xLay, J, L, R) → ml_pS (ml_al x1.toNatClampNeg) I J → ml_ai J x1.toNatClampNeg → Φ (none, (xLay, J, L, kM R))) : sm_wp sm_P S (d + 5) 196 0 [.ref 107, .int x1] [] (xLay, I, L, kM R) (0, 0) Φ := by
  obtain ⟨hl, hs⟩ := ml_l1 hls
  have hls' := hls
  unfold ml_ls at hls'
  have n1 := kl_nat (i := x1) (by omega)
  refine u_X12_tellAll_0 ⟨kl_in (by omega) (by omega), fun I1 e1 => ?_⟩
  have z : (I1 129 x1.toNatClampNeg).toInt = 0 := by rw [e1, en_up_eq]; decide
  refine mx_tellAll1 hls hv h0 h1 h 4 I1 1 ?_ ?_ (fun _ i hi => by rw [z] at hi; omega) (fun _ _ => by rw [z]; decide) (by rw [z]; decide)
  · rw [e1]
    exact ml_wt hl hv ⟨by decide, by decide, by unfold ml_hl; omega⟩ (by decide) hm (ml_rq (n := 80) (q := (0, 3)) rfl (by decide))
  · rw [e1]; exact ml_pS_up (Or.inl ⟨rfl, rfl⟩) (by omega)
