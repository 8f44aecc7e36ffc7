section
/-! the reference's contracts with what was gone through (wip/pe/mkYm.py) -/
section
variable {c48 : Nat → Int64}
theorem ml_TI_sWq {l s n : Nat} {I J : sm_I} {L : sm_L} {R : sm_R} (hls : ml_ls l s) (hm : en_mem ml_tb3 (mlW c48) (xLay, I, L, R)) (hn : (n : Int) = 10 * (s : Int) + (I 125 s).toInt) (hs9 : (I 125 s).toInt ≤ 9) (h : ml_pS (ml_Ds l n) I J) (hT : ml_TI l s I) : ml_TI l s J := by
  obtain ⟨hl, hs⟩ := ml_l1 hls
  have b := ml_csWq hs hm
  have o : ∀ p j, ¬ ml_Ds l n p j → ¬ (p = 107 ∧ (j = 11 ∨ j = 13 ∨ j = 14 ∨ j = 15 ∨ j = 16)) → J p j = I p j := h.1
  unfold ml_Ds ml_D0 ml_hm at o
  have b128 : ∀ k : Nat, (k : Int) < (I 125 s).toInt → 0 ≤ (I 128 (10 * s + k)).toInt ∧ (I 128 (10 * s + k)).toInt ≤ 4 := fun k hk => ml_rowWq hm (p := 128) (n := 20) (q := (0, 4)) (fun _ => rfl) _ (by omega)
  have b129 : ∀ k c : Nat, (k : Int) < (I 125 s).toInt → (c : Int) < (I 128 (10 * s + k)).toInt → 0 ≤ (I 129 (4 * (10 * s + k) + c)).toInt ∧ (I 129 (4 * (10 * s + k) + c)).toInt ≤ 3 := fun k c hk hc => ml_rowWq hm (p := 129) (n := 80) (q := (0, 3)) (fun _ => rfl) _ (by have := b128 k hk; omega)
  refine ⟨?_, ?_, ?_, fun c => ?_⟩
  · rw [o 107 18 (by omega) (by omega)]; exact hT.1
  · rw [o 107 19 (by omega) (by omega)]; exact hT.2.1
  · unfold ml_sum
    rw [o 107 20 (by omega) (by omega), o 118 s (by omega) (by omega), o 119 s (by omega) (by omega), o 122 s (by omega) (by omega), o 125 s (by omega) (by omega), o 136 s (by omega) (by omega)]
    exact hT.2.2.1
  · refine mlV_dom (o 122 s (by omega) (by omega)) (o 125 s (by omega) (by omega)) (fun i hi => ⟨o _ _ (by omega) (by omega), o _ _ (by omega) (by omega)⟩) (fun k hk => o _ _ (by omega) (by omega)) (fun k c hk hc => o _ _ (by have := b128 k hk; omega) (by omega)) (fun k c i hk hc hi => o _ _ (by have := b128 k hk; have := b129 k c hk hc; omega) (by omega)) (hT.2.2.2 (ml_w15 h c))
theorem ml_sayEndWq {S : sm_C} {d : Nat} {Φ : sm_Z → Prop} {I0 I : sm_I} {L : sm_L} {R : sm_R} {l s n : Nat} {x2 : Int32} (hls : ml_ls l s) (r0 : 0 ≤ x2.toInt) (r1 : x2.toInt ≤ 500) (hn : (n : Int) = 10 * (s : Int) + (I 125 s).toInt) (hs9 : (I 125 s).toInt ≤ 9) (hm : en_mem ml_tb3 (mlW c48) (xLay, I, L, R)) (hp : ml_pS (ml_Dl l) I0 I) (hT : ml_TI l s I) (hg : ml_pg I0 I) (hy : ml_sy I n) (h : ∀ (J : sm_I) (L' : sm_L), ml_okWq (c48 := c48) l s R I0 J L' → Φ (none, (xLay, J, L', kM R))) : sm_wp sm_P S (d + 2) 165 0 [.ref 107, .int (4 : Int32)] [] (xLay, I, L, (kM R)) (0, 0) (fun z => ∃ (I1 : sm_I) (L2 : sm_L) (R3 : sm_R), z = (none, (xLay, I1, L2, (kM R3))) ∧ (((I1 107 13) ≤ 0 → (vp_in (I1 107 19) 2) ∧ ∀ n5 : Int32, n5 = (I1 125 (I1 107 19).toNatClampNeg) → sm_wp sm_P S (d + 2) 155 0 [.ref 107, .int x2, .int (3 : Int32), .int n5] [] (xLay, I1, L2, (kM R3)) (0, 0) (fun z => ∃ (I6 : sm_I) (L7 : sm_L) (R8 : sm_R), z = (none, (xLay, I6, L7, (kM R8))) ∧ (vp_in (I6 107 19) 2) ∧ ∀ n10 : Int32, n10 = ((I6 125 (I6 107 19).toNatClampNeg) + (1 : Int32)) → (vp_in (I6 107 19) 2) ∧ ∀ I11 : sm_I, I11 = (sm_up I6 125 (I6 107 19).toNatClampNeg n10) → Φ (none, (xLay, I11, L7, (kM R8))))) ∧ (¬ (I1 107 13) ≤ 0 → Φ (none, (xLay, I1, L2, (kM R3)))))) := by
  obtain ⟨hl, hs⟩ := ml_l1 hls
  refine mx_mustWq hm (fun J1 m1 p1 => ⟨J1, L, R, rfl, fun _ => ?_, fun _ => h J1 L ⟨m1, ml_pS_tr hp (ml_pS_no p1), ml_TI_noWq hls hm p1 hT, ml_pg_tr hg p1⟩⟩)
  have T1 : ml_TI l s J1 := ml_TI_noWq hls hm p1 hT
  obtain ⟨sn, sv⟩ := ml_sn hls T1
  have b1 := ml_csWq hs m1
  have e125 : J1 125 s = I 125 s := ml_pS_g p1 (by omega)
  refine ⟨sv, fun n5 e5 => ?_⟩
  rw [sn] at e5
  refine mx_knowsWq r0 r1 (by decide) (by rw [e5, e125]; have := b1.2.2.2.1; rw [e125] at this; omega) (fun c => absurd c (by decide)) (fun c => absurd c (by decide)) (ml_nm49Wq hls T1 m1) m1 (fun K L' mK pK nK => ⟨K, L', R, rfl, ?_⟩)
  have oK : ∀ a b, ¬ ml_kn (J1 107 20).toNatClampNeg a b → ¬ (a = 107 ∧ (b = 11 ∨ b = 13 ∨ b = 14 ∨ b = 15 ∨ b = 16)) → K a b = J1 a b := pK.1
  unfold ml_kn at oK
  rw [oK 107 19 (by omega) (by omega)]
  refine ⟨sv, fun n10 e10 => ⟨sv, fun J e => h J L' ?_⟩⟩
  rw [sn] at e10 e
  refine ml_doneWq hls m1 T1 (ml_pS_tr hp (ml_pS_no p1)) (ml_pg_tr hg p1) mK pK nK (Or.inr (Or.inr (Or.inr (Or.inl rfl)))) (mx := 10) (by unfold ml_ls at hls; rcases hls with ⟨-, c⟩ | ⟨-, c⟩ <;> subst c <;> rfl) e10 b1.2.2.2.1.1 (by rw [e125]; omega) (by omega) e (fun c => ?_)
  have c1 : J1 107 15 = 0 := by
    rw [e, en_up_ne _ _ _ _ (by omega)] at c
    exact ml_w15 pK c
  have W := T1.2.2.2 c1
  have Y := ml_sy_no p1 hy c1
  have oJ : ∀ p j, p = 122 ∨ p = 123 ∨ p = 124 ∨ p = 128 ∨ p = 129 ∨ p = 130 → J p j = J1 p j := fun p j hp => by rw [e, en_up_ne _ _ _ _ (by omega), oK p j (by omega) (by omega)]
  have nJ : (J 125 s).toInt = (J1 125 s).toInt + 1 := by
    rw [e, en_up_eq, e10, oK 125 s (by omega) (by omega)]; exact ml_in1 (by omega)
  refine ⟨fun i hi hz => ?_, fun k q i hk hq hi => ?_⟩
  · rw [oJ 122 _ (by omega)] at hi
    rw [oJ 123 _ (by omega)] at hz
    rw [oJ 124 _ (by omega)]
    exact W.1 i hi hz
  · rw [nJ] at hk
    rw [oJ 128 _ (by omega)] at hq
    rw [oJ 129 _ (by omega)] at hi
    rw [oJ 130 _ (by omega)]
    by_cases ck : 10 * s + k = n
    · rw [ck] at hq hi ⊢
      exact Y q i hq hi
    · exact W.2 k q i (by rw [e125] at hk ⊢; omega) hq hi
theorem mx_say10Wq {S : sm_C} {d : Nat} {Φ : sm_Z → Prop} {I0 : sm_I} {L : sm_L} {R : sm_R} {x1 x2 : Int32} {l s : Nat} (hls : ml_ls l s) (r0 : 0 ≤ x2.toInt) (r1 : x2.toInt ≤ 500) (h : ∀ (J : sm_I) (L' : sm_L), ml_okWq (c48 := c48) l s R I0 J L' → Φ (none, (xLay, J, L', kM R))) : ∀ (m : Nat) (I : sm_I) (x3 : Int32), x1.toInt = 10 * (s : Int) + (I 125 s).toInt → (I 125 s).toInt ≤ 9 → en_mem ml_tb3 (mlW c48) (xLay, I, L, R) → ml_pS (ml_Dl l) I0 I → ml_TI l s I → ml_pg I0 I → ml_sy I x1.toNatClampNeg → (¬ x3 = 0 → I 107 13 = 0 → (I 128 x1.toNatClampNeg).toInt ≤ 3) → 4 - (I 128 x1.toNatClampNeg).toInt < m → sm_wp sm_P S (d + 6) 200 10 [.ref 107, .int x1, .int x2, .int x3] [] (xLay, I, L, kM R) (0, 0) Φ := by
  obtain ⟨hl, hs⟩ := ml_l1 hls
  have hls' := hls
  unfold ml_ls at hls'
  intro m
  induction m with
  | zero =>
    intro I x3 hn hs9 hm hp hT hg hy hc hM
    have b := ml_csWq hs hm
    have n1 := kl_nat (i := x1) (by omega)
    have b128 : 0 ≤ (I 128 x1.toNatClampNeg).toInt ∧ (I 128 x1.toNatClampNeg).toInt ≤ 4 := ml_rowWq hm (p := 128) (n := 20) (q := (0, 4)) (fun _ => rfl) _ (by omega)
    omega
  | succ m ih =>
    intro I x3 hn hs9 hm hp hT hg hy hc hM
    have b := ml_csWq hs hm
    have n1 := kl_nat (i := x1) (by omega)
    have v : vp_in x1 20 := kl_in (by omega) (by omega)
    have b128 : 0 ≤ (I 128 x1.toNatClampNeg).toInt ∧ (I 128 x1.toNatClampNeg).toInt ≤ 4 := ml_rowWq hm (p := 128) (n := 20) (q := (0, 4)) (fun _ => rfl) _ (by omega)
    have hn' : (x1.toNatClampNeg : Int) = 10 * (s : Int) + (I 125 s).toInt := by omega
    refine u_X12_tellSaying_10 ⟨fun _ => ml_sayEndWq hls r0 r1 hn' hs9 hm hp hT hg hy h, fun c2 => ⟨fun c13 => ⟨v, fun n29 e29 => ?_⟩, fun _ => ml_sayEndWq hls r0 r1 hn' hs9 hm hp hT hg hy h⟩⟩
    have b2 := hc c2 c13
    have q1 : ((4 : Int32) * x1).toInt = 4 * x1.toInt := ml_mu (by decide) rfl (by omega) (by omega)
    have q2 : n29.toInt = 4 * x1.toInt + (I 128 x1.toNatClampNeg).toInt := by rw [e29]; exact ml_ad q1 rfl (by omega) (by omega)
    have n2 := kl_nat (i := n29) (by omega)
    refine mx_tellAllWq hls hT.1 (by omega) (by omega) hm (fun J m2 p2 a2 => ⟨J, L, R, rfl, fun _ => ⟨v, fun n34 e34 => ⟨v, fun J7 e7 => ?_⟩⟩, fun _ => ?_⟩)
    all_goals
      have pS2 : ml_pS (ml_Ds l x1.toNatClampNeg) I J := ml_pS_mo p2 (fun p j c => by unfold ml_al at c; unfold ml_Ds ml_D0 ml_hm; omega)
      have o2 : ∀ p j, ¬ ml_al n29.toNatClampNeg p j → ¬ (p = 107 ∧ (j = 11 ∨ j = 13 ∨ j = 14 ∨ j = 15 ∨ j = 16)) → J p j = I p j := p2.1
      unfold ml_al at o2
      have s128 : J 128 x1.toNatClampNeg = I 128 x1.toNatClampNeg := o2 _ _ (by omega) (by omega)
    · rw [s128] at e34
      have s34 : n34.toInt = (I 128 x1.toNatClampNeg).toInt + 1 := by rw [e34]; exact ml_in1 (by omega)
      have m7 : en_mem ml_tb3 (mlW c48) (xLay, J7, L, R) := by
        rw [e7]
        exact ml_wtWq hl (by rw [o2 107 18 (by omega) (by omega)]; exact hT.1) ⟨by decide, by decide, by unfold ml_hl; omega⟩ (by decide) m2 (ml_rqWq (n := 20) (q := (0, 4)) rfl (by show 0 ≤ _ ∧ _ ≤ (4 : Int); omega))
      have p7 : ml_pS (ml_Ds l x1.toNatClampNeg) I J7 := by
        refine ml_pS_tr pS2 ?_
        rw [e7]; exact ml_pS_up (Or.inl ⟨rfl, rfl⟩) (by omega)
      have c7 : (J7 128 x1.toNatClampNeg).toInt = (I 128 x1.toNatClampNeg).toInt + 1 := by rw [e7, en_up_eq]; exact s34
      have s7 : J7 125 s = I 125 s := by rw [e7, en_up_ne _ _ _ _ (by omega), o2 _ _ (by omega) (by omega)]
      have b129 : ∀ c : Nat, (c : Int) < 4 → 0 ≤ (I 129 (4 * x1.toNatClampNeg + c)).toInt ∧ (I 129 (4 * x1.toNatClampNeg + c)).toInt ≤ 3 := fun c hc => ml_rowWq hm (p := 129) (n := 80) (q := (0, 3)) (fun _ => rfl) _ (by omega)
      have y7 : ml_sy J7 x1.toNatClampNeg := by
        intro w c i hc hi
        rw [e7, en_up_ne _ _ _ _ (by omega)] at w
        rw [c7] at hc
        rw [e7, en_up_ne _ _ _ _ (by omega)] at hi
        rw [e7, en_up_ne _ _ _ _ (by omega)]
        by_cases cc : 4 * x1.toNatClampNeg + c = n29.toNatClampNeg
        · rw [cc] at hi ⊢
          exact a2 w i hi
        · rw [o2 _ _ (by omega) (by omega)] at hi
          have b9 := b129 c (by omega)
          rw [o2 _ _ (by omega) (by omega)]
          exact hy (ml_w15 p2 w) c i (by omega) hi
      have T7 : ml_TI l s J7 := ml_TI_sWq hls hm hn' hs9 p7 hT
      have pl7 : ml_pS (ml_Dl l) I0 J7 := ml_pS_tr hp (ml_pS_mo p7 (fun p j c => ml_Dsl hls (by omega) (by omega) c))
      have nx : ∀ (K : sm_I) (r : Int32), en_mem ml_tb3 (mlW c48) (xLay, K, L, R) → ml_pS ml_no J7 K → (¬ r = 0 → K 107 13 = 0 → (J7 128 x1.toNatClampNeg).toInt ≤ 3) → sm_wp sm_P S (d + 6) 200 10 [.ref 107, .int x1, .int x2, .int r] [] (xLay, K, L, kM R) (0, 0) Φ := by
        intro K r mK pK hr
        have e128 : K 128 x1.toNatClampNeg = J7 128 x1.toNatClampNeg := ml_pS_g pK (by omega)
        have e125 : K 125 s = I 125 s := by rw [ml_pS_g pK (by omega), s7]
        exact ih K r (by rw [e125]; exact hn) (by rw [e125]; exact hs9) mK (ml_pS_tr pl7 (ml_pS_no pK)) (ml_TI_noWq hls m7 pK T7) (ml_pg_tr (ml_pg_tr hg p7) pK) (ml_sy_no pK y7) (by rw [e128]; exact hr) (by rw [e128]; omega)
      refine mx_isWq m7 (fun r _ _ => ⟨r, J7, L, R, rfl, fun c => ⟨fun _ => nx J7 r m7 ml_pS_rf (fun c' => absurd c c'), fun c' => absurd c c'⟩, fun cr => ⟨v, fun c3 => ?_, fun c3 => ⟨fun c => absurd c cr, fun _ => ?_⟩⟩⟩)
      · refine mx_failWq (by decide) (by decide) m7 (fun J8 m8 p8 f8 => ⟨J8, L, R, rfl, fun c => absurd c cr, fun _ => mx_goesOnWq m8 (fun J9 m9 p9 _ => ⟨J9, L, R, rfl, nx J9 r m9 (ml_pS_tr p8 p9) (fun _ c => absurd c (p9.2.2.1 f8))⟩)⟩)
      · have c3' : (J7 128 x1.toNatClampNeg).toInt ≠ 4 := fun c => c3 (en_ofI (by rw [c]; decide))
        exact mx_goesOnWq m7 (fun J9 m9 p9 _ => ⟨J9, L, R, rfl, nx J9 r m9 p9 (fun _ _ => by omega)⟩)
    · exact h J L ⟨m2, ml_pS_tr hp (ml_pS_mo pS2 (fun p j c => ml_Dsl hls (by omega) (by omega) c)), ml_TI_sWq hls hm hn' hs9 pS2 hT, ml_pg_tr hg p2⟩
theorem mx_tellSayingWq {S : sm_C} {d : Nat} {Φ : sm_Z → Prop} {I : sm_I} {L : sm_L} {R : sm_R} {l s : Nat} (hls : ml_ls l s) (hm : en_mem ml_tb3 (mlW c48) (xLay, I, L, R)) (hT : ml_TI l s I) (hs9 : (I 125 s).toInt ≤ 9) (h : ∀ (J : sm_I) (L' : sm_L), ml_okWq (c48 := c48) l s R I J L' → Φ (none, (xLay, J, L', kM R))) : sm_wp sm_P S (d + 6) 200 0 [.ref 107] [] (xLay, I, L, kM R) (0, 0) Φ := by
  obtain ⟨hl, hs⟩ := ml_l1 hls
  have hls' := hls
  unfold ml_ls at hls'
  obtain ⟨sn, sv⟩ := ml_sn hls hT
  have b := ml_csWq hs hm
  refine u_X12_tellSaying_0 ⟨sv, fun n1 e1 => ?_⟩
  rw [sn] at e1
  have q1 : ((10 : Int32) * (I 107 19)).toInt = 10 * (s : Int) := ml_mu (by decide) hT.2.1 (by omega) (by omega)
  have q2 : n1.toInt = 10 * (s : Int) + (I 125 s).toInt := by rw [e1]; exact ml_ad q1 rfl (by omega) (by omega)
  have nn := kl_nat (i := n1) (by omega)
  have v : vp_in n1 20 := kl_in (by omega) (by omega)
  have w0 : ∀ (J K : sm_I) (p : Nat) (x : Int32), (p = 126 ∧ 0 ≤ x.toInt ∧ x.toInt ≤ 1) ∨ p = 127 → en_mem ml_tb3 (mlW c48) (xLay, J, L, R) → ml_pS (ml_D0 l) I J → K = sm_up J p n1.toNatClampNeg x → en_mem ml_tb3 (mlW c48) (xLay, K, L, R) ∧ ml_pS (ml_D0 l) I K ∧ ml_pS (ml_D0 l) J K := by
    intro J K p x hp mJ pJ e
    have lJ : (J 107 18).toInt = l := by rw [pJ.1 107 18 (by unfold ml_D0 ml_hm; omega) (by omega)]; exact hT.1
    rw [e]
    rcases hp with ⟨c, b⟩ | c
    · subst c
      have w := ml_w0Wq (L := L) (R := R) (l := l) (p := 126) (j := n1.toNatClampNeg) (x := x) (n := 20) (q := (0, 1)) hl lJ (by unfold ml_D0 ml_hm; omega) mJ rfl b
      exact ⟨w.1, ml_pS_tr pJ w.2, w.2⟩
    · subst c
      have w := ml_w0Wq (L := L) (R := R) (l := l) (p := 127) (j := n1.toNatClampNeg) (x := x) (n := 20) (q := (-2147483648, 2147483647)) hl lJ (by unfold ml_D0 ml_hm; omega) mJ rfl en_crange
      exact ⟨w.1, ml_pS_tr pJ w.2, w.2⟩
  have M5 : ∀ (r14 : Int32) (J : sm_I), 0 ≤ r14.toInt → r14.toInt ≤ 500 → en_mem ml_tb3 (mlW c48) (xLay, J, L, R) → ml_pS (ml_D0 l) I J → ml_pg I J → sm_wp sm_P S (d + 5) 165 0 [.ref 107, .int (5 : Int32)] [] (xLay, J, L, (kM R)) (0, 0) (fun z => ∃ (I20 : sm_I) (L21 : sm_L) (R22 : sm_R), z = (none, (xLay, I20, L21, (kM R22))) ∧ (vp_in n1 20) ∧ ∀ I24 : sm_I, I24 = (sm_up I20 128 n1.toNatClampNeg (0 : Int32)) → sm_wp sm_P S (d + 6) 200 10 [.ref 107, .int n1, .int r14, .int (1 : Int32)] [] (xLay, I24, L21, (kM R22)) (0, 0) Φ) := by
    intro r14 J r0 r1 mJ pJ gJ
    refine mx_mustWq mJ (fun K mK pK => ⟨K, L, R, rfl, v, fun I24 e24 => ?_⟩)
    have pIK : ml_pS (ml_D0 l) I K := ml_pS_tr pJ (ml_pS_no pK)
    have lK : (K 107 18).toInt = l := by rw [pIK.1 107 18 (by unfold ml_D0 ml_hm; omega) (by omega)]; exact hT.1
    have m24 : en_mem ml_tb3 (mlW c48) (xLay, I24, L, R) := by
      rw [e24]
      exact ml_wtWq hl lK ⟨by decide, by decide, by unfold ml_hl; omega⟩ (by decide) mK (ml_rqWq (n := 20) (q := (0, 4)) rfl (by decide))
    have p24 : ml_pS (ml_Ds l n1.toNatClampNeg) I I24 := by
      refine ml_pS_tr (ml_pS_mo pIK (fun p j c => Or.inr (Or.inr (Or.inr c)))) ?_
      rw [e24]; exact ml_pS_up (Or.inl ⟨rfl, rfl⟩) (by omega)
    have s24 : I24 125 s = I 125 s := p24.1 125 s (by unfold ml_Ds ml_D0 ml_hm; omega) (by omega)
    have z24 : (I24 128 n1.toNatClampNeg).toInt = 0 := by rw [e24, en_up_eq]; decide
    have g24 : ml_pg I I24 := by
      refine ml_pg_tr (D := ml_Ds l n1.toNatClampNeg) (ml_pg_tr gJ pK) ?_
      rw [e24]; exact ml_pS_up (Or.inl ⟨rfl, rfl⟩) (by omega)
    exact mx_say10Wq hls r0 r1 h 5 I24 1 (by rw [s24]; exact q2) (by rw [s24]; exact hs9) m24 (ml_pS_mo p24 (fun p j c => ml_Dsl hls (by omega) (by omega) c)) (ml_TI_sWq hls hm (by omega) hs9 p24 hT) g24 (fun _ c i hc => by rw [z24] at hc; omega) (fun _ _ => by rw [z24]; decide) (by rw [z24]; decide)
  refine mx_isWq hm (fun r5 hr5 _ => ⟨r5, I, L, R, rfl, v, fun I6 e6 => ?_⟩)
  obtain ⟨m6, p6, -⟩ := w0 I I6 126 _ (Or.inl ⟨rfl, ml_boo r5⟩) hm ml_pS_rf e6
  refine mx_goesOnWq m6 (fun J7 m7 p7 g7 => ⟨J7, L, R, rfl, mx_namedWq m7 (fun r14 J11 r0 r1 m11 p11 => ⟨r14, J11, L, R, rfl, v, fun I15 e15 => ?_⟩)⟩)
  have g7' : ml_pg I J7 := ml_pg_lt p6 g7
  obtain ⟨m15, p15, q15⟩ := w0 J11 I15 127 1 (Or.inr rfl) m11 (ml_pS_tr p6 (ml_pS_no (ml_pS_tr p7 p11))) e15
  have g15 : ml_pg I I15 := ml_pg_tr (ml_pg_tr g7' p11) q15
  refine mx_isWq m15 (fun r19 _ _ => ⟨r19, I15, L, R, rfl, fun _ => M5 r14 I15 r0 r1 m15 p15 g15, fun _ => ⟨v, fun _ => ?_, fun _ => M5 r14 I15 r0 r1 m15 p15 g15⟩⟩)
  refine mx_goesOnWq m15 (fun J32 m32 p32 _ => ⟨J32, L, R, rfl, ?_⟩)
  have b32 : 0 ≤ (J32 107 11).toInt ∧ (J32 107 11).toInt ≤ 500 := ml_tWq m32
  have p32' : ml_pS (ml_D0 l) I J32 := ml_pS_tr p15 (ml_pS_no p32)
  have g32 : ml_pg I J32 := ml_pg_tr g15 p32
  have T : ∀ J : sm_I, en_mem ml_tb3 (mlW c48) (xLay, J, L, R) → ml_pS (ml_D0 l) I J → ml_pg I J → ((J 107 13 = 0 → (vp_in n1 20) ∧ ((J 127 n1.toNatClampNeg < (1 : Int32) → sm_wp sm_P S (d + 5) 213 0 [.ref 107, .int (5 : Int32), .int (J32 107 11)] [] (xLay, J, L, (kM R)) (0, 0) (fun z => ∃ (I51 : sm_I) (L52 : sm_L) (R53 : sm_R), z = (none, (xLay, I51, L52, (kM R53))) ∧ sm_wp sm_P S (d + 5) 165 0 [.ref 107, .int (5 : Int32)] [] (xLay, I51, L52, (kM R53)) (0, 0) (fun z => ∃ (I20 : sm_I) (L21 : sm_L) (R22 : sm_R), z = (none, (xLay, I20, L21, (kM R22))) ∧ (vp_in n1 20) ∧ ∀ I24 : sm_I, I24 = (sm_up I20 128 n1.toNatClampNeg (0 : Int32)) → sm_wp sm_P S (d + 6) 200 10 [.ref 107, .int n1, .int r14, .int (1 : Int32)] [] (xLay, I24, L21, (kM R22)) (0, 0) Φ))) ∧ (¬ J 127 n1.toNatClampNeg < (1 : Int32) → (vp_in n1 20) ∧ ((J 127 n1.toNatClampNeg ≤ (100 : Int32) → sm_wp sm_P S (d + 5) 165 0 [.ref 107, .int (5 : Int32)] [] (xLay, J, L, (kM R)) (0, 0) (fun z => ∃ (I20 : sm_I) (L21 : sm_L) (R22 : sm_R), z = (none, (xLay, I20, L21, (kM R22))) ∧ (vp_in n1 20) ∧ ∀ I24 : sm_I, I24 = (sm_up I20 128 n1.toNatClampNeg (0 : Int32)) → sm_wp sm_P S (d + 6) 200 10 [.ref 107, .int n1, .int r14, .int (1 : Int32)] [] (xLay, I24, L21, (kM R22)) (0, 0) Φ)) ∧ (¬ J 127 n1.toNatClampNeg ≤ (100 : Int32) → sm_wp sm_P S (d + 5) 213 0 [.ref 107, .int (5 : Int32), .int (J32 107 11)] [] (xLay, J, L, (kM R)) (0, 0) (fun z => ∃ (I51 : sm_I) (L52 : sm_L) (R53 : sm_R), z = (none, (xLay, I51, L52, (kM R53))) ∧ sm_wp sm_P S (d + 5) 165 0 [.ref 107, .int (5 : Int32)] [] (xLay, I51, L52, (kM R53)) (0, 0) (fun z => ∃ (I20 : sm_I) (L21 : sm_L) (R22 : sm_R), z = (none, (xLay, I20, L21, (kM R22))) ∧ (vp_in n1 20) ∧ ∀ I24 : sm_I, I24 = (sm_up I20 128 n1.toNatClampNeg (0 : Int32)) → sm_wp sm_P S (d + 6) 200 10 [.ref 107, .int n1, .int r14, .int (1 : Int32)] [] (xLay, I24, L21, (kM R22)) (0, 0) Φ))))))) ∧ (¬ J 107 13 = 0 → sm_wp sm_P S (d + 5) 165 0 [.ref 107, .int (5 : Int32)] [] (xLay, J, L, (kM R)) (0, 0) (fun z => ∃ (I20 : sm_I) (L21 : sm_L) (R22 : sm_R), z = (none, (xLay, I20, L21, (kM R22))) ∧ (vp_in n1 20) ∧ ∀ I24 : sm_I, I24 = (sm_up I20 128 n1.toNatClampNeg (0 : Int32)) → sm_wp sm_P S (d + 6) 200 10 [.ref 107, .int n1, .int r14, .int (1 : Int32)] [] (xLay, I24, L21, (kM R22)) (0, 0) Φ))) := by
    intro J mJ pJ gJ
    have wr := fun (K : sm_I) (mK : en_mem ml_tb3 (mlW c48) (xLay, K, L, R)) (pK : ml_pS ml_no J K) => M5 r14 K r0 r1 mK (ml_pS_tr pJ (ml_pS_no pK)) (ml_pg_tr gJ pK)
    exact ⟨fun _ => ⟨v, fun _ => mx_wrongWq (by decide) (by decide) b32.1 (by omega) mJ (fun K mK pK _ => ⟨K, L, R, rfl, wr K mK pK⟩), fun _ => ⟨v, fun _ => M5 r14 J r0 r1 mJ pJ gJ, fun _ => mx_wrongWq (by decide) (by decide) b32.1 (by omega) mJ (fun K mK pK _ => ⟨K, L, R, rfl, wr K mK pK⟩)⟩⟩, fun _ => M5 r14 J r0 r1 mJ pJ gJ⟩
  refine mx_isWq m32 (fun r39 _ _ => ⟨r39, J32, L, R, rfl, fun _ => ⟨v, fun I40 e40 => ?_⟩, fun _ => ⟨ml_vtWq m32, fun n83 _ => ⟨v, fun I84 e84 => ?_⟩⟩⟩)
  · obtain ⟨m40, p40, q40⟩ := w0 J32 I40 127 0 (Or.inr rfl) m32 p32' e40
    exact mx_mustWq m40 (fun J mJ pJ => ⟨J, L, R, rfl, T J mJ (ml_pS_tr p40 (ml_pS_no pJ)) (ml_pg_tr (ml_pg_tr g32 q40) pJ)⟩)
  · obtain ⟨m40, p40, q40⟩ := w0 J32 I84 127 n83 (Or.inr rfl) m32 p32' e84
    exact mx_mustWq m40 (fun J mJ pJ => ⟨J, L, R, rfl, T J mJ (ml_pS_tr p40 (ml_pS_no pJ)) (ml_pg_tr (ml_pg_tr g32 q40) pJ)⟩)
end
end
section
/-! the reference's contracts with what was gone through (wip/pe/mkYm.py) -/
section
variable {c48 : Nat → Int64}
theorem mx_open13Wq {S : sm_C} {d : Nat} {Φ : sm_Z → Prop} {I0 : sm_I} {L0 L : sm_L} {R : sm_R} {x2 x3 x4 x5 : Int32} {l s : Nat} (hls : ml_ls l s) (m0 : en_mem ml_tb3 (mlW c48) (xLay, I0, L0, R)) (T0 : ml_TI l s I0) (ho : (I0 134 s).toInt ≤ 3) (b2 : -1 ≤ x2.toInt ∧ x2.toInt ≤ 9) (b3 : 0 ≤ x3.toInt ∧ x3.toInt ≤ 500) (b4 : -1 ≤ x4.toInt ∧ x4.toInt ≤ 9) (b5 : 240 + 4 * (s : Int) ≤ x5.toInt ∧ x5.toInt ≤ 243 + 4 * (s : Int)) (h : ∀ (J : sm_I) (L' : sm_L), ml_okWq (c48 := c48) l s R I0 J L' → Φ (none, (xLay, J, L', kM R))) : ∀ (m : Nat) (I : sm_I) (x6 : Int32), en_mem ml_tb3 (mlW c48) (xLay, I, L, R) → ml_pS (ml_D0 l) I0 I → ml_pg I0 I → (I 134 s = I0 134 s) → 240 ≤ x6.toInt → x5.toInt - x6.toInt ≤ m → sm_wp sm_P S (d + 4) 198 13 [.ref 107, .int x2, .int x3, .int x4, .int x5, .int x6] [] (xLay, I, L, kM R) (0, 0) Φ := by
  obtain ⟨hl, hs⟩ := ml_l1 hls
  have hls0 := hls
  unfold ml_ls at hls0
  have n5 := kl_nat (i := x5) (by omega)
  have v5 : vp_in x5 260 := kl_in (by omega) (by omega)
  have live : ∀ J : sm_I, ml_pS (ml_D0 l) I0 J → (J 107 18).toInt = l := fun J pJ => by rw [pJ.1 107 18 (by unfold ml_D0 ml_hm; omega) (by omega)]; exact T0.1
  have TI : ∀ J : sm_I, ml_pS (ml_D0 l) I0 J → ml_TI l s J := fun J pJ => ml_TI_0Wq hls m0 pJ T0
  have END : ∀ I : sm_I, en_mem ml_tb3 (mlW c48) (xLay, I, L, R) → ml_pS (ml_D0 l) I0 I → ml_pg I0 I → (I 134 s = I0 134 s) → (vp_in x5 260) ∧ ∀ I1 : sm_I, I1 = (sm_up I 130 x5.toNatClampNeg x2) → (vp_in x5 260) ∧ ∀ I2 : sm_I, I2 = (sm_up I1 131 x5.toNatClampNeg x4) → sm_wp sm_P S (d + 3) 169 0 [.ref 107, .int (0 : Int32)] [] (xLay, I2, L, (kM R)) (0, 0) (fun z => ∃ (r6 : Int32) (I3 : sm_I) (L4 : sm_L) (R5 : sm_R), z = (some (.int r6), (xLay, I3, L4, (kM R5))) ∧ (vp_in x5 260) ∧ ∀ I7 : sm_I, I7 = (sm_up I3 132 x5.toNatClampNeg r6) → sm_wp sm_P S (d + 3) 169 0 [.ref 107, .int (0 : Int32)] [] (xLay, I7, L4, (kM R5)) (0, 0) (fun z => ∃ (r11 : Int32) (I8 : sm_I) (L9 : sm_L) (R10 : sm_R), z = (some (.int r11), (xLay, I8, L9, (kM R10))) ∧ (vp_in x5 260) ∧ ∀ I12 : sm_I, I12 = (sm_up I8 133 x5.toNatClampNeg r11) → sm_wp sm_P S (d + 3) 165 0 [.ref 107, .int (4 : Int32)] [] (xLay, I12, L9, (kM R10)) (0, 0) (fun z => ∃ (I13 : sm_I) (L14 : sm_L) (R15 : sm_R), z = (none, (xLay, I13, L14, (kM R15))) ∧ (((I13 107 13) ≤ 0 → ((x2 = (-1 : Int32) → (vp_in (I13 107 19) 2) ∧ ∀ n17 : Int32, n17 = ((I13 134 (I13 107 19).toNatClampNeg) + (1 : Int32)) → (vp_in (I13 107 19) 2) ∧ ∀ I18 : sm_I, I18 = (sm_up I13 134 (I13 107 19).toNatClampNeg n17) → Φ (none, (xLay, I18, L14, (kM R15)))) ∧ (¬ x2 = (-1 : Int32) → ∀ n19 : Int32, n19 = (((10 : Int32) * (I13 107 19)) + x2) → (vp_in n19 20) ∧ ∀ I20 : sm_I, I20 = (sm_up I13 135 n19.toNatClampNeg x5) → (vp_in (I20 107 19) 2) ∧ ∀ n21 : Int32, n21 = ((I20 134 (I20 107 19).toNatClampNeg) + (1 : Int32)) → (vp_in (I20 107 19) 2) ∧ ∀ I22 : sm_I, I22 = (sm_up I20 134 (I20 107 19).toNatClampNeg n21) → Φ (none, (xLay, I22, L14, (kM R15)))))) ∧ (¬ (I13 107 13) ≤ 0 → Φ (none, (xLay, I13, L14, (kM R15)))))))) := by
    intro I hm hp hg h134
    refine ⟨v5, fun I1 e1 => ⟨v5, fun I2 e2 => ?_⟩⟩
    have w1 := ml_w0Wq (L := L) (R := R) (l := l) (p := 130) (j := x5.toNatClampNeg) (x := x2) (n := 260) (q := (-1, 9)) hl (live I hp) (by unfold ml_D0 ml_hm; omega) hm rfl b2
    rw [← e1] at w1
    have p1 := ml_pS_tr hp w1.2
    have w2 := ml_w0Wq (L := L) (R := R) (l := l) (p := 131) (j := x5.toNatClampNeg) (x := x4) (n := 260) (q := (-1, 9)) hl (live I1 p1) (by unfold ml_D0 ml_hm; omega) w1.1 rfl b4
    rw [← e2] at w2
    have p2 := ml_pS_tr p1 w2.2
    refine mx_numberWq w2.1 (fun r6 I3 m3 p3 => ⟨r6, I3, L, R, rfl, v5, fun I7 e7 => ?_⟩)
    have p3' := ml_pS_tr p2 (ml_pS_no p3)
    have w7 := ml_w0Wq (L := L) (R := R) (l := l) (p := 132) (j := x5.toNatClampNeg) (x := r6) (n := 260) (q := (-2147483648, 2147483647)) hl (live I3 p3') (by unfold ml_D0 ml_hm; omega) m3 rfl en_crange
    rw [← e7] at w7
    have p7 := ml_pS_tr p3' w7.2
    refine mx_numberWq w7.1 (fun r11 I8 m8 p8 => ⟨r11, I8, L, R, rfl, v5, fun I12 e12 => ?_⟩)
    have p8' := ml_pS_tr p7 (ml_pS_no p8)
    have w12 := ml_w0Wq (L := L) (R := R) (l := l) (p := 133) (j := x5.toNatClampNeg) (x := r11) (n := 260) (q := (-2147483648, 2147483647)) hl (live I8 p8') (by unfold ml_D0 ml_hm; omega) m8 rfl en_crange
    rw [← e12] at w12
    have p12 := ml_pS_tr p8' w12.2
    have g12 : ml_pg I0 I12 := ml_pg_tr (ml_pg_tr (ml_pg_tr (ml_pg_tr (ml_pg_tr (ml_pg_tr hg w1.2) w2.2) p3) w7.2) p8) w12.2
    have o134 : I12 134 s = I0 134 s := by
      rw [e12, en_up_ne _ _ _ _ (by omega), ml_pS_g p8 (by omega), e7, en_up_ne _ _ _ _ (by omega), ml_pS_g p3 (by omega), e2, en_up_ne _ _ _ _ (by omega), e1, en_up_ne _ _ _ _ (by omega), h134]
    refine mx_mustWq w12.1 (fun I13 m13 p13 => ⟨I13, L, R, rfl, fun _ => ?_, fun _ => ?_⟩)
    all_goals
      have pI := ml_pS_tr p12 (ml_pS_no p13)
      have g13 : ml_pg I0 I13 := ml_pg_tr g12 p13
    · obtain ⟨sn, sv⟩ := ml_sn hls (TI I13 pI)
      have q134 : I13 134 s = I0 134 s := by rw [ml_pS_g p13 (by omega)]; exact o134
      have b134 : 0 ≤ (I13 134 s).toInt ∧ (I13 134 s).toInt ≤ 4 := ml_rowWq m13 (p := 134) (n := 2) (q := (0, 4)) (fun _ => rfl) _ (by omega)
      have cnt : ∀ (J K : sm_I) (n : Int32), en_mem ml_tb3 (mlW c48) (xLay, J, L, R) → ml_pS (ml_D0 l) I0 J → ml_pg I0 J → J 134 s = I0 134 s → n = J 134 s + 1 → K = sm_up J 134 s n → Φ (none, (xLay, K, L, kM R)) := by
        intro J K n mJ pJ gJ qJ en eK
        rw [q134] at b134
        have sn' : n.toInt = (I0 134 s).toInt + 1 := by rw [en, qJ]; exact ml_in1 (by omega)
        have w := ml_w0Wq (L := L) (R := R) (l := l) (p := 134) (j := s) (x := n) (n := 2) (q := (0, 4)) hl (live J pJ) (by unfold ml_D0 ml_hm; omega) mJ rfl (by show 0 ≤ _ ∧ _ ≤ (4 : Int); omega)
        rw [← eK] at w
        exact h K L ⟨w.1, ml_D0l hl (ml_pS_tr pJ w.2), TI K (ml_pS_tr pJ w.2), ml_pg_tr gJ w.2⟩
      refine ⟨fun _ => ⟨sv, fun n17 e17 => ⟨sv, fun I18 e18 => ?_⟩⟩, fun c2 n19 e19 => ?_⟩
      · rw [sn] at e17 e18
        exact cnt I13 I18 n17 m13 pI g13 q134 e17 e18
      · have c2 := ml_m1 c2
        have hls' := hls
        unfold ml_ls at hls'
        have q1 : ((10 : Int32) * (I13 107 19)).toInt = 10 * (s : Int) := ml_mu (by decide) (TI I13 pI).2.1 (by omega) (by omega)
        have q2 : n19.toInt = 10 * (s : Int) + x2.toInt := by rw [e19]; exact ml_ad q1 rfl (by omega) (by omega)
        have n19n := kl_nat (i := n19) (by omega)
        refine ⟨kl_in (by omega) (by omega), fun I20 e20 => ?_⟩
        have w20 := ml_w0Wq (L := L) (R := R) (l := l) (p := 135) (j := n19.toNatClampNeg) (x := x5) (n := 20) (q := (-1, 247)) hl (live I13 pI) (by unfold ml_D0 ml_hm; omega) m13 rfl (by show (-1 : Int) ≤ _ ∧ _ ≤ (247 : Int); omega)
        rw [← e20] at w20
        have p20 := ml_pS_tr pI w20.2
        obtain ⟨sn2, sv2⟩ := ml_sn hls (TI I20 p20)
        refine ⟨sv2, fun n21 e21 => ⟨sv2, fun I22 e22 => ?_⟩⟩
        rw [sn2] at e21 e22
        exact cnt I20 I22 n21 w20.1 p20 (ml_pg_tr g13 w20.2) (by rw [e20, en_up_ne _ _ _ _ (by omega)]; exact q134) e21 e22
    · exact h I13 L ⟨m13, ml_D0l hl pI, TI I13 pI, g13⟩
  intro m
  induction m with
  | zero =>
    intro I x6 hm hp hg h134 h6 hM
    refine u_X12_tellOpen_13 ⟨fun _ => END I hm hp hg h134, fun a => ?_⟩
    have := kl_nle a
    omega
  | succ m ih =>
    intro I x6 hm hp hg h134 h6 hM
    refine u_X12_tellOpen_13 ⟨fun _ => END I hm hp hg h134, fun a => ⟨fun _ => ⟨fun _ => END I hm hp hg h134, fun _ => ?_⟩, fun _ => END I hm hp hg h134⟩⟩
    have a := kl_nle a
    have s6 := ml_in1 (x := x6) (by omega)
    refine ⟨kl_in (by omega) (by omega), fun _ => ?_, fun _ => ih I _ hm hp hg h134 (by omega) (by omega)⟩
    refine mx_wrongWq (by decide) (by decide) b3.1 (by omega) hm (fun J mJ pJ _ => ⟨J, L, R, rfl, ih J _ mJ (ml_pS_tr hp (ml_pS_no pJ)) (ml_pg_tr hg pJ) (by rw [ml_pS_g pJ (by omega)]; exact h134) (by omega) (by omega)⟩)
theorem mx_tellOpenWq {S : sm_C} {d : Nat} {Φ : sm_Z → Prop} {I : sm_I} {L : sm_L} {R : sm_R} {l s : Nat} (hls : ml_ls l s) (hm : en_mem ml_tb3 (mlW c48) (xLay, I, L, R)) (hT : ml_TI l s I) (ho : (I 134 s).toInt ≤ 3) (h : ∀ (J : sm_I) (L' : sm_L), ml_okWq (c48 := c48) l s R I J L' → Φ (none, (xLay, J, L', kM R))) : sm_wp sm_P S (d + 4) 198 0 [.ref 107] [] (xLay, I, L, kM R) (0, 0) Φ := by
  obtain ⟨hl, hs⟩ := ml_l1 hls
  have hls' := hls
  unfold ml_ls at hls'
  have b134 : 0 ≤ (I 134 s).toInt ∧ (I 134 s).toInt ≤ 4 := ml_rowWq hm (p := 134) (n := 2) (q := (0, 4)) (fun _ => rfl) _ (by omega)
  have g12 : ∀ (x2 x3 x4 x5 : Int32) (J : sm_I), en_mem ml_tb3 (mlW c48) (xLay, J, L, R) → ml_pS ml_no I J → ml_pg I J → (-1 ≤ x2.toInt ∧ x2.toInt ≤ 9) → (0 ≤ x3.toInt ∧ x3.toInt ≤ 500) → (-1 ≤ x4.toInt ∧ x4.toInt ≤ 9) → (240 + 4 * (s : Int) ≤ x5.toInt ∧ x5.toInt ≤ 243 + 4 * (s : Int)) → sm_wp sm_P S (d + 4) 198 12 [.ref 107, .int x2, .int x3, .int x4, .int x5] [] (xLay, J, L, kM R) (0, 0) Φ := by
    intro x2 x3 x4 x5 J mJ pJ gJ b2 b3 b4 b5
    refine u_X12_tellOpen_12 (fun n1 e1 => ?_)
    have q1 : ((4 : Int32) * (J 107 19)).toInt = 4 * (s : Int) := ml_mu (by decide) (ml_TI_noWq hls hm pJ hT).2.1 (by omega) (by omega)
    have q2 : n1.toInt = 240 + 4 * (s : Int) := by rw [e1]; exact ml_ad (by decide) q1 (by omega) (by omega)
    exact mx_open13Wq hls hm hT ho b2 b3 b4 b5 h 8 J n1 mJ (ml_pS_no pJ) gJ (ml_pS_g pJ (by omega)) (by omega) (by omega)
  have g7 : ∀ (x2 x3 x4 x5 : Int32) (J : sm_I), en_mem ml_tb3 (mlW c48) (xLay, J, L, R) → ml_pS ml_no I J → ml_pg I J → (-1 ≤ x2.toInt ∧ x2.toInt ≤ 9) → (0 ≤ x3.toInt ∧ x3.toInt ≤ 500) → (-1 ≤ x4.toInt ∧ x4.toInt ≤ 9) → (240 + 4 * (s : Int) ≤ x5.toInt ∧ x5.toInt ≤ 243 + 4 * (s : Int)) → sm_wp sm_P S (d + 4) 198 7 [.ref 107, .int x2, .int x3, .int x4, .int x5] [] (xLay, J, L, kM R) (0, 0) Φ := by
    intro x2 x3 x4 x5 J mJ pJ gJ b2 b3 b4 b5
    have go := g12 x2 x3 x4 x5 J mJ pJ gJ b2 b3 b4 b5
    have wr : sm_wp sm_P S (d + 3) 213 0 [.ref 107, .int (5 : Int32), .int x3] [] (xLay, J, L, (kM R)) (0, 0) (fun z => ∃ (I1 : sm_I) (L2 : sm_L) (R3 : sm_R), z = (none, (xLay, I1, L2, (kM R3))) ∧ sm_wp sm_P S (d + 4) 198 12 [.ref 107, .int x2, .int x3, .int x4, .int x5] [] (xLay, I1, L2, (kM R3)) (0, 0) Φ) := mx_wrongWq (by decide) (by decide) b3.1 (by omega) mJ (fun K mK pK _ => ⟨K, L, R, rfl, g12 x2 x3 x4 x5 K mK (ml_pS_tr pJ pK) (ml_pg_tr gJ pK) b2 b3 b4 b5⟩)
    refine u_X12_tellOpen_7 ⟨fun _ => ⟨fun _ => go, fun c4 => ⟨fun _ => wr, fun _ n6 e6 => ?_⟩⟩, fun _ => go⟩
    have c4 := ml_m1 c4
    have q1 : ((10 : Int32) * (J 107 19)).toInt = 10 * (s : Int) := ml_mu (by decide) (ml_TI_noWq hls hm pJ hT).2.1 (by omega) (by omega)
    have q2 : n6.toInt = 10 * (s : Int) + x4.toInt := by rw [e6]; exact ml_ad q1 rfl (by omega) (by omega)
    exact ⟨kl_in (by omega) (by omega), fun _ => go, fun _ => wr⟩
  refine u_X12_tellOpen_0 (mx_goesOnWq hm (fun J1 m1 p1 g1 => ⟨J1, L, R, rfl, mx_knownWq m1 (fun r8 J5 m5 p5 a1 a2 a3 a4 a5 => ⟨r8, J5, L, R, rfl, mx_mustWq m5 (fun J9 m9 p9 => ⟨J9, L, R, rfl, ?_⟩)⟩)⟩))
  have pI9 : ml_pS ml_no I J9 := ml_pS_tr p1 (ml_pS_tr p5 p9)
  have g9 : ml_pg I J9 := ml_pg_tr g1 (ml_pS_tr p5 p9)
  have t1 : 0 ≤ (J1 107 11).toInt ∧ (J1 107 11).toInt ≤ 500 := ml_tWq m1
  have t9 : 0 ≤ (J9 107 11).toInt ∧ (J9 107 11).toInt ≤ 500 := ml_tWq m9
  have X : ∀ (y : Int32) (J : sm_I), en_mem ml_tb3 (mlW c48) (xLay, J, L, R) → ml_pS ml_no I J → ml_pg I J → (-1 ≤ y.toInt ∧ y.toInt ≤ 9) → (vp_in (J 107 19) 2) ∧ ∀ n17 : Int32, n17 = (((240 : Int32) + ((4 : Int32) * (J 107 19))) + (J 134 (J 107 19).toNatClampNeg)) → (((J 107 13) = 0 → ((r8 = (-1 : Int32) → sm_wp sm_P S (d + 4) 198 7 [.ref 107, .int r8, .int (J9 107 11), .int y, .int n17] [] (xLay, J, L, (kM R)) (0, 0) Φ) ∧ (¬ r8 = (-1 : Int32) → ∀ n18 : Int32, n18 = (((10 : Int32) * (J 107 19)) + r8) → (vp_in n18 20) ∧ (((J 135 n18.toNatClampNeg) = (-1 : Int32) → sm_wp sm_P S (d + 4) 198 7 [.ref 107, .int r8, .int (J9 107 11), .int y, .int n17] [] (xLay, J, L, (kM R)) (0, 0) Φ) ∧ (¬ (J 135 n18.toNatClampNeg) = (-1 : Int32) → sm_wp sm_P S (d + 3) 213 0 [.ref 107, .int (5 : Int32), .int (J1 107 11)] [] (xLay, J, L, (kM R)) (0, 0) (fun z => ∃ (I19 : sm_I) (L20 : sm_L) (R21 : sm_R), z = (none, (xLay, I19, L20, (kM R21))) ∧ sm_wp sm_P S (d + 4) 198 7 [.ref 107, .int r8, .int (J9 107 11), .int y, .int n17] [] (xLay, I19, L20, (kM R21)) (0, 0) Φ)))))) ∧ (¬ (J 107 13) = 0 → sm_wp sm_P S (d + 4) 198 7 [.ref 107, .int r8, .int (J9 107 11), .int y, .int n17] [] (xLay, J, L, (kM R)) (0, 0) Φ)) := by
    intro y J mJ pJ gJ hy
    have TJ := ml_TI_noWq hls hm pJ hT
    obtain ⟨sn, sv⟩ := ml_sn hls TJ
    refine ⟨sv, fun n17 e17 => ?_⟩
    rw [sn, ml_pS_g pJ (p := 134) (by omega)] at e17
    have q1 : ((4 : Int32) * (J 107 19)).toInt = 4 * (s : Int) := ml_mu (by decide) TJ.2.1 (by omega) (by omega)
    have q2 : ((240 : Int32) + ((4 : Int32) * (J 107 19))).toInt = 240 + 4 * (s : Int) := ml_ad (by decide) q1 (by omega) (by omega)
    have q3 : n17.toInt = 240 + 4 * (s : Int) + (I 134 s).toInt := by rw [e17]; exact ml_ad q2 rfl (by omega) (by omega)
    have b17 : 240 + 4 * (s : Int) ≤ n17.toInt ∧ n17.toInt ≤ 243 + 4 * (s : Int) := by omega
    have go := g7 r8 (J9 107 11) y n17 J mJ pJ gJ ⟨a1, a2⟩ t9 hy b17
    refine ⟨fun _ => ⟨fun _ => go, fun c8 n18 e18 => ?_⟩, fun _ => go⟩
    have c8 := ml_m1 c8
    have q4 : ((10 : Int32) * (J 107 19)).toInt = 10 * (s : Int) := ml_mu (by decide) TJ.2.1 (by omega) (by omega)
    have q5 : n18.toInt = 10 * (s : Int) + r8.toInt := by rw [e18]; exact ml_ad q4 rfl (by omega) (by omega)
    exact ⟨kl_in (by omega) (by omega), fun _ => go, fun _ => mx_wrongWq (by decide) (by decide) t1.1 (by omega) mJ (fun K mK pK _ => ⟨K, L, R, rfl, g7 r8 (J9 107 11) y n17 K mK (ml_pS_tr pJ pK) (ml_pg_tr gJ pK) ⟨a1, a2⟩ t9 hy b17⟩)⟩
  exact ⟨fun _ => mx_knownWq m9 (fun r16 J13 m13 p13 c1 c2 c3 c4 c5 => ⟨r16, J13, L, R, rfl, X r16 J13 m13 (ml_pS_tr pI9 p13) (ml_pg_tr g9 p13) ⟨c1, c2⟩⟩), fun _ => X 0 J9 m9 pI9 g9 (by decide)⟩
theorem mx_tellQuestionWq {S : sm_C} {d : Nat} {Φ : sm_Z → Prop} {I : sm_I} {L : sm_L} {R : sm_R} {l s : Nat} (hls : ml_ls l s) (hm : en_mem ml_tb3 (mlW c48) (xLay, I, L, R)) (hT : ml_TI l s I) (hq : (I 136 s).toInt ≤ 4) (h : ∀ (J : sm_I) (L' : sm_L), ml_okWq (c48 := c48) l s R I J L' → Φ (none, (xLay, J, L', kM R))) : sm_wp sm_P S (d + 5) 199 0 [.ref 107] [] (xLay, I, L, kM R) (0, 0) Φ := by
  obtain ⟨hl, hs⟩ := ml_l1 hls
  have hls' := hls
  unfold ml_ls at hls'
  have b := ml_csWq hs hm
  refine u_X12_tellQuestion_0 (mx_goesOnWq hm (fun J1 m1 p1 g1 => ⟨J1, L, R, rfl, mx_namedWq m1 (fun r8 J5 r0 r1 m5 p5 => ⟨r8, J5, L, R, rfl, mx_mustWq m5 (fun J9 m9 p9 => ⟨J9, L, R, rfl, ?_⟩)⟩)⟩))
  have pI9 : ml_pS ml_no I J9 := ml_pS_tr p1 (ml_pS_tr p5 p9)
  have g9 : ml_pg I J9 := ml_pg_tr g1 (ml_pS_tr p5 p9)
  have T9 := ml_TI_noWq hls hm pI9 hT
  have Q : ∀ J : sm_I, en_mem ml_tb3 (mlW c48) (xLay, J, L, R) → ml_pS (ml_D0 l) I J → ml_pg I J → sm_wp sm_P S (d + 4) 165 0 [.ref 107, .int (4 : Int32)] [] (xLay, J, L, (kM R)) (0, 0) (fun z => ∃ (I32 : sm_I) (L33 : sm_L) (R34 : sm_R), z = (none, (xLay, I32, L33, (kM R34))) ∧ (((I32 107 13) ≤ 0 → (vp_in (I32 107 19) 2) ∧ ∀ n36 : Int32, n36 = (I32 136 (I32 107 19).toNatClampNeg) → sm_wp sm_P S (d + 4) 155 0 [.ref 107, .int r8, .int (4 : Int32), .int n36] [] (xLay, I32, L33, (kM R34)) (0, 0) (fun z => ∃ (I37 : sm_I) (L38 : sm_L) (R39 : sm_R), z = (none, (xLay, I37, L38, (kM R39))) ∧ (vp_in (I37 107 19) 2) ∧ ∀ n41 : Int32, n41 = ((I37 136 (I37 107 19).toNatClampNeg) + (1 : Int32)) → (vp_in (I37 107 19) 2) ∧ ∀ I42 : sm_I, I42 = (sm_up I37 136 (I37 107 19).toNatClampNeg n41) → Φ (none, (xLay, I42, L38, (kM R39))))) ∧ (¬ (I32 107 13) ≤ 0 → Φ (none, (xLay, I32, L33, (kM R34)))))) := by
    intro J mJ pJ gJ
    refine mx_mustWq mJ (fun J3 m3 p3 => ⟨J3, L, R, rfl, fun _ => ?_, fun _ => ?_⟩)
    all_goals
      have pI : ml_pS (ml_D0 l) I J3 := ml_pS_tr pJ (ml_pS_no p3)
      have T3 : ml_TI l s J3 := ml_TI_0Wq hls hm pI hT
      have g3 : ml_pg I J3 := ml_pg_tr gJ p3
    · obtain ⟨sn, sv⟩ := ml_sn hls T3
      have e136 : J3 136 s = I 136 s := pI.1 136 s (by unfold ml_D0 ml_hm; omega) (by omega)
      refine ⟨sv, fun n36 e36 => ?_⟩
      rw [sn, e136] at e36
      refine mx_knowsWq r0 r1 (by decide) (by rw [e36]; omega) (fun c => absurd c (by decide)) (fun c => absurd c (by decide)) (ml_nm49Wq hls T3 m3) m3 (fun K L' mK pK nK => ⟨K, L', R, rfl, ?_⟩)
      have k19 : K 107 19 = J3 107 19 := pK.1 107 19 (by unfold ml_kn; omega) (by omega)
      rw [k19]
      refine ⟨sv, fun n41 e41 => ⟨sv, fun J' e => h J' L' ?_⟩⟩
      rw [sn] at e41 e
      exact ml_doneWq hls m3 T3 (ml_D0l hl pI) g3 mK pK nK (Or.inr (Or.inr (Or.inr (Or.inr rfl)))) (mx := 5) (by rcases hls' with ⟨-, c⟩ | ⟨-, c⟩ <;> subst c <;> rfl) e41 (by rw [e136]; omega) (by rw [e136]; omega) (by omega) e (ml_V3Wq hls m3 T3 pK (Or.inr (Or.inr rfl)) e)
    · exact h J3 L ⟨m3, ml_D0l hl pI, T3, g3⟩
  refine ⟨fun _ => ?_, fun _ => Q J9 m9 (ml_pS_no pI9) g9⟩
  obtain ⟨sn, sv⟩ := ml_sn hls T9
  refine ⟨sv, fun n27 e27 => ?_⟩
  rw [sn, ml_pS_g pI9 (p := 136) (by omega)] at e27
  have q1 : ((6 : Int32) * (J9 107 19)).toInt = 6 * (s : Int) := ml_mu (by decide) T9.2.1 (by omega) (by omega)
  have q2 : ((248 : Int32) + ((6 : Int32) * (J9 107 19))).toInt = 248 + 6 * (s : Int) := ml_ad (by decide) q1 (by omega) (by omega)
  have q3 : n27.toInt = 248 + 6 * (s : Int) + (I 136 s).toInt := by rw [e27]; exact ml_ad q2 rfl (by omega) (by omega)
  have n2 := kl_nat (i := n27) (by omega)
  refine mx_tellSpanWq hl T9.1 (by omega) (by omega) (by unfold ml_hl; omega) m9 (fun J m p _ => ⟨J, L, R, rfl, ?_⟩)
  have pJ : ml_pS (ml_D0 l) J9 J := ml_pS_mo p (fun a b c => by unfold ml_sp at c; unfold ml_D0 ml_hm; omega)
  exact Q J m (ml_pS_tr (ml_pS_no pI9) pJ) (ml_pg_tr g9 pJ)
theorem mx_tellWq {S : sm_C} {d : Nat} {Φ : sm_Z → Prop} {I : sm_I} {L : sm_L} {R : sm_R} {l s : Nat} (hls : ml_ls l s) (hm : en_mem ml_tb3 (mlW c48) (xLay, I, L, R)) (hT : ml_TI l s I) (h : ∀ (J : sm_I) (L' : sm_L), ml_okWq (c48 := c48) l s R I J L' → Φ (none, (xLay, J, L', kM R))) : sm_wp sm_P S (d + 7) 195 0 [.ref 107] [] (xLay, I, L, kM R) (0, 0) Φ := by
  obtain ⟨hl, hs⟩ := ml_l1 hls
  obtain ⟨sn, sv⟩ := ml_sn hls hT
  have b := ml_csWq hs hm
  have b120 : 0 ≤ (I 120 s).toInt ∧ (I 120 s).toInt ≤ 12 := ml_rowWq hm (p := 120) (n := 2) (q := (0, 12)) (fun _ => rfl) _ (by omega)
  have b134 : 0 ≤ (I 134 s).toInt ∧ (I 134 s).toInt ≤ 4 := ml_rowWq hm (p := 134) (n := 2) (q := (0, 4)) (fun _ => rfl) _ (by omega)
  have fin : ∀ (J : sm_I) (L' : sm_L), ml_okWq (c48 := c48) l s R I J L' → sm_wp sm_P S (d + 7) 195 30 [] [] (xLay, J, L', kM R) (0, 0) Φ := fun J L' o => u_X12_tell_30 (h J L' o)
  have bad : ∀ (J : sm_I), en_mem ml_tb3 (mlW c48) (xLay, J, L, R) → ml_pS ml_no I J → ¬ J 107 13 = 0 → sm_wp sm_P S (d + 7) 195 30 [] [] (xLay, J, L, kM R) (0, 0) Φ := fun J mJ pJ fJ => fin J L ⟨mJ, ml_pS_no pJ, ml_TI_noWq hls hm pJ hT, Or.inl fJ⟩
  have dft : sm_wp sm_P S (d + 6) 123 0 [.ref 107, .int (1 : Int32)] [] (xLay, I, L, (kM R)) (0, 0) (fun z => ∃ (I2 : sm_I) (L3 : sm_L) (R4 : sm_R), z = (none, (xLay, I2, L3, (kM R4))) ∧ sm_wp sm_P S (d + 7) 195 30 [] [] (xLay, I2, L3, (kM R4)) (0, 0) Φ) := mx_failWq (by decide) (by decide) hm (fun J mJ pJ fJ => ⟨J, L, R, rfl, bad J mJ pJ fJ⟩)
  have full : ∀ B : Nat, (∀ J : sm_I, en_mem ml_tb3 (mlW c48) (xLay, J, L, R) → ml_pS ml_no I J → ¬ J 107 13 = 0 → sm_wp sm_P S (d + 7) 195 B [.ref 107] [] (xLay, J, L, kM R) (0, 0) Φ) → sm_wp sm_P S (d + 6) 123 0 [.ref 107, .int (2 : Int32)] [] (xLay, I, L, (kM R)) (0, 0) (fun z => ∃ (I2 : sm_I) (L3 : sm_L) (R4 : sm_R), z = (none, (xLay, I2, L3, (kM R4))) ∧ sm_wp sm_P S (d + 7) 195 B [.ref 107] [] (xLay, I2, L3, (kM R4)) (0, 0) Φ) := fun B k => mx_failWq (by decide) (by decide) hm (fun J mJ pJ fJ => ⟨J, L, R, rfl, k J mJ pJ fJ⟩)
  have ne : ∀ {x k : Int32} {n : Int}, k.toInt = n → ¬ x = k → x.toInt ≠ n := fun e c q => c (en_ofI (by rw [q, e]))
  have c19 : ((I 125 s = (10 : Int32) → sm_wp sm_P S (d + 6) 123 0 [.ref 107, .int (2 : Int32)] [] (xLay, I, L, (kM R)) (0, 0) (fun z => ∃ (I2 : sm_I) (L3 : sm_L) (R4 : sm_R), z = (none, (xLay, I2, L3, (kM R4))) ∧ sm_wp sm_P S (d + 7) 195 19 [.ref 107] [] (xLay, I2, L3, (kM R4)) (0, 0) Φ)) ∧ (¬ I 125 s = (10 : Int32) → sm_wp sm_P S (d + 7) 195 19 [.ref 107] [] (xLay, I, L, (kM R)) (0, 0) Φ)) := ⟨fun _ => full 19 (fun J mJ pJ fJ => u_X12_tell_19 ⟨fun c => absurd c fJ, fun _ => bad J mJ pJ fJ⟩), fun c => u_X12_tell_19 ⟨fun _ => mx_tellSayingWq hls hm hT (by have := ne (n := 10) (by decide) c; omega) (fun J L' o => ⟨J, L', R, rfl, fin J L' o⟩), fun f => bad I hm ml_pS_rf f⟩⟩
  refine u_X12_tell_0 ⟨ml_vtWq hm, fun n1 _ => ?_⟩
  rw [sn]
  refine ⟨fun _ => ⟨sv, fun _ => full 3 (fun J mJ pJ fJ => u_X12_tell_3 ⟨fun c => absurd c fJ, fun _ => bad J mJ pJ fJ⟩), fun c => u_X12_tell_3 ⟨fun _ => mx_tellNameWq hls hm hT (Or.inl ⟨rfl, by have := ne (n := 4) (by decide) c; omega⟩) (fun J L' o => ⟨J, L', R, rfl, fin J L' o⟩), fun f => bad I hm ml_pS_rf f⟩⟩, fun _ => ?_⟩
  refine ⟨fun _ => ⟨sv, fun _ => full 7 (fun J mJ pJ fJ => u_X12_tell_7 ⟨fun c => absurd c fJ, fun _ => bad J mJ pJ fJ⟩), fun c => u_X12_tell_7 ⟨fun _ => mx_tellNameWq hls hm hT (Or.inr ⟨rfl, by have := ne (n := 6) (by decide) c; omega⟩) (fun J L' o => ⟨J, L', R, rfl, fin J L' o⟩), fun f => bad I hm ml_pS_rf f⟩⟩, fun _ => ?_⟩
  refine ⟨fun _ => ⟨sv, fun _ => full 11 (fun J mJ pJ fJ => u_X12_tell_11 ⟨fun c => absurd c fJ, fun _ => bad J mJ pJ fJ⟩), fun c => u_X12_tell_11 ⟨fun _ => mx_tellWayWq hls hm hT (by have := ne (n := 12) (by decide) c; omega) (fun J L' o => ⟨J, L', R, rfl, fin J L' o⟩), fun f => bad I hm ml_pS_rf f⟩⟩, fun _ => ?_⟩
  refine ⟨fun _ => ⟨sv, fun _ => full 15 (fun J mJ pJ fJ => u_X12_tell_15 ⟨fun c => absurd c fJ, fun _ => bad J mJ pJ fJ⟩), fun c => u_X12_tell_15 ⟨fun _ => mx_tellTimeWq hls hm hT (by have := ne (n := 10) (by decide) c; omega) (fun J L' o => ⟨J, L', R, rfl, fin J L' o⟩), fun f => bad I hm ml_pS_rf f⟩⟩, fun _ => ?_⟩
  refine ⟨fun _ => dft, fun _ => ⟨fun _ => dft, fun _ => ⟨fun _ => ⟨sv, c19⟩, fun _ => ⟨fun _ => ⟨sv, c19⟩, fun _ => ⟨fun _ => dft, fun _ => ⟨fun _ => dft, fun _ => ⟨fun _ => dft, fun _ => ⟨fun _ => dft, fun _ => ?_⟩⟩⟩⟩⟩⟩⟩⟩
  refine ⟨fun _ => ⟨sv, fun _ => full 23 (fun J mJ pJ fJ => u_X12_tell_23 ⟨fun c => absurd c fJ, fun _ => bad J mJ pJ fJ⟩), fun c => u_X12_tell_23 ⟨fun _ => mx_tellOpenWq hls hm hT (by have := ne (n := 4) (by decide) c; omega) (fun J L' o => ⟨J, L', R, rfl, fin J L' o⟩), fun f => bad I hm ml_pS_rf f⟩⟩, fun _ => ?_⟩
  refine ⟨fun _ => ⟨sv, fun _ => full 27 (fun J mJ pJ fJ => u_X12_tell_27 ⟨fun c => absurd c fJ, fun _ => bad J mJ pJ fJ⟩), fun c => u_X12_tell_27 ⟨fun _ => mx_tellQuestionWq hls hm hT (by have := ne (n := 5) (by decide) c; omega) (fun J L' o => ⟨J, L', R, rfl, fin J L' o⟩), fun f => bad I hm ml_pS_rf f⟩⟩, fun _ => dft⟩
theorem ml_szWq {I : sm_I} {L : sm_L} {R : sm_R} (hm : en_mem ml_tb3 (mlW c48) (xLay, I, L, R)) : 0 ≤ (I 107 4).toInt ∧ (I 107 4).toInt ≤ 2000 := hm.2.1 107 4 (0, 2000) (by decide +kernel)
theorem ml_tkWq {I : sm_I} {L : sm_L} {R : sm_R} (hm : en_mem ml_tb3 (mlW c48) (xLay, I, L, R)) : 0 ≤ (I 107 10).toInt ∧ (I 107 10).toInt ≤ 501 := hm.2.1 107 10 (0, 501) (by decide +kernel)
theorem mx_byteAtWq {S : sm_C} {d : Nat} {Φ : sm_Z → Prop} {I : sm_I} {L : sm_L} {R : sm_R} {x : Int32} (h0 : 0 ≤ x.toInt) (hm : en_mem ml_tb3 (mlW c48) (xLay, I, L, R)) (h : Φ (some (.int (ml_by I x)), (xLay, I, L, kM R))) : sm_wp sm_P S d 108 0 [.ref 107, .int x] [] (xLay, I, L, kM R) (0, 0) Φ := by
  have b := ml_szWq hm
  unfold ml_by at h
  refine u_X12_byteAt_0 ⟨fun a => ?_, fun a => ⟨?_, ?_⟩⟩
  · rw [if_pos a] at h; exact h
  · have := kl_nle a
    exact kl_in h0 (by omega)
  · rw [if_neg a] at h; exact h
theorem mx_tokenWq {S : sm_C} {d : Nat} {Φ : sm_Z → Prop} {I : sm_I} {L : sm_L} {R : sm_R} {x1 x2 x3 : Int32} {y4 : Int64} (b1 : 0 ≤ x1.toInt ∧ x1.toInt ≤ 34) (b2 : 0 ≤ x2.toInt ∧ x2.toInt ≤ 2000) (b3 : 0 ≤ x3.toInt ∧ x3.toInt ≤ 9999) (ht : (I 107 10).toInt ≤ 500) (hm : en_mem ml_tb3 (mlW c48) (xLay, I, L, R)) (h : ∀ (J : sm_I) (L' : sm_L), en_mem ml_tb3 (mlW c48) (xLay, J, L', R) → ml_cf I J → (J 107 10).toInt = (I 107 10).toInt + 1 → Φ (none, (xLay, J, L', kM R))) : sm_wp sm_P S d 204 0 [.ref 107, .int x1, .int x2, .int x3, .long y4] [] (xLay, I, L, kM R) (0, 0) Φ := by
  have bt := ml_tkWq hm
  have v : vp_in (I 107 10) 503 := kl_in bt.1 (by omega)
  refine u_X12_token_0 ⟨v, fun I1 e1 => ?_⟩
  have g1 : I1 107 10 = I 107 10 := by rw [e1, en_up_ne _ _ _ _ (by omega)]
  have m1 : en_mem ml_tb3 (mlW c48) (xLay, I1, L, R) := by rw [e1]; exact ml_we2Wq hm rfl (n := 503) (q := (0, 34)) rfl b1
  refine ⟨by rw [g1]; exact v, fun I2 e2 => ?_⟩
  rw [g1] at e2
  have g2 : I2 107 10 = I 107 10 := by rw [e2, en_up_ne _ _ _ _ (by omega), g1]
  have m2 : en_mem ml_tb3 (mlW c48) (xLay, I2, L, R) := by rw [e2]; exact ml_we2Wq m1 rfl (n := 503) (q := (0, 2000)) rfl b2
  refine ⟨by rw [g2]; exact v, fun I3 e3 => ?_⟩
  rw [g2] at e3
  have g3 : I3 107 10 = I 107 10 := by rw [e3, en_up_ne _ _ _ _ (by omega), g2]
  have m3 : en_mem ml_tb3 (mlW c48) (xLay, I3, L, R) := by rw [e3]; exact ml_we2Wq m2 rfl (n := 503) (q := (0, 9999)) rfl b3
  refine ⟨by rw [g3]; exact v, fun L4 eL I5 e5 => ?_⟩
  rw [g3] at e5
  have s := ml_in1 (x := I 107 10) (by omega)
  have m5 : en_mem ml_tb3 (mlW c48) (xLay, I5, L, R) := by
    rw [e5]
    exact ml_wfWq m3 (by decide +kernel) (q := (0, 501)) (by decide +kernel) (by show 0 ≤ _ ∧ _ ≤ (501 : Int); omega)
  refine h I5 L4 ⟨m5.1, m5.2.1, m5.2.2.1, m5.2.2.2.1, m5.2.2.2.2.1, m5.2.2.2.2.2.1, m5.2.2.2.2.2.2.1, m5.2.2.2.2.2.2.2.1, m5.2.2.2.2.2.2.2.2.1, ⟨pk_cg (L := L) (L' := L4) (fun j => by rw [eL]; exact en_up_ne _ _ _ _ (by omega)) m5.2.2.2.2.2.2.2.2.2.1, fun j => by show L4 48 j = c48 j; rw [eL, en_up_ne _ _ _ _ (by omega)]; exact m5.2.2.2.2.2.2.2.2.2.2 j⟩⟩ (fun p j hp => ?_) (by rw [e5, en_up_eq]; exact s)
  unfold ml_Dc at hp
  rw [e5, en_up_ne _ _ _ _ (by omega), e3, en_up_ne _ _ _ _ (by omega), e2, en_up_ne _ _ _ _ (by omega), e1, en_up_ne _ _ _ _ (by omega)]
theorem mx_cut1Wq {S : sm_C} {d : Nat} {Φ : sm_Z → Prop} {I0 : sm_I} {R : sm_R} (h : ∀ (J : sm_I) (L' : sm_L), en_mem ml_tb3 (mlW c48) (xLay, J, L', R) → ml_cf I0 J → Φ (none, (xLay, J, L', kM R))) : ∀ (m : Nat) (I : sm_I) (L : sm_L) (x1 : Int32), en_mem ml_tb3 (mlW c48) (xLay, I, L, R) → ml_cf I0 I → 0 ≤ x1.toInt → x1.toInt ≤ 2000 → (2000 - x1.toInt) + (501 - (I 107 10).toInt) < m → sm_wp sm_P S (d + 1) 119 1 [.ref 107, .int x1] [] (xLay, I, L, kM R) (0, 0) Φ := by
  intro m
  induction m with
  | zero =>
    intro I L x1 hm hc h0 h1 hM
    have := ml_tkWq hm
    omega
  | succ m ih =>
    intro I L x1 hm hc h0 h1 hM
    have bs := ml_szWq hm
    have bt := ml_tkWq hm
    have c500 : (500 : Int32).toInt = 500 := by decide
    refine u_X12_cut_1 ⟨fun _ => h I L hm hc, fun a => ?_⟩
    have a := kl_nlt a
    rw [c500] at a
    clear c500
    -- a token, then on
    have tok : ∀ (k v n : Int32) (y : Int64), (0 ≤ k.toInt ∧ k.toInt ≤ 34) → (0 ≤ v.toInt ∧ v.toInt ≤ 9999) → x1.toInt ≤ n.toInt → n.toInt ≤ 2000 → sm_wp sm_P S d 204 0 [.ref 107, .int k, .int x1, .int v, .long y] [] (xLay, I, L, kM R) (0, 0) (fun z => ∃ (I1 : sm_I) (L2 : sm_L) (R3 : sm_R), z = (none, (xLay, I1, L2, (kM R3))) ∧ sm_wp sm_P S (d + 1) 119 1 [.ref 107, .int n] [] (xLay, I1, L2, (kM R3)) (0, 0) Φ) := fun k v n y bk bv n0 n1 => mx_tokenWq bk ⟨h0, h1⟩ bv a hm (fun J L' mJ cJ tJ => ⟨J, L', R, rfl, ih J L' n mJ (ml_cf_tr hc cJ) (by omega) n1 (by omega)⟩)
    have w20 : ∀ (q : Nat) (x3 : Int32) (y : Int64) (x6 x7 : Int32), 0 ≤ x3.toInt → x1.toInt + x3.toInt ≤ 2000 → (0 ≤ x6.toInt ∧ x6.toInt ≤ 34) → 0 ≤ x7.toInt → 15 - x7.toInt ≤ q → sm_wp sm_P S (d + 1) 119 20 [.ref 107, .int x1, .int x3, .long y, .int x6, .int x7] [] (xLay, I, L, kM R) (0, 0) Φ := by
      intro q
      induction q with
      | zero =>
        intro x3 y x6 x7 k0 k1 b6 k7 hq
        have s : (x1 + x3).toInt = x1.toInt + x3.toInt := ml_ad rfl rfl (by omega) (by omega)
        refine u_X12_cut_20 ⟨fun _ => tok x6 0 _ y b6 (by decide) (by omega) (by omega), fun c => ?_⟩
        have c := kl_nle c
        have c15 : (15 : Int32).toInt = 15 := by decide
        rw [c15] at c
        omega
      | succ q ihq =>
        intro x3 y x6 x7 k0 k1 b6 k7 hq
        have s : (x1 + x3).toInt = x1.toInt + x3.toInt := ml_ad rfl rfl (by omega) (by omega)
        refine u_X12_cut_20 ⟨fun _ => tok x6 0 _ y b6 (by decide) (by omega) (by omega), fun c => ?_⟩
        have c := kl_nle c
        have c15 : (15 : Int32).toInt = 15 := by decide
        rw [c15] at c
        clear c15
        have s7 := ml_in1 (x := x7) (by omega)
        have s20 : ((20 : Int32) + x7).toInt = 20 + x7.toInt := ml_ad (by decide) rfl (by omega) (by omega)
        exact ⟨kl_in k7 (by omega), fun _ => ihq x3 y _ _ k0 k1 (by omega) (by omega) (by omega), fun _ => ihq x3 y _ _ k0 k1 b6 (by omega) (by omega)⟩
    have w11 : ∀ (q : Nat) (x3 : Int32) (y : Int64), 0 ≤ x3.toInt → x1.toInt + x3.toInt ≤ 2000 → 2000 - x1.toInt - x3.toInt < q → sm_wp sm_P S (d + 1) 119 11 [.ref 107, .int x1, .int x3, .long y] [] (xLay, I, L, kM R) (0, 0) Φ := by
      intro q
      induction q with
      | zero => intro x3 y k0 k1 hq; omega
      | succ q ihq =>
        intro x3 y k0 k1 hq
        have s : (x1 + x3).toInt = x1.toInt + x3.toInt := ml_ad rfl rfl (by omega) (by omega)
        refine u_X12_cut_11 (mx_byteAtWq (by omega) hm ⟨_, I, L, R, rfl, mx_isLetter (fun r8 hr => ⟨r8, I, L, R, rfl, fun _ => ⟨fun _ => ⟨fun _ => tok 1 0 _ y (by decide) (by decide) (by omega) (by omega), fun _ => w20 15 x3 y 1 0 k0 k1 (by decide) (by decide) (by decide)⟩, fun _ => ⟨fun _ => tok 3 0 _ y (by decide) (by decide) (by omega) (by omega), fun _ => w20 15 x3 y 3 0 k0 k1 (by decide) (by decide) (by decide)⟩⟩, fun c => ?_⟩)⟩)
        have lt := ml_by_lt (I := I) (x := x1 + x3) (by have := hr c; omega)
        rw [s] at lt
        have s3 := ml_in1 (x := x3) (by omega)
        exact ⟨fun _ => ihq _ _ (by omega) (by omega) (by omega), fun _ => mx_byteAtWq (by omega) hm ⟨_, I, L, R, rfl, mx_appends (fun r => ⟨r, I, L, R, rfl, ihq _ _ (by omega) (by omega) (by omega)⟩)⟩⟩
    have w27 : ∀ (q : Nat) (x3 x4 : Int32), 0 ≤ x3.toInt → x1.toInt + x3.toInt ≤ 2000 → (0 ≤ x4.toInt ∧ (x3.toInt = 0 → x4.toInt ≤ 0) ∧ (x3.toInt = 1 → x4.toInt ≤ 9) ∧ (x3.toInt = 2 → x4.toInt ≤ 99) ∧ (x3.toInt = 3 → x4.toInt ≤ 999) ∧ x4.toInt ≤ 9999) → 2000 - x1.toInt - x3.toInt < q → sm_wp sm_P S (d + 1) 119 27 [.ref 107, .int x1, .int x3, .int x4] [] (xLay, I, L, kM R) (0, 0) Φ := by
      intro q
      induction q with
      | zero => intro x3 x4 k0 k1 b4 hq; omega
      | succ q ihq =>
        intro x3 x4 k0 k1 b4 hq
        have s : (x1 + x3).toInt = x1.toInt + x3.toInt := ml_ad rfl rfl (by omega) (by omega)
        refine u_X12_cut_27 (mx_byteAtWq (by omega) hm ⟨_, I, L, R, rfl, mx_isDigit (fun r8 hr => ⟨r8, I, L, R, rfl, fun _ => ⟨fun _ => tok 2 x4 _ _ (by decide) ⟨b4.1, b4.2.2.2.2.2⟩ (by omega) (by omega), fun _ => tok 3 x4 _ _ (by decide) ⟨b4.1, b4.2.2.2.2.2⟩ (by omega) (by omega)⟩, fun c => ?_⟩)⟩)
        have dg := hr c
        have lt := ml_by_lt (I := I) (x := x1 + x3) dg.1
        rw [s] at lt
        have s3 := ml_in1 (x := x3) (by omega)
        refine ⟨fun c4 => ?_, fun c4 => mx_byteAtWq (by omega) hm ⟨_, I, L, R, rfl, fun n24 e24 => ?_⟩⟩
        · have c4 := kl_le.mp c4
          rw [(by decide : (4 : Int32).toInt = 4)] at c4
          exact ihq _ _ (by omega) (by omega) ⟨b4.1, by omega, by omega, by omega, by omega, b4.2.2.2.2.2⟩ (by omega)
        · have c4 := kl_nle c4
          rw [(by decide : (4 : Int32).toInt = 4)] at c4
          generalize ml_by I (x1 + x3) = w at dg e24
          have q1 : ((10 : Int32) * x4).toInt = 10 * x4.toInt := ml_mu (by decide) rfl (by omega) (by omega)
          have q2 : ((10 : Int32) * x4 + w).toInt = 10 * x4.toInt + w.toInt := ml_ad q1 rfl (by omega) (by omega)
          have q3 : n24.toInt = 10 * x4.toInt + w.toInt - 48 := by
            rw [e24, Int32.toInt_sub, q2, (by decide : (48 : Int32).toInt = 48)]; exact en_bmod (by omega) (by omega) (Or.inl rfl)
          clear e24 q1 q2
          exact ihq _ n24 (by omega) (by omega) ⟨by omega, by omega, by omega, by omega, by omega, by omega⟩ (by omega)
    refine mx_byteAtWq h0 hm ⟨_, I, L, R, rfl, fun lt => ?_, fun _ => mx_tokenWq (by decide) bs (by decide) a hm (fun J L' mJ cJ _ => ⟨J, L', R, rfl, h J L' mJ (ml_cf_tr hc cJ)⟩)⟩
    have lt := kl_lt.mp lt
    have s1 := ml_in1 (x := x1) (by omega)
    have on : sm_wp sm_P S (d + 1) 119 1 [.ref 107, .int (x1 + 1)] [] (xLay, I, L, kM R) (0, 0) Φ := ih I L _ hm hc (by omega) (by omega) (by omega)
    refine ⟨fun _ => on, fun _ => ⟨fun _ => on, fun _ => ⟨fun _ => on, fun _ => ⟨fun _ => on, fun _ => ?_⟩⟩⟩⟩
    refine mx_isLetter (fun r8 _ => ⟨r8, I, L, R, rfl, fun _ => mx_isDigit (fun r12 _ => ⟨r12, I, L, R, rfl, fun _ => mx_sign (fun r16 k0 k1 => ⟨r16, I, L, R, rfl, tok r16 0 _ _ ⟨k0, k1⟩ (by decide) (by omega) (by omega)⟩), fun _ => w27 2001 0 0 (by decide) (by rw [kl_0]; omega) (by decide) (by rw [kl_0]; omega)⟩), fun _ => w11 2001 0 0 (by decide) (by rw [kl_0]; omega) (by rw [kl_0]; omega)⟩)
theorem mx_cutWq {S : sm_C} {d : Nat} {Φ : sm_Z → Prop} {I : sm_I} {L : sm_L} {R : sm_R} (hm : en_mem ml_tb3 (mlW c48) (xLay, I, L, R)) (h : ∀ (J : sm_I) (L' : sm_L), en_mem ml_tb3 (mlW c48) (xLay, J, L', R) → ml_cf I J → Φ (none, (xLay, J, L', kM R))) : sm_wp sm_P S (d + 1) 119 0 [.ref 107] [] (xLay, I, L, kM R) (0, 0) Φ := by
  refine u_X12_cut_0 ?_
  refine mx_cut1Wq (I0 := I) h 2502 _ L 0 (ml_wfWq hm (by decide +kernel) (q := (0, 501)) (by decide +kernel) (by decide)) (fun p j hp => ?_) (by decide) (by decide) (by rw [en_up_eq]; decide)
  unfold ml_Dc at hp
  exact en_up_ne _ _ _ _ (by omega)
end
end
section
/-! the reference's contracts with what was gone through (wip/pe/mkYm.py) -/
section
variable {c48 : Nat → Int64}
theorem mx_meets3Wq {S : sm_C} {d : Nat} {Φ : sm_Z → Prop} {L : sm_L} {R : sm_R} {x1 : Int32} (a0 : 0 ≤ x1.toInt) (a1 : x1.toInt ≤ 9) (I0 : sm_I) (hk : ∀ J : sm_I, en_mem ml_tb3 (mlW c48) (xLay, J, L, R) → ml_mf I0 J → (J 107 46).toInt ≤ ml_S (x1.toNatClampNeg + 1) → sm_wp sm_P S d 161 1 [.ref 107, .int (x1 + 1)] [] (xLay, J, L, kM R) (0, 0) Φ) : ∀ (m : Nat) (I : sm_I) (x2 : Int32), en_mem ml_tb3 (mlW c48) (xLay, I, L, R) → ml_mf I0 I → x1.toInt + 1 ≤ x2.toInt → x2.toInt ≤ 10 → (I 107 46).toInt ≤ ml_S x1.toNatClampNeg + (x2.toInt - x1.toInt - 1) → 10 - x2.toInt < m → sm_wp sm_P S d 161 3 [.ref 107, .int x1, .int x2] [] (xLay, I, L, kM R) (0, 0) Φ := by
  have na := kl_nat a0
  have SS := ml_S_st x1.toNatClampNeg (by omega)
  have done : ∀ (I : sm_I) (x2 : Int32), en_mem ml_tb3 (mlW c48) (xLay, I, L, R) → ml_mf I0 I → x2.toInt ≤ 10 → (I 107 46).toInt ≤ ml_S x1.toNatClampNeg + (x2.toInt - x1.toInt - 1) → sm_wp sm_P S d 161 1 [.ref 107, .int (x1 + 1)] [] (xLay, I, L, kM R) (0, 0) Φ := fun I x2 hm hf b hs => hk I hm hf (by omega)
  intro m
  induction m with
  | zero => intro I x2 hm hf h0 h1 hs hM; omega
  | succ m ih =>
    intro I x2 hm hf h0 h1 hs hM
    obtain ⟨l0, l1, ln, lc⟩ := ml_liveWq hm
    have l0 : 0 ≤ (I 107 18).toInt := l0
    have l1 : (I 107 18).toInt ≤ 1 := l1
    have ln : ((I 107 18).toNatClampNeg : Int) = (I 107 18).toInt := ln
    have bt : 0 ≤ (I 122 (I 107 18).toNatClampNeg).toInt ∧ (I 122 (I 107 18).toNatClampNeg).toInt ≤ 10 := ml_rowWq hm (p := 122) (n := 2) (q := (0, 10)) (fun _ => rfl) _ (by omega)
    have bm : 0 ≤ (I 107 46).toInt ∧ (I 107 46).toInt ≤ 45 := hm.2.1 107 46 (0, 45) (by decide +kernel)
    refine u_X12_meets_3 ⟨kl_in l0 (by omega), fun _ => done I x2 hm hf h1 hs, fun a n1 e1 n2 e2 => ?_⟩
    have a := kl_nle a
    have nb := kl_nat (i := x2) (by omega)
    have s2 := ml_in1 (x := x2) (by omega)
    have q0 : ((10 : Int32) * I 107 18).toInt = 10 * (I 107 18).toInt := ml_mu (by decide) rfl (by omega) (by omega)
    have q1 : n1.toInt = 10 * (I 107 18).toInt + x1.toInt := by rw [e1]; exact ml_ad q0 rfl (by omega) (by omega)
    have q2 : n2.toInt = 10 * (I 107 18).toInt + x2.toInt := by rw [e2]; exact ml_ad q0 rfl (by omega) (by omega)
    have k1 := kl_nat (i := n1) (by omega)
    have k2 := kl_nat (i := n2) (by omega)
    have v1 : vp_in n1 20 := kl_in (by omega) (by omega)
    have v2 : vp_in n2 20 := kl_in (by omega) (by omega)
    have same : sm_wp sm_P S d 161 3 [.ref 107, .int x1, .int (x2 + 1)] [] (xLay, I, L, kM R) (0, 0) Φ := ih I _ hm hf (by omega) (by omega) (by omega) (by omega)
    refine ⟨v1, fun _ => same, fun c1 => ⟨v1, v2, fun c2 => ⟨v1, v2, fun _ => same, fun _ => ?_⟩, fun _ => same⟩⟩
    have c1 := ml_m1 c1
    have V := (ml_lvWq hm).1
    have P1 : 0 ≤ (I 124 n1.toNatClampNeg).toInt := by
      have := V x1.toNatClampNeg (by rw [na]; show x1.toInt < (I 122 (I 107 18).toNatClampNeg).toInt; omega) (by
        show (I 123 (10 * (I 107 18).toNatClampNeg + x1.toNatClampNeg)).toInt ≠ -1
        rw [show 10 * (I 107 18).toNatClampNeg + x1.toNatClampNeg = n1.toNatClampNeg by omega]; exact c1)
      rw [show n1.toNatClampNeg = 10 * (I 107 18).toNatClampNeg + x1.toNatClampNeg by omega]; exact this
    have P2 : 0 ≤ (I 124 n2.toNatClampNeg).toInt := by
      have := V x2.toNatClampNeg (by rw [nb]; show x2.toInt < (I 122 (I 107 18).toNatClampNeg).toInt; omega) (by
        show (I 123 (10 * (I 107 18).toNatClampNeg + x2.toNatClampNeg)).toInt ≠ -1
        rw [show 10 * (I 107 18).toNatClampNeg + x2.toNatClampNeg = n2.toNatClampNeg by omega, ← c2]; exact c1)
      rw [show n2.toNatClampNeg = 10 * (I 107 18).toNatClampNeg + x2.toNatClampNeg by omega]; exact this
    have B1 : -1 ≤ (I 124 n1.toNatClampNeg).toInt ∧ (I 124 n1.toNatClampNeg).toInt ≤ 5 := ml_rowWq hm (p := 124) (n := 20) (q := (-1, 5)) (fun _ => rfl) _ (by omega)
    have B2 : -1 ≤ (I 124 n2.toNatClampNeg).toInt ∧ (I 124 n2.toNatClampNeg).toInt ≤ 5 := ml_rowWq hm (p := 124) (n := 20) (q := (-1, 5)) (fun _ => rfl) _ (by omega)
    have v46 : vp_in (I 107 46) 45 := kl_in bm.1 (by omega)
    refine ⟨v46, fun I3 e3 => ?_⟩
    have g3 : I3 107 46 = I 107 46 := by rw [e3, en_up_ne _ _ _ _ (by omega)]
    have m3 : en_mem ml_tb3 (mlW c48) (xLay, I3, L, R) := by rw [e3]; exact ml_we2Wq hm rfl (n := 45) (q := (0, 9)) rfl (by show 0 ≤ _ ∧ _ ≤ (9 : Int); omega)
    refine ⟨by rw [g3]; exact v46, fun I4 e4 => ?_⟩
    rw [g3] at e4
    have g4 : I4 107 46 = I 107 46 := by rw [e4, en_up_ne _ _ _ _ (by omega), g3]
    have m4 : en_mem ml_tb3 (mlW c48) (xLay, I4, L, R) := by rw [e4]; exact ml_we2Wq m3 rfl (n := 45) (q := (0, 9)) rfl (by show 0 ≤ _ ∧ _ ≤ (9 : Int); omega)
    have o4 : ∀ p j, p ≠ 140 → p ≠ 141 → I4 p j = I p j := fun p j x y => by rw [e4, en_up_ne _ _ _ _ (by omega), e3, en_up_ne _ _ _ _ (by omega)]
    refine ⟨v1, v2, fun n5 e5 => ?_⟩
    rw [o4 _ _ (by decide) (by decide), o4 _ _ (by decide) (by decide)] at e5
    have r1 : ((6 : Int32) * I 124 n1.toNatClampNeg).toInt = 6 * (I 124 n1.toNatClampNeg).toInt := ml_mu (by decide) rfl (by omega) (by omega)
    have r2 : n5.toInt = 6 * (I 124 n1.toNatClampNeg).toInt + (I 124 n2.toNatClampNeg).toInt := by rw [e5]; exact ml_ad r1 rfl (by omega) (by omega)
    refine ⟨kl_in (by omega) (by omega), by rw [g4]; exact v46, fun I6 e6 I7 e7 => ?_⟩
    have m6 : en_mem ml_tb3 (mlW c48) (xLay, I6, L, R) := by rw [e6]; exact ml_we2Wq m4 rfl (n := 45) (q := (-2147483648, 2147483647)) rfl en_crange
    have g6 : I6 107 46 = I 107 46 := by rw [e6, en_up_ne _ _ _ _ (by omega), g4]
    have s46 := ml_in1 (x := I 107 46) (by omega)
    have g7 : (I7 107 46).toInt = (I 107 46).toInt + 1 := by rw [e7, g6, en_up_eq]; exact s46
    refine ih I7 _ ?_ ?_ (by omega) (by omega) (by omega) (by omega)
    · rw [e7, g6]
      exact ml_wfWq m6 (by decide +kernel) (q := (0, 45)) (by decide +kernel) (by show 0 ≤ _ ∧ _ ≤ (45 : Int); omega)
    · intro p j hp
      rw [e7, en_up_ne _ _ _ _ (by omega), e6, en_up_ne _ _ _ _ (by omega), o4 _ _ (by omega) (by omega)]
      exact hf p j hp
theorem mx_meets1Wq {S : sm_C} {d : Nat} {Φ : sm_Z → Prop} {L : sm_L} {R : sm_R} (I0 : sm_I) (h : ∀ J : sm_I, en_mem ml_tb3 (mlW c48) (xLay, J, L, R) → ml_mf I0 J → Φ (none, (xLay, J, L, kM R))) : ∀ (m : Nat) (I : sm_I) (x1 : Int32), en_mem ml_tb3 (mlW c48) (xLay, I, L, R) → ml_mf I0 I → 0 ≤ x1.toInt → x1.toInt ≤ 10 → (I 107 46).toInt ≤ ml_S x1.toNatClampNeg → 10 - x1.toInt < m → sm_wp sm_P S d 161 1 [.ref 107, .int x1] [] (xLay, I, L, kM R) (0, 0) Φ := by
  intro m
  induction m with
  | zero => intro I x1 hm hf h0 h1 hs hM; omega
  | succ m ih =>
    intro I x1 hm hf h0 h1 hs hM
    obtain ⟨l0, l1, ln, lc⟩ := ml_liveWq hm
    have l0 : 0 ≤ (I 107 18).toInt := l0
    have l1 : (I 107 18).toInt ≤ 1 := l1
    have ln : ((I 107 18).toNatClampNeg : Int) = (I 107 18).toInt := ln
    have bt : 0 ≤ (I 122 (I 107 18).toNatClampNeg).toInt ∧ (I 122 (I 107 18).toNatClampNeg).toInt ≤ 10 := ml_rowWq hm (p := 122) (n := 2) (q := (0, 10)) (fun _ => rfl) _ (by omega)
    refine u_X12_meets_1 ⟨kl_in l0 (by omega), fun _ => h I hm hf, fun a => ?_⟩
    have a := kl_nle a
    have na := kl_nat h0
    have s1 := ml_in1 (x := x1) (by omega)
    have n1 := kl_nat (i := x1 + 1) (by omega)
    refine mx_meets3Wq h0 (by omega) I0 (fun J mJ fJ sJ => ih J _ mJ fJ (by omega) (by omega) ?_ (by omega)) 11 I _ hm hf (by omega) (by omega) (by omega) (by omega)
    rw [show (x1 + 1).toNatClampNeg = x1.toNatClampNeg + 1 by omega]; exact sJ
theorem mx_meetsWq {S : sm_C} {d : Nat} {Φ : sm_Z → Prop} {I : sm_I} {L : sm_L} {R : sm_R} (hm : en_mem ml_tb3 (mlW c48) (xLay, I, L, R)) (h : ∀ J : sm_I, en_mem ml_tb3 (mlW c48) (xLay, J, L, R) → ml_mf I J → Φ (none, (xLay, J, L, kM R))) : sm_wp sm_P S d 161 0 [.ref 107] [] (xLay, I, L, kM R) (0, 0) Φ := by
  refine u_X12_meets_0 (mx_meets1Wq I h 11 _ 0 (ml_wfWq hm (by decide +kernel) (q := (0, 45)) (by decide +kernel) (by decide)) (fun p j hp => en_up_ne _ _ _ _ (by omega)) (by decide) (by decide) ?_ (by decide))
  rw [en_up_eq]
  decide
theorem mx_read29Wq {S : sm_C} {d : Nat} {Φ : sm_Z → Prop} {w0 : sm_W} {L : sm_L} {R : sm_R} (hΦ : ∀ (r : Int32) (I : sm_I) (L : sm_L) (R : sm_R), 0 ≤ r.toInt → r.toInt ≤ 5 → en_mem ml_tb3 (mlW c48) (xLay, I, L, R) → en_fr ml_RW w0 (xLay, I, L, R) → I 107 2 = 0 → Φ (some (.int r), (xLay, I, L, kM R))) : ∀ (m : Nat) (I : sm_I) (x1 : Int32), en_mem ml_tb3 (mlW c48) (xLay, I, L, R) → en_fr ml_RW w0 (xLay, I, L, R) → I 107 2 = 0 → 0 ≤ x1.toInt → x1.toInt ≤ 60 → 60 - x1.toInt < m → sm_wp sm_P S (d + 1) 182 29 [.ref 107, .int x1] [] (xLay, I, L, kM R) (0, 0) Φ := by
  intro m
  induction m with
  | zero => intro I x1 hm hf hz h0 h1 hM; omega
  | succ m ih =>
    intro I x1 hm hf hz h0 h1 hM
    refine u_X12_read_29 ⟨fun _ => ?_, fun a => ?_⟩
    · have m1 : en_mem ml_tb3 (mlW c48) (xLay, sm_up I 107 54 0, L, R) := ml_wfWq hm (by decide +kernel) (q := (0, 6)) (by decide +kernel) (by decide)
      refine ml_cvWq (c := mlc_64) mlw_64 (Nat.zero_le _) ⟨⟨rfl, rfl⟩, trivial⟩ m1 ml_pf0 rfl (fun I2 L2 R2 m2 f2 => mx_meetsWq m2 (fun I3 m3 f3 => ⟨I3, L2, R2, rfl, u_X12_changes_0 (fun I4 e4 => ⟨I4, L2, R2, rfl, ?_⟩)⟩))
      have hf2 : en_fr ml_RW w0 (xLay, I2, L2, R2) := ml_frt (ml_fr hf (by decide +kernel)) f2 (by decide +kernel)
      refine hΦ 0 I4 L2 R2 (by decide) (by decide) ?_ ?_ ?_
      · rw [e4]
        exact ml_wfWq (ml_wfWq m3 (by decide +kernel) (q := (0, 1)) (by decide +kernel) (by decide)) (by decide +kernel) (q := (0, 1)) (by decide +kernel) (by decide)
      · rw [e4]
        refine ml_fr (ml_fr (ml_fro hf2 (fun p j hw => f3 p j (fun c => ?_))) (by decide +kernel)) (by decide +kernel)
        rcases c with ⟨c1, c2⟩ | c | c | c
        · rw [c1, c2] at hw; exact absurd hw (by decide +kernel)
        · rw [ml_rw (by omega) (by omega)] at hw; cases hw
        · rw [ml_rw (by omega) (by omega)] at hw; cases hw
        · rw [ml_rw (by omega) (by omega)] at hw; cases hw
      · rw [e4, en_up_ne _ _ _ _ (by omega), en_up_ne _ _ _ _ (by omega), f3 _ _ (by omega), ml_g f2 (by decide), en_up_ne _ _ _ _ (by omega), hz]
    · have a := kl_nle a
      rw [(by decide : (60 : Int32).toInt = 60)] at a
      have s1 := ml_in1 (x := x1) (by omega)
      refine ⟨kl_in h0 (by omega), fun I2 e2 => ih I2 _ ?_ ?_ ?_ (by omega) (by omega) (by omega)⟩
      · rw [e2]
        exact ml_we2Wq hm rfl (n := 60) (q := (-1, 3)) rfl (by decide)
      · rw [e2]; exact ml_fr hf (ml_rw (by decide) (by decide))
      · rw [e2, en_up_ne _ _ _ _ (by omega), hz]
theorem mx_read26Wq {S : sm_C} {d : Nat} {Φ : sm_Z → Prop} {w0 : sm_W} {L : sm_L} {R : sm_R} (hΦ : ∀ (r : Int32) (I : sm_I) (L : sm_L) (R : sm_R), 0 ≤ r.toInt → r.toInt ≤ 5 → en_mem ml_tb3 (mlW c48) (xLay, I, L, R) → en_fr ml_RW w0 (xLay, I, L, R) → I 107 2 = 0 → Φ (some (.int r), (xLay, I, L, kM R))) : ∀ (m : Nat) (I : sm_I) (x1 : Int32), en_mem ml_tb3 (mlW c48) (xLay, I, L, R) → en_fr ml_RW w0 (xLay, I, L, R) → I 107 2 = 0 → 0 ≤ x1.toInt → x1.toInt ≤ 10 → 10 - x1.toInt < m → sm_wp sm_P S (d + 1) 182 26 [.ref 107, .int x1] [] (xLay, I, L, kM R) (0, 0) Φ := by
  intro m
  induction m with
  | zero => intro I x1 hm hf hz h0 h1 hM; omega
  | succ m ih =>
    intro I x1 hm hf hz h0 h1 hM
    refine u_X12_read_26 ⟨fun _ => mx_read29Wq hΦ 61 I 0 hm hf hz (by decide) (by decide) (by decide), fun a => ?_⟩
    have a := kl_nle a
    rw [(by decide : (10 : Int32).toInt = 10)] at a
    have s1 := ml_in1 (x := x1) (by omega)
    refine ⟨kl_in h0 (by omega), fun I1 e1 => ⟨kl_in h0 (by omega), fun I2 e2 => ih I2 _ ?_ ?_ ?_ (by omega) (by omega) (by omega)⟩⟩
    · rw [e2, e1]
      exact ml_we2Wq (ml_we2Wq hm rfl (n := 10) (q := (0, 1)) rfl (ml_boo 0)) rfl (n := 10) (q := (-1, 1440)) rfl (by decide)
    · rw [e2, e1]; exact ml_fr (ml_fr hf (ml_rw (by decide) (by decide))) (ml_rw (by decide) (by decide))
    · rw [e2, en_up_ne _ _ _ _ (by omega), e1, en_up_ne _ _ _ _ (by omega), hz]
theorem mx_read21Wq {S : sm_C} {d : Nat} {Φ : sm_Z → Prop} {w0 : sm_W} {I : sm_I} {L : sm_L} {R : sm_R} {s1 : Int32} {l s : Nat} (hls : ml_ls l s) (hT : ml_TI l s I) (b1 : -1 ≤ s1.toInt ∧ s1.toInt ≤ 2000) (hm : en_mem ml_tb3 (mlW c48) (xLay, I, L, R)) (hf : en_fr ml_RW w0 (xLay, I, L, R)) (hz : I 107 2 = 0) (hΦ : ∀ (r : Int32) (I : sm_I) (L : sm_L) (R : sm_R), 0 ≤ r.toInt → r.toInt ≤ 5 → en_mem ml_tb3 (mlW c48) (xLay, I, L, R) → en_fr ml_RW w0 (xLay, I, L, R) → I 107 2 = 0 → Φ (some (.int r), (xLay, I, L, kM R))) : sm_wp sm_P S (d + 1) 182 21 [.ref 107] [.int s1, .ref 107] (xLay, I, L, kM R) (0, 0) Φ := by
  obtain ⟨hl, hs⟩ := ml_l1 hls
  have m1 : en_mem ml_tb3 (mlW c48) (xLay, sm_up I 107 17 s1, L, R) := ml_wfWq hm (by decide +kernel) (q := (-1, 2000)) (by decide +kernel) b1
  have f1 : en_fr ml_RW w0 (xLay, sm_up I 107 17 s1, L, R) := ml_fr hf (by decide +kernel)
  have z1 : sm_up I 107 17 s1 107 2 = 0 := by rw [en_up_ne _ _ _ _ (by omega)]; exact hz
  have b15 : 0 ≤ (sm_up I 107 17 s1 107 15).toInt ∧ (sm_up I 107 17 s1 107 15).toInt ≤ 5 := m1.2.1 107 15 (0, 5) (by decide +kernel)
  have b13 : 0 ≤ (sm_up I 107 17 s1 107 13).toInt ∧ (sm_up I 107 17 s1 107 13).toInt ≤ 5 := m1.2.1 107 13 (0, 5) (by decide +kernel)
  refine u_X12_read_21 ⟨fun _ => ⟨fun c => fun I1 e1 => ?_, fun _ => hΦ _ _ L R b15.1 b15.2 m1 f1 z1⟩, fun _ => hΦ _ _ L R b13.1 b13.2 m1 f1 z1⟩
  have c15 : I 107 15 = 0 := by
    have c := kl_le.mp c
    rw [kl_0] at c
    have e : sm_up I 107 17 s1 107 15 = I 107 15 := en_up_ne _ _ _ _ (by omega)
    rw [e] at c b15
    exact en_ofI (by rw [kl_0]; omega)
  have e19 : sm_up I 107 17 s1 107 19 = I 107 19 := en_up_ne _ _ _ _ (by omega)
  rw [e19] at e1
  have o1 : ∀ p j, ¬ (p = 107 ∧ (j = 17 ∨ j = 18)) → I1 p j = I p j := fun p j hp => by rw [e1, en_up_ne _ _ _ _ (by omega), en_up_ne _ _ _ _ (by omega)]
  have g18 : I1 107 18 = I 107 19 := by rw [e1, en_up_eq]
  have mI : en_mem ml_tb3 (mlW c48) (xLay, I1, L, R) := by
    have X := hm.2.2.2.2
    have hX : (mlW c48) (xLay, I1, L, R) := by
      refine ⟨rfl, fun k hk => ?_, fun k hk => ?_, mlP_cg (fun j => o1 165 j (by omega)) X.2.2.2.1, mlN_cg (fun j => o1 116 j (by omega)) (fun j => o1 117 j (by omega)) X.2.2.2.2.1, X.2.2.2.2.2⟩
      · show (I1 148 k).toInt ≤ 54 ∨ 60 ≤ (I1 148 k).toInt
        rw [o1 148 k (by omega)]; exact X.2.1 k hk
      · have hk : (k : Int) = (I1 107 18).toInt := hk
        rw [g18, hT.2.1] at hk
        have hk : k = s := by omega
        subst hk
        exact mlV_cg (fun p hp j => o1 p j (by omega)) (hT.2.2.2 c15)
    rw [e1] at hX ⊢
    refine ml_wrWq m1 hX (fun q hq => ?_)
    have e : en_int ml_tb3 107 18 = some (0, 1) := by decide +kernel
    rw [e] at hq
    rw [← Option.some.inj hq]
    show 0 ≤ (I 107 19).toInt ∧ (I 107 19).toInt ≤ 1
    have := hT.2.1
    omega
  exact mx_read26Wq hΦ 11 I1 0 mI (by rw [e1]; exact ml_fr f1 (by decide +kernel)) (by rw [o1 _ _ (by omega)]; exact hz) (by decide) (by decide) (by decide)
theorem mx_read13Wq {S : sm_C} {d : Nat} {Φ : sm_Z → Prop} {w0 : sm_W} {R : sm_R} {l s : Nat} (hls : ml_ls l s) (hΦ : ∀ (r : Int32) (I : sm_I) (L : sm_L) (R : sm_R), 0 ≤ r.toInt → r.toInt ≤ 5 → en_mem ml_tb3 (mlW c48) (xLay, I, L, R) → en_fr ml_RW w0 (xLay, I, L, R) → I 107 2 = 0 → Φ (some (.int r), (xLay, I, L, kM R))) : ∀ (m : Nat) (I : sm_I) (L : sm_L), ml_TI l s I → en_mem ml_tb3 (mlW c48) (xLay, I, L, R) → en_fr ml_RW w0 (xLay, I, L, R) → I 107 2 = 0 → (I 107 13 = 0 → 500 - (I 107 11).toInt < m) → sm_wp sm_P S (d + 8) 182 13 [.ref 107] [] (xLay, I, L, kM R) (0, 0) Φ := by
  have out : ∀ (I : sm_I) (L : sm_L), ml_TI l s I → en_mem ml_tb3 (mlW c48) (xLay, I, L, R) → en_fr ml_RW w0 (xLay, I, L, R) → I 107 2 = 0 → (((I 107 13) ≤ 0 → (((I 107 15) ≤ 0 → sm_wp sm_P S (d + 8) 182 21 [.ref 107] [.int (-1 : Int32), .ref 107] (xLay, I, L, (kM R)) (0, 0) Φ) ∧ (¬ (I 107 15) ≤ 0 → sm_wp sm_P S (d + 8) 182 21 [.ref 107] [.int (I 107 16), .ref 107] (xLay, I, L, (kM R)) (0, 0) Φ))) ∧ (¬ (I 107 13) ≤ 0 → sm_wp sm_P S (d + 8) 182 21 [.ref 107] [.int (I 107 14), .ref 107] (xLay, I, L, (kM R)) (0, 0) Φ)) := by
    intro I L hT hm hf hz
    have b16 : 0 ≤ (I 107 16).toInt ∧ (I 107 16).toInt ≤ 2000 := hm.2.1 107 16 (0, 2000) (by decide +kernel)
    have b14 : 0 ≤ (I 107 14).toInt ∧ (I 107 14).toInt ≤ 2000 := hm.2.1 107 14 (0, 2000) (by decide +kernel)
    exact ⟨fun _ => ⟨fun _ => mx_read21Wq hls hT (by decide) hm hf hz hΦ, fun _ => mx_read21Wq hls hT (by omega) hm hf hz hΦ⟩, fun _ => mx_read21Wq hls hT (by omega) hm hf hz hΦ⟩
  intro m
  induction m with
  | zero =>
    intro I L hT hm hf hz hM
    refine u_X12_read_13 ⟨fun c => ?_, fun _ => out I L hT hm hf hz⟩
    have := hM c
    have bt : 0 ≤ (I 107 11).toInt ∧ (I 107 11).toInt ≤ 500 := ml_tWq hm
    omega
  | succ m ih =>
    intro I L hT hm hf hz hM
    refine u_X12_read_13 ⟨fun c => mx_isWq hm (fun r _ _ => ⟨r, I, L, R, rfl, fun _ => mx_tellWq hls hm hT (fun J L' o => ⟨J, L', R, rfl, ?_⟩), fun _ => out I L hT hm hf hz⟩), fun _ => out I L hT hm hf hz⟩
    have M := hM c
    obtain ⟨mJ, pJ, TJ, gJ⟩ := o
    refine ih J L' TJ mJ (ml_frD hf pJ) ?_ (fun cJ => ?_)
    · rw [pJ.1 107 2 (by unfold ml_Dl; omega) (by omega)]; exact hz
    · rcases gJ with g | g
      · exact absurd cJ g
      · omega
theorem mx_read11Wq {S : sm_C} {d : Nat} {Φ : sm_Z → Prop} {w0 : sm_W} {L : sm_L} {R : sm_R} {l s : Nat} (hls : ml_ls l s) (hΦ : ∀ (r : Int32) (I : sm_I) (L : sm_L) (R : sm_R), 0 ≤ r.toInt → r.toInt ≤ 5 → en_mem ml_tb3 (mlW c48) (xLay, I, L, R) → en_fr ml_RW w0 (xLay, I, L, R) → I 107 2 = 0 → Φ (some (.int r), (xLay, I, L, kM R))) : ∀ (m : Nat) (I : sm_I) (x1 : Int32), ml_TI l s I → en_mem ml_tb3 (mlW c48) (xLay, I, L, R) → en_fr ml_RW w0 (xLay, I, L, R) → I 107 2 = 0 → 0 ≤ x1.toInt → x1.toInt ≤ 10 → 10 - x1.toInt < m → sm_wp sm_P S (d + 8) 182 11 [.ref 107, .int x1] [] (xLay, I, L, kM R) (0, 0) Φ := by
  obtain ⟨hl, hs⟩ := ml_l1 hls
  intro m
  induction m with
  | zero => intro I x1 hT hm hf hz h0 h1 hM; omega
  | succ m ih =>
    intro I x1 hT hm hf hz h0 h1 hM
    have bt : 0 ≤ (I 107 11).toInt ∧ (I 107 11).toInt ≤ 500 := ml_tWq hm
    refine u_X12_read_11 ⟨fun _ => mx_read13Wq hls hΦ 501 I L hT hm hf hz (fun _ => by omega), fun a n1 e1 => ?_⟩
    have a := kl_nle a
    rw [(by decide : (10 : Int32).toInt = 10)] at a
    have s1 := ml_in1 (x := x1) (by omega)
    have q1 : ((10 : Int32) * (I 107 19)).toInt = 10 * (s : Int) := ml_mu (by decide) hT.2.1 (by omega) (by omega)
    have q2 : n1.toInt = 10 * (s : Int) + x1.toInt := by rw [e1]; exact ml_ad q1 rfl (by omega) (by omega)
    refine ⟨kl_in (by omega) (by omega), fun I2 e2 => ?_⟩
    have nn0 := kl_nat (i := n1) (by omega)
    have hls0 := hls
    unfold ml_ls at hls0
    have w := ml_w0Wq (L := L) (R := R) (l := l) (p := 135) (j := n1.toNatClampNeg) (x := -1) (n := 20) (q := (-1, 247)) hl hT.1 (by unfold ml_D0 ml_hm; omega) hm rfl (by decide)
    rw [← e2] at w
    exact ih I2 _ (ml_TI_0Wq hls hm w.2 hT) w.1 (by rw [e2]; exact ml_fr hf (ml_rw (by decide) (by decide))) (by rw [e2, en_up_ne _ _ _ _ (by omega)]; exact hz) (by omega) (by omega) (by omega)
theorem mx_read5Wq {S : sm_C} {d : Nat} {Φ : sm_Z → Prop} {w0 : sm_W} {L : sm_L} {R : sm_R} {l s : Nat} (hls : ml_ls l s) (hΦ : ∀ (r : Int32) (I : sm_I) (L : sm_L) (R : sm_R), 0 ≤ r.toInt → r.toInt ≤ 5 → en_mem ml_tb3 (mlW c48) (xLay, I, L, R) → en_fr ml_RW w0 (xLay, I, L, R) → I 107 2 = 0 → Φ (some (.int r), (xLay, I, L, kM R))) : ∀ (m : Nat) (I : sm_I) (x1 : Int32), ml_TI l s I → en_mem ml_tb3 (mlW c48) (xLay, I, L, R) → en_fr ml_RW w0 (xLay, I, L, R) → I 107 2 = 0 → 0 ≤ x1.toInt → x1.toInt ≤ 36 → 36 - x1.toInt < m → sm_wp sm_P S (d + 8) 182 5 [.ref 107, .int x1] [] (xLay, I, L, kM R) (0, 0) Φ := by
  obtain ⟨hl, hs⟩ := ml_l1 hls
  intro m
  induction m with
  | zero => intro I x1 hT hm hf hz h0 h1 hM; omega
  | succ m ih =>
    intro I x1 hT hm hf hz h0 h1 hM
    have s1 := ml_in1 (x := x1) (by omega)
    have w : ∀ v : Int32, x1.toInt < 36 → ∀ n3 : Int32, n3 = (((36 : Int32) * (I 107 19)) + x1) → (vp_in n3 72) ∧ ∀ I4 : sm_I, I4 = (sm_up I 121 n3.toNatClampNeg v) → sm_wp sm_P S (d + 8) 182 5 [.ref 107, .int (x1 + (1 : Int32))] [] (xLay, I4, L, (kM R)) (0, 0) Φ := by
      intro v a n3 e3
      have q1 : ((36 : Int32) * (I 107 19)).toInt = 36 * (s : Int) := ml_mu (by decide) hT.2.1 (by omega) (by omega)
      have q2 : n3.toInt = 36 * (s : Int) + x1.toInt := by rw [e3]; exact ml_ad q1 rfl (by omega) (by omega)
      refine ⟨kl_in (by omega) (by omega), fun I2 e2 => ?_⟩
      have nn0 := kl_nat (i := n3) (by omega)
      have hls0 := hls
      unfold ml_ls at hls0
      have w := ml_w0Wq (L := L) (R := R) (l := l) (p := 121) (j := n3.toNatClampNeg) (x := v) (n := 72) (q := (-2147483648, 2147483647)) hl hT.1 (by unfold ml_D0 ml_hm; omega) hm rfl en_crange
      rw [← e2] at w
      exact ih I2 _ (ml_TI_0Wq hls hm w.2 hT) w.1 (by rw [e2]; exact ml_fr hf (ml_rw (by decide) (by decide))) (by rw [e2, en_up_ne _ _ _ _ (by omega)]; exact hz) (by omega) (by omega) (by omega)
    refine u_X12_read_5 ⟨fun _ => mx_read11Wq hls hΦ 11 I 0 hT hm hf hz (by decide) (by decide) (by decide), fun a => ?_⟩
    have a := kl_nle a
    rw [(by decide : (36 : Int32).toInt = 36)] at a
    exact ⟨by decide, fun _ => w _ a, fun _ => w _ a⟩
theorem ml_z0Wq {I : sm_I} {L : sm_L} {R : sm_R} {w0 : sm_W} {l s p : Nat} (hls : ml_ls l s) (hv : (I 107 18).toInt = l) (hp : p = 118 ∨ p = 119 ∨ p = 120 ∨ p = 122 ∨ p = 125 ∨ p = 134 ∨ p = 136) (hm : en_mem ml_tb3 (mlW c48) (xLay, I, L, R)) (hf : en_fr ml_RW w0 (xLay, I, L, R)) : en_mem ml_tb3 (mlW c48) (xLay, sm_up I p s 0, L, R) ∧ en_fr ml_RW w0 (xLay, sm_up I p s 0, L, R) := by
  obtain ⟨hl, hs⟩ := ml_l1 hls
  unfold ml_ls at hls
  refine ⟨ml_wtWq (l := l) hl hv ⟨by omega, by omega, by unfold ml_hl; omega⟩ (by omega) hm (fun q hq => ?_), ml_fr hf (ml_rw (by omega) (by omega))⟩
  rw [kl_0]
  rcases hp with e | e | e | e | e | e | e <;> subst e <;> rcases hls with ⟨-, e⟩ | ⟨-, e⟩ <;> subst e
  all_goals
    first
    | (rw [show en_int ml_tb3 118 _ = some (0, 4) from rfl] at hq; rw [← Option.some.inj hq]; decide)
    | (rw [show en_int ml_tb3 119 _ = some (0, 6) from rfl] at hq; rw [← Option.some.inj hq]; decide)
    | (rw [show en_int ml_tb3 120 _ = some (0, 12) from rfl] at hq; rw [← Option.some.inj hq]; decide)
    | (rw [show en_int ml_tb3 122 _ = some (0, 10) from rfl] at hq; rw [← Option.some.inj hq]; decide)
    | (rw [show en_int ml_tb3 125 _ = some (0, 10) from rfl] at hq; rw [← Option.some.inj hq]; decide)
    | (rw [show en_int ml_tb3 134 _ = some (0, 4) from rfl] at hq; rw [← Option.some.inj hq]; decide)
    | (rw [show en_int ml_tb3 136 _ = some (0, 5) from rfl] at hq; rw [← Option.some.inj hq]; decide)
theorem mx_read1Wq {S : sm_C} {d : Nat} {Φ : sm_Z → Prop} {w0 : sm_W} {L : sm_L} {R : sm_R} (hΦ : ∀ (r : Int32) (I : sm_I) (L : sm_L) (R : sm_R), 0 ≤ r.toInt → r.toInt ≤ 5 → en_mem ml_tb3 (mlW c48) (xLay, I, L, R) → en_fr ml_RW w0 (xLay, I, L, R) → I 107 2 = 0 → Φ (some (.int r), (xLay, I, L, kM R))) : ∀ (m : Nat) (I : sm_I) (x1 : Int32), en_mem ml_tb3 (mlW c48) (xLay, I, L, R) → en_fr ml_RW w0 (xLay, I, L, R) → 0 ≤ x1.toInt → x1.toInt ≤ 2000 → 2000 - x1.toInt < m → sm_wp sm_P S (d + 8) 182 1 [.ref 107, .int x1] [] (xLay, I, L, kM R) (0, 0) Φ := by
  intro m
  induction m with
  | zero => intro I x1 hm hf h0 h1 hM; omega
  | succ m ih =>
    intro I x1 hm hf h0 h1 hM
    have bs := ml_szWq hm
    refine u_X12_read_1 ⟨fun _ => ?_, fun a => ?_⟩
    · refine mx_cutWq (ml_wfWq hm (by decide +kernel) (q := (0, 2000)) (by decide +kernel) (by decide)) (fun I1 L1 m1 c1 => ⟨I1, L1, R, rfl, fun I5 e5 I6 e6 I7 e7 I8 e8 I9 e9 => ?_⟩)
      have hf0 : en_fr ml_RW w0 (xLay, sm_up I 107 2 0, L, R) := ml_fr hf (by decide +kernel)
      have hf1 : en_fr ml_RW w0 (xLay, I1, L1, R) := ml_fro hf0 (fun p j hw => c1 p j (fun c => by
        unfold ml_Dc at c
        rcases c with ⟨a, b⟩ | c | c | c
        · rw [a, b] at hw; exact absurd hw (by decide +kernel)
        · rw [ml_rw (by omega) (by omega)] at hw; cases hw
        · rw [ml_rw (by omega) (by omega)] at hw; cases hw
        · rw [ml_rw (by omega) (by omega)] at hw; cases hw))
      have z1 : I1 107 2 = 0 := by rw [c1 107 2 (by unfold ml_Dc; omega), en_up_eq]
      have m5 : en_mem ml_tb3 (mlW c48) (xLay, I5, L1, R) := by rw [e5]; exact ml_wfWq m1 (by decide +kernel) (q := (0, 500)) (by decide +kernel) (by decide)
      have m6 : en_mem ml_tb3 (mlW c48) (xLay, I6, L1, R) := by rw [e6]; exact ml_wfWq m5 (by decide +kernel) (q := (0, 5)) (by decide +kernel) (by decide)
      have m7 : en_mem ml_tb3 (mlW c48) (xLay, I7, L1, R) := by rw [e7]; exact ml_wfWq m6 (by decide +kernel) (q := (0, 5)) (by decide +kernel) (by decide)
      obtain ⟨l0, l1, ln, lc⟩ := ml_liveWq m7
      have l0 : 0 ≤ (I7 107 18).toInt := l0
      have l1 : (I7 107 18).toInt ≤ 1 := l1
      have ln : ((I7 107 18).toNatClampNeg : Int) = (I7 107 18).toInt := ln
      have s19 : ((1 : Int32) - I7 107 18).toInt = 1 - (I7 107 18).toInt := by
        rw [Int32.toInt_sub, kl_1]; exact en_bmod (by omega) (by omega) (Or.inl rfl)
      have m8 : en_mem ml_tb3 (mlW c48) (xLay, I8, L1, R) := by rw [e8]; exact ml_wfWq m7 (by decide +kernel) (q := (0, 1)) (by decide +kernel) (by show 0 ≤ _ ∧ _ ≤ (1 : Int); omega)
      have m9 : en_mem ml_tb3 (mlW c48) (xLay, I9, L1, R) := by rw [e9]; exact ml_wfWq m8 (by decide +kernel) (q := (0, 50)) (by decide +kernel) (by decide)
      have f9 : en_fr ml_RW w0 (xLay, I9, L1, R) := by
        rw [e9, e8, e7, e6, e5]
        exact ml_fr (ml_fr (ml_fr (ml_fr (ml_fr hf1 (by decide +kernel)) (by decide +kernel)) (by decide +kernel)) (by decide +kernel)) (by decide +kernel)
      have g19 : (I9 107 19).toInt = 1 - (I7 107 18).toInt := by rw [e9, en_up_ne _ _ _ _ (by omega), e8, en_up_eq]; exact s19
      have g18 : (I9 107 18).toInt = (I7 107 18).toInt := by rw [e9, en_up_ne _ _ _ _ (by omega), e8, en_up_ne _ _ _ _ (by omega)]
      have z9 : I9 107 2 = 0 := by rw [e9, en_up_ne _ _ _ _ (by omega), e8, en_up_ne _ _ _ _ (by omega), e7, en_up_ne _ _ _ _ (by omega), e6, en_up_ne _ _ _ _ (by omega), e5, en_up_ne _ _ _ _ (by omega), z1]
      have n20 : I9 107 20 = 0 := by rw [e9, en_up_eq]
      obtain ⟨l, s, hls, hl, hs⟩ : ∃ l s : Nat, ml_ls l s ∧ (I9 107 18).toInt = l ∧ (I9 107 19).toInt = s := by
        rcases (by omega : (I7 107 18).toInt = 0 ∨ (I7 107 18).toInt = 1) with c | c
        · exact ⟨0, 1, Or.inl ⟨rfl, rfl⟩, by rw [g18, c]; rfl, by rw [g19, c]; rfl⟩
        · exact ⟨1, 0, Or.inr ⟨rfl, rfl⟩, by rw [g18, c]; rfl, by rw [g19, c]; rfl⟩
      have ns := kl_nat (i := I9 107 19) (by omega)
      have sn : (I9 107 19).toNatClampNeg = s := by omega
      have sv : vp_in (I9 107 19) 2 := kl_in (by omega) (by omega)
      clear s19 g18 g19 l0 l1 ln lc m5 m6 m7 m8 e5 e6 e7 e8 e9
      have st : ∀ (J : sm_I), (∀ p j, ¬ ((p = 118 ∨ p = 119 ∨ p = 120 ∨ p = 122 ∨ p = 125 ∨ p = 134 ∨ p = 136) ∧ j = s) → J p j = I9 p j) → J 107 19 = I9 107 19 ∧ (J 107 18).toInt = l := fun J o => ⟨o 107 19 (by omega), by rw [o 107 18 (by omega)]; exact hl⟩
      refine ⟨sv, fun I10 e10 => ?_⟩
      rw [sn] at e10
      have o10 : ∀ p j, ¬ ((p = 118 ∨ p = 119 ∨ p = 120 ∨ p = 122 ∨ p = 125 ∨ p = 134 ∨ p = 136) ∧ j = s) → I10 p j = I9 p j := fun p j hp => by rw [e10, en_up_ne _ _ _ _ (by omega)]
      have k10 := ml_z0Wq (p := 118) hls hl (by omega) m9 f9
      rw [← e10] at k10
      rw [(st I10 o10).1]
      refine ⟨sv, fun I11 e11 => ?_⟩
      rw [sn] at e11
      have o11 : ∀ p j, ¬ ((p = 118 ∨ p = 119 ∨ p = 120 ∨ p = 122 ∨ p = 125 ∨ p = 134 ∨ p = 136) ∧ j = s) → I11 p j = I9 p j := fun p j hp => by rw [e11, en_up_ne _ _ _ _ (by omega), o10 p j hp]
      have k11 := ml_z0Wq (p := 119) hls (st I10 o10).2 (by omega) k10.1 k10.2
      rw [← e11] at k11
      rw [(st I11 o11).1]
      refine ⟨sv, fun I12 e12 => ?_⟩
      rw [sn] at e12
      have o12 : ∀ p j, ¬ ((p = 118 ∨ p = 119 ∨ p = 120 ∨ p = 122 ∨ p = 125 ∨ p = 134 ∨ p = 136) ∧ j = s) → I12 p j = I9 p j := fun p j hp => by rw [e12, en_up_ne _ _ _ _ (by omega), o11 p j hp]
      have k12 := ml_z0Wq (p := 120) hls (st I11 o11).2 (by omega) k11.1 k11.2
      rw [← e12] at k12
      rw [(st I12 o12).1]
      refine ⟨sv, fun I13 e13 => ?_⟩
      rw [sn] at e13
      have o13 : ∀ p j, ¬ ((p = 118 ∨ p = 119 ∨ p = 120 ∨ p = 122 ∨ p = 125 ∨ p = 134 ∨ p = 136) ∧ j = s) → I13 p j = I9 p j := fun p j hp => by rw [e13, en_up_ne _ _ _ _ (by omega), o12 p j hp]
      have k13 := ml_z0Wq (p := 122) hls (st I12 o12).2 (by omega) k12.1 k12.2
      rw [← e13] at k13
      rw [(st I13 o13).1]
      refine ⟨sv, fun I14 e14 => ?_⟩
      rw [sn] at e14
      have o14 : ∀ p j, ¬ ((p = 118 ∨ p = 119 ∨ p = 120 ∨ p = 122 ∨ p = 125 ∨ p = 134 ∨ p = 136) ∧ j = s) → I14 p j = I9 p j := fun p j hp => by rw [e14, en_up_ne _ _ _ _ (by omega), o13 p j hp]
      have k14 := ml_z0Wq (p := 125) hls (st I13 o13).2 (by omega) k13.1 k13.2
      rw [← e14] at k14
      rw [(st I14 o14).1]
      refine ⟨sv, fun I15 e15 => ?_⟩
      rw [sn] at e15
      have o15 : ∀ p j, ¬ ((p = 118 ∨ p = 119 ∨ p = 120 ∨ p = 122 ∨ p = 125 ∨ p = 134 ∨ p = 136) ∧ j = s) → I15 p j = I9 p j := fun p j hp => by rw [e15, en_up_ne _ _ _ _ (by omega), o14 p j hp]
      have k15 := ml_z0Wq (p := 134) hls (st I14 o14).2 (by omega) k14.1 k14.2
      rw [← e15] at k15
      rw [(st I15 o15).1]
      refine ⟨sv, fun I16 e16 => ?_⟩
      rw [sn] at e16
      have o16 : ∀ p j, ¬ ((p = 118 ∨ p = 119 ∨ p = 120 ∨ p = 122 ∨ p = 125 ∨ p = 134 ∨ p = 136) ∧ j = s) → I16 p j = I9 p j := fun p j hp => by rw [e16, en_up_ne _ _ _ _ (by omega), o15 p j hp]
      have k16 := ml_z0Wq (p := 136) hls (st I15 o15).2 (by omega) k15.1 k15.2
      rw [← e16] at k16
      have z122 : I16 122 s = 0 := by rw [e16, en_up_ne _ _ _ _ (by omega), e15, en_up_ne _ _ _ _ (by omega), e14, en_up_ne _ _ _ _ (by omega), e13, en_up_eq]
      have z125 : I16 125 s = 0 := by rw [e16, en_up_ne _ _ _ _ (by omega), e15, en_up_ne _ _ _ _ (by omega), e14, en_up_eq]
      have T16 : ml_TI l s I16 := by
        have b := ml_csWq (ml_l1 hls).2 k16.1
        refine ⟨(st I16 o16).2, by rw [(st I16 o16).1]; exact hs, ?_, fun _ => ⟨fun i hi => ?_, fun k c i hk => ?_⟩⟩
        · rw [o16 107 20 (by omega), n20, kl_0]
          unfold ml_sum
          omega
        · rw [z122, kl_0] at hi; omega
        · rw [z125, kl_0] at hk; omega
      exact mx_read5Wq hls hΦ 37 I16 0 T16 k16.1 k16.2 (by rw [o16 107 2 (by omega), z9]) (by decide) (by decide) (by decide)
    · have a := kl_nle a
      have s1 := ml_in1 (x := x1) (by omega)
      have v : vp_in x1 2000 := kl_in h0 (by omega)
      refine ⟨v, v, fun I18 e18 => ih I18 _ ?_ ?_ (by omega) (by omega) (by omega)⟩
      · rw [e18]
        exact ml_we2Wq hm rfl (n := 2000) (q := (-128, 127)) rfl (ml_byte _)
      · rw [e18]; exact ml_fr hf (ml_rw (by decide) (by decide))
theorem mx_readWq {S : sm_C} {d : Nat} {Φ : sm_Z → Prop} {I : sm_I} {L : sm_L} {R : sm_R} (hm : en_mem ml_tb3 (mlW c48) (xLay, I, L, R)) (hΦ : ∀ (r : Int32) (J : sm_I) (L' : sm_L) (R' : sm_R), 0 ≤ r.toInt → r.toInt ≤ 5 → en_mem ml_tb3 (mlW c48) (xLay, J, L', R') → en_fr ml_RW (xLay, I, L, R) (xLay, J, L', R') → J 107 2 = 0 → Φ (some (.int r), (xLay, J, L', kM R'))) : sm_wp sm_P S (d + 8) 182 0 [.ref 107] [] (xLay, I, L, kM R) (0, 0) Φ := by
  have b : 0 ≤ (I 107 2).toInt ∧ (I 107 2).toInt ≤ 2000 := ml_tapedWq hm
  refine u_X12_read_0 (mx_read1Wq hΦ 2001 _ 0 (ml_wfWq hm (by decide +kernel) (q := (0, 2000)) (by decide +kernel) b) (ml_fr en_fr_rf (by decide +kernel)) (by decide) (by decide) (by decide))
end
end
section
/-! THE LAW: what each call keeps of its invariant (base2's 98y from lw_I on) -/
def lw_I (I : sm_I) (L : sm_L) (R : sm_R) : Prop := en_mem kl_tb klX (xLay, I, L, R) ∧ en_mem ml_tb mlX (xLay, I, L, R) ∧ LJ I R
theorem lw_ml0 : ∀ p, p < 107 → (en_tg ml_tb.2.1 p).2.2 = [] := by decide +kernel
theorem lw_cell {tb : en_Tb} {p : Nat} {d : en_D} (h : en_cell tb p = some d) : p < tb.1 ∧ d = en_tg tb.2.1 p := by
  unfold en_cell at h
  cases c : Nat.blt p tb.1 with
  | false => rw [c] at h; cases h
  | true => rw [c] at h; exact ⟨Nat.le_of_ble_eq_true c, (Option.some.inj h).symm⟩
theorem lw_int0 {p j : Nat} {q : Int × Int} (h : en_int ml_tb p j = some q) : 107 ≤ p := by
  rcases Nat.lt_or_ge p 107 with c | c
  · exfalso
    unfold en_int at h
    split at h
    · next d hd =>
      have e := (lw_cell hd).2
      have z := lw_ml0 p c
      rw [← e] at z
      rw [z] at h
      cases k : Nat.beq d.1 0 with
      | true => rw [k] at h; cases h
      | false =>
        rw [k] at h
        have h : (bif Nat.blt j d.2.1 then en_fiv none else none) = some q := h
        cases k2 : Nat.blt j d.2.1 with
        | true => rw [k2] at h; cases h
        | false => rw [k2] at h; cases h
    · cases h
  · exact c
theorem lw_ref0 {p j : Nat} (h : en_refs ml_tb p j ≠ []) : 107 ≤ p := by
  rcases Nat.lt_or_ge p 107 with c | c
  · exfalso
    unfold en_refs at h
    split at h
    · next d hd =>
      have e := (lw_cell hd).2
      have z := lw_ml0 p c
      rw [← e] at z
      rw [z] at h
      cases k : Nat.beq d.1 0 with
      | true => rw [k] at h; exact h rfl
      | false => rw [k] at h; exact h rfl
    · exact h rfl
  · exact c
theorem lw_mk {I I' : sm_I} {L L' : sm_L} {R R' : sm_R} (pk : pk_ok L') (hm : en_mem ml_tb mlX (xLay, I, L, R)) (o : ∀ p j, 107 ≤ p → I' p j = I p j ∧ R' p j = R p j) : en_mem ml_tb mlX (xLay, I', L', R') := by
  have X : mlX (xLay, I', L, R) := ml_cg (o 107 18 (by omega)).1 (fun p hp j => (o p j (by omega)).1) hm.2.2.2.2
  refine ⟨hm.1, fun p j q hq => ?_, fun p j hq => ?_, hm.2.2.2.1, X.1, X.2.1, X.2.2.1, X.2.2.2.1, X.2.2.2.2.1, pk⟩
  · show q.1 ≤ (I' p j).toInt ∧ (I' p j).toInt ≤ q.2
    rw [(o p j (lw_int0 hq)).1]; exact hm.2.1 p j q hq
  · obtain ⟨r, h1, h2⟩ := hm.2.2.1 p j hq
    exact ⟨r, h1, by show R' p j = some r; rw [(o p j (lw_ref0 hq)).2]; exact h2⟩
theorem lw_kk {I I' : sm_I} {L L' : sm_L} {R R' : sm_R} (pk : pk_ok L') (hm : en_mem kl_tb klX (xLay, I, L, R)) (o : ∀ p j, p < 107 → I' p j = I p j ∧ R' p j = R p j) : en_mem kl_tb klX (xLay, I', L', R') := by
  have low : ∀ {p : Nat} {d : en_D}, en_cell kl_tb p = some d → p < 107 := fun h => (lw_cell h).1
  refine ⟨hm.1, fun p j q hq => ?_, fun p j hq => ?_, hm.2.2.2.1, ?_⟩
  · have hp : p < 107 := by
      unfold en_int at hq
      split at hq
      · next d hd => exact low hd
      · cases hq
    show q.1 ≤ (I' p j).toInt ∧ (I' p j).toInt ≤ q.2
    rw [(o p j hp).1]; exact hm.2.1 p j q hq
  · have hp : p < 107 := by
      unfold en_refs at hq
      split at hq
      · next d hd => exact low hd
      · exact absurd rfl hq
    obtain ⟨r, h1, h2⟩ := hm.2.2.1 p j hq
    exact ⟨r, h1, by show R' p j = some r; rw [(o p j hp).2]; exact h2⟩
  · have X := hm.2.2.2.2
    exact ⟨rfl, kl_net_cg (I := I) (o 75 4 (by decide)).1 (o 75 5 (by decide)).1 (fun i => (o 77 i (by decide)).1) X.2.1, kl_net_cg (I := I) (o 83 4 (by decide)).1 (o 83 5 (by decide)).1 (fun i => (o 85 i (by decide)).1) X.2.2.1, kl_net_cg (I := I) (o 91 4 (by decide)).1 (o 91 5 (by decide)).1 (fun i => (o 93 i (by decide)).1) X.2.2.2.1, pk⟩
theorem lw_lo {W : en_W} (h : W.all (fun q => Nat.blt q.1 107) = true) {p j : Nat} (hp : 107 ≤ p) : en_wok W p j = false := by
  cases c : en_wok W p j with
  | false => rfl
  | true =>
    obtain ⟨q, g1, g2⟩ := List.any_eq_true.mp c
    have e : q.1 = p := Nat.eq_of_beq_eq_true (Bool.and_eq_true_iff.mp g2).1
    have l : q.1 < 107 := Nat.le_of_ble_eq_true (List.all_eq_true.mp h q g1)
    omega
theorem lw_hi {W : en_W} (h : W.all (fun q => Nat.ble 107 q.1) = true) {p j : Nat} (hp : p < 107) : en_wok W p j = false := by
  cases c : en_wok W p j with
  | false => rfl
  | true =>
    obtain ⟨q, g1, g2⟩ := List.any_eq_true.mp c
    have e : q.1 = p := Nat.eq_of_beq_eq_true (Bool.and_eq_true_iff.mp g2).1
    have l : 107 ≤ q.1 := Nat.le_of_ble_eq_true (List.all_eq_true.mp h q g1)
    omega
theorem lw_pk {I : sm_I} {L : sm_L} {R : sm_R} (h : en_mem kl_tb klX (xLay, I, L, R)) : pk_ok L := h.2.2.2.2.2.2.2.2
theorem lw_pm {I : sm_I} {L : sm_L} {R : sm_R} (h : en_mem ml_tb mlX (xLay, I, L, R)) : pk_ok L := h.2.2.2.2.2.2.2.2.2
theorem lw_pr {lo hi : Int} {o : Option Value} (h : en_pr (0, lo, hi) o) : ∃ r : Int32, o = some (.int r) := by
  cases o with
  | none => have q1 : (0 : Nat) = 9 := h; omega
  | some v =>
    rcases h with q1 | ⟨q1, -⟩
    · cases v with
      | int r => exact ⟨r, rfl⟩
      | long _ => have q1 : (0 : Nat) = 5 := q1; omega
      | null => have q1 : (0 : Nat) = 1 := q1; omega
      | ref p => have q1 : (0 : Nat) = 2 := q1.1; omega
      | float _ => exact q1.elim
      | double _ => exact q1.elim
      | retAddr _ => exact q1.elim
    · have q1 : (0 : Nat) = 3 := q1
      omega
/-- rows that the invariant looks at -/
def lw_rc (p : Nat) : Bool := Nat.beq p 1 || ((Nat.ble 12 p && Nat.blt p 40) || ((Nat.ble 41 p && Nat.ble p 44) || (Nat.ble 49 p && Nat.blt p 74)))
def lw_rm (p : Nat) : Bool := Nat.beq p 108 || ((Nat.ble 118 p && Nat.ble p 142) || ((Nat.ble 144 p && Nat.ble p 147) || Nat.beq p 160))
theorem lw_nr {W : en_W} {f : Nat → Bool} {p j : Nat} (h : W.all (fun q => !(f q.1)) = true) (hp : f p = true) : en_wok W p j = false := by
  cases c : en_wok W p j with
  | false => rfl
  | true =>
    obtain ⟨q, g1, g2⟩ := List.any_eq_true.mp c
    have e : q.1 = p := Nat.eq_of_beq_eq_true (Bool.and_eq_true_iff.mp g2).1
    have l := List.all_eq_true.mp h q g1
    rw [e, hp] at l
    cases l
theorem lw_rc_of {p : Nat} (h : p = 1 ∨ (12 ≤ p ∧ p < 40) ∨ (41 ≤ p ∧ p ≤ 44) ∨ (49 ≤ p ∧ p < 74)) : lw_rc p = true := by
  have d : ∀ p, p < 74 → (p = 1 ∨ (12 ≤ p ∧ p < 40) ∨ (41 ≤ p ∧ p ≤ 44) ∨ (49 ≤ p ∧ p < 74)) → lw_rc p = true := by decide +kernel
  exact d p (by omega) h
theorem lw_rm_of {p : Nat} (h : p = 108 ∨ (118 ≤ p ∧ p ≤ 142) ∨ (144 ≤ p ∧ p ≤ 147) ∨ p = 160) : lw_rm p = true := by
  have d : ∀ p, p < 161 → (p = 108 ∨ (118 ≤ p ∧ p ≤ 142) ∨ (144 ≤ p ∧ p ≤ 147) ∨ p = 160) → lw_rm p = true := by decide +kernel
  exact d p (by omega) h
def lw_ck (c : en_Ct) : Bool := ((Nat.ble c.2.2.2.2.2 59 && c.2.2.1.isEmpty) && c.2.2.2.2.1.all (fun q => Nat.blt q.1 107)) && ((c.2.2.2.2.1.all (fun q => !(lw_rc q.1)) && (!(en_wok c.2.2.2.2.1 0 10) && !(en_wok c.2.2.2.2.1 0 11))) && (!(en_wok c.2.2.2.2.1 0 9) && !(en_wok c.2.2.2.2.1 2 6)))
def lw_cm (c : en_Ct) : Bool := ((Nat.ble c.2.2.2.2.2 59 && c.2.2.1.isEmpty) && c.2.2.2.2.1.all (fun q => Nat.ble 107 q.1)) && (c.2.2.2.2.1.all (fun q => !(lw_rm q.1)) && ((!(en_wok c.2.2.2.2.1 107 2) && !(en_wok c.2.2.2.2.1 107 17)) && (!(en_wok c.2.2.2.2.1 107 18) && (!(en_wok c.2.2.2.2.1 107 46) && !(en_wok c.2.2.2.2.1 107 54)))))
/-- between the class's call and the reference's -/
def MD (X : sm_I → sm_L → sm_R → Int32 → sm_I → sm_L → sm_R → Prop) (r : Int32) (I1 : sm_I) (L1 : sm_L) (R1 : sm_R) : Prop := ∃ (I : sm_I) (L : sm_L) (R : sm_R), lw_I I L R ∧ en_mem kl_tb klX (xLay, I1, L1, R1) ∧ (∀ p j, 107 ≤ p → I1 p j = I p j ∧ R1 p j = R p j) ∧ X I L R r I1 L1 R1
theorem MD_m {X : sm_I → sm_L → sm_R → Int32 → sm_I → sm_L → sm_R → Prop} {I I1 : sm_I} {L L1 : sm_L} {R R1 : sm_R} (h : lw_I I L R) (m : en_mem kl_tb klX (xLay, I1, L1, R1)) (o : ∀ p j, 107 ≤ p → I1 p j = I p j ∧ R1 p j = R p j) : en_mem ml_tb mlX (xLay, I1, L1, R1) := lw_mk (lw_pk m) h.2.1 o
def lw_cK (c : en_Ct) : Bool := (Nat.ble c.2.2.2.2.2 59 && c.2.2.1.isEmpty) && c.2.2.2.2.1.all (fun q => Nat.blt q.1 107)
def lw_cM (c : en_Ct) : Bool := (Nat.ble c.2.2.2.2.2 59 && c.2.2.1.isEmpty) && c.2.2.2.2.1.all (fun q => Nat.ble 107 q.1)
end
