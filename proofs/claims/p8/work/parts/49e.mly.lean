/-! SAYINGS -/
def ml_Ds (l n p j : Nat) : Prop := (p = 128 ∧ j = n) ∨ (p = 129 ∧ 4 * n ≤ j ∧ j < 4 * n + 4) ∨ (p = 130 ∧ 12 * n ≤ j ∧ j < 12 * n + 12) ∨ ml_D0 l p j
theorem ml_TI_s {l s n : Nat} {I J : sm_I} {L : sm_L} {R : sm_R} (hls : ml_ls l s) (hm : en_mem ml_tb mlX (xLay, I, L, R)) (hn : (n : Int) = 10 * (s : Int) + (I 125 s).toInt) (hs9 : (I 125 s).toInt ≤ 9) (h : ml_pS (ml_Ds l n) I J) (hT : ml_TI l s I) : ml_TI l s J := by
  obtain ⟨hl, hs⟩ := ml_l1 hls
  have b := ml_cs hs hm
  have o : ∀ p j, ¬ ml_Ds l n p j → ¬ (p = 107 ∧ (j = 11 ∨ j = 13 ∨ j = 14 ∨ j = 15 ∨ j = 16)) → J p j = I p j := h.1
  unfold ml_Ds ml_D0 ml_hm at o
  have b128 : ∀ k : Nat, (k : Int) < (I 125 s).toInt → 0 ≤ (I 128 (10 * s + k)).toInt ∧ (I 128 (10 * s + k)).toInt ≤ 4 := fun k hk => ml_row hm (p := 128) (n := 20) (q := (0, 4)) (fun _ => rfl) _ (by omega)
  have b129 : ∀ k c : Nat, (k : Int) < (I 125 s).toInt → (c : Int) < (I 128 (10 * s + k)).toInt → 0 ≤ (I 129 (4 * (10 * s + k) + c)).toInt ∧ (I 129 (4 * (10 * s + k) + c)).toInt ≤ 3 := fun k c hk hc => ml_row hm (p := 129) (n := 80) (q := (0, 3)) (fun _ => rfl) _ (by have := b128 k hk; omega)
  refine ⟨?_, ?_, ?_, fun c => ?_⟩
  · rw [o 107 18 (by omega) (by omega)]; exact hT.1
  · rw [o 107 19 (by omega) (by omega)]; exact hT.2.1
  · unfold ml_sum
    rw [o 107 20 (by omega) (by omega), o 118 s (by omega) (by omega), o 119 s (by omega) (by omega), o 122 s (by omega) (by omega), o 125 s (by omega) (by omega), o 136 s (by omega) (by omega)]
    exact hT.2.2.1
  · refine mlV_dom (o 122 s (by omega) (by omega)) (o 125 s (by omega) (by omega)) (fun i hi => ⟨o _ _ (by omega) (by omega), o _ _ (by omega) (by omega)⟩) (fun k hk => o _ _ (by omega) (by omega)) (fun k c hk hc => o _ _ (by have := b128 k hk; omega) (by omega)) (fun k c i hk hc hi => o _ _ (by have := b128 k hk; have := b129 k c hk hc; omega) (by omega)) (hT.2.2.2 (ml_w15 h c))
theorem ml_Dsl {l s n : Nat} (hls : ml_ls l s) (h0 : 10 * s ≤ n) (h1 : n < 10 * s + 10) {p j : Nat} (h : ml_Ds l n p j) : ml_Dl l p j := by
  unfold ml_ls at hls
  unfold ml_Ds ml_D0 ml_hm at h
  unfold ml_Dl ml_hl ml_hm
  omega
def ml_sy (I : sm_I) (n : Nat) : Prop := I 107 15 = 0 → ∀ c i : Nat, (c : Int) < (I 128 n).toInt → (i : Int) < (I 129 (4 * n + c)).toInt → 0 ≤ (I 130 (3 * (4 * n + c) + i)).toInt
theorem ml_sy_no {I J : sm_I} {n : Nat} (h : ml_pS ml_no I J) (q : ml_sy I n) : ml_sy J n := fun w c i hc hi => by
  rw [ml_pS_g h (by omega)] at hc hi
  rw [ml_pS_g h (by omega)]
  exact q (ml_w15 h w) c i hc hi
/-- a SAYING ends -/
theorem ml_sayEnd {S : sm_C} {d : Nat} {Φ : sm_Z → Prop} {I0 I : sm_I} {L : sm_L} {R : sm_R} {l s n : Nat} {x2 : Int32} (hls : ml_ls l s) (r0 : 0 ≤ x2.toInt) (r1 : x2.toInt ≤ 500) (hn : (n : Int) = 10 * (s : Int) + (I 125 s).toInt) (hs9 : (I 125 s).toInt ≤ 9) (hm : en_mem ml_tb mlX (xLay, I, L, R)) (hp : ml_pS (ml_Dl l) I0 I) (hT : ml_TI l s I) (hg : ml_pg I0 I) (hy : ml_sy I n) (h : ∀ (J : sm_I) (L' : sm_L), ml_ok l s R I0 J L' → Φ (none, (xLay, J, L', kM R))) : sm_wp sm_P S (d + 2) 165 0 [.ref 107, .int (4 : Int32)] [] (xLay, I, L, (kM R)) (0, 0) (fun z => ∃ (I1 : sm_I) (L2 : sm_L) (R3 : sm_R), z = (none, (xLay, I1, L2, (kM R3))) ∧ (((I1 107 13) ≤ 0 → (vp_in (I1 107 19) 2) ∧ ∀ n5 : Int32, n5 = (I1 125 (I1 107 19).toNatClampNeg) → sm_wp sm_P S (d + 2) 155 0 [.ref 107, .int x2, .int (3 : Int32), .int n5] [] (xLay, I1, L2, (kM R3)) (0, 0) (fun z => ∃ (I6 : sm_I) (L7 : sm_L) (R8 : sm_R), z = (none, (xLay, I6, L7, (kM R8))) ∧ (vp_in (I6 107 19) 2) ∧ ∀ n10 : Int32, n10 = ((I6 125 (I6 107 19).toNatClampNeg) + (1 : Int32)) → (vp_in (I6 107 19) 2) ∧ ∀ I11 : sm_I, I11 = (sm_up I6 125 (I6 107 19).toNatClampNeg n10) → Φ (none, (xLay, I11, L7, (kM R8))))) ∧ (¬ (I1 107 13) ≤ 0 → Φ (none, (xLay, I1, L2, (kM R3)))))) := by
  obtain ⟨hl, hs⟩ := ml_l1 hls
  refine mx_must hm (fun J1 m1 p1 => ⟨J1, L, R, rfl, fun _ => ?_, fun _ => h J1 L ⟨m1, ml_pS_tr hp (ml_pS_no p1), ml_TI_no hls hm p1 hT, ml_pg_tr hg p1⟩⟩)
  have T1 : ml_TI l s J1 := ml_TI_no hls hm p1 hT
  obtain ⟨sn, sv⟩ := ml_sn hls T1
  have b1 := ml_cs hs m1
  have e125 : J1 125 s = I 125 s := ml_pS_g p1 (by omega)
  refine ⟨sv, fun n5 e5 => ?_⟩
  rw [sn] at e5
  refine mx_knows r0 r1 (by decide) (by rw [e5, e125]; have := b1.2.2.2.1; rw [e125] at this; omega) (fun c => absurd c (by decide)) (fun c => absurd c (by decide)) (ml_nm49 hls T1 m1) m1 (fun K L' mK pK nK => ⟨K, L', R, rfl, ?_⟩)
  have oK : ∀ a b, ¬ ml_kn (J1 107 20).toNatClampNeg a b → ¬ (a = 107 ∧ (b = 11 ∨ b = 13 ∨ b = 14 ∨ b = 15 ∨ b = 16)) → K a b = J1 a b := pK.1
  unfold ml_kn at oK
  rw [oK 107 19 (by omega) (by omega)]
  refine ⟨sv, fun n10 e10 => ⟨sv, fun J e => h J L' ?_⟩⟩
  rw [sn] at e10 e
  refine ml_done hls m1 T1 (ml_pS_tr hp (ml_pS_no p1)) (ml_pg_tr hg p1) mK pK nK (Or.inr (Or.inr (Or.inr (Or.inl rfl)))) (mx := 10) (by unfold ml_ls at hls; rcases hls with ⟨-, c⟩ | ⟨-, c⟩ <;> subst c <;> rfl) e10 b1.2.2.2.1.1 (by rw [e125]; omega) (by omega) e (fun c => ?_)
  have c1 : J1 107 15 = 0 := by
    rw [e, en_up_ne _ _ _ _ (by omega)] at c
    exact ml_w15 pK c
  have W := T1.2.2.2 c1
  have Y := ml_sy_no p1 hy c1
  have oJ : ∀ p j, p = 122 ∨ p = 123 ∨ p = 124 ∨ p = 128 ∨ p = 129 ∨ p = 130 → J p j = J1 p j := fun p j hp => by rw [e, en_up_ne _ _ _ _ (by omega), oK p j (by omega) (by omega)]
  have nJ : (J 125 s).toInt = (J1 125 s).toInt + 1 := by
    rw [e, en_up_eq, e10, oK 125 s (by omega) (by omega)]; exact ml_in1 (by omega)
  refine ⟨fun i hi hz => ?_, fun k q i hk hq hi => ?_⟩
  · rw [oJ 122 _ (by omega)] at hi
    rw [oJ 123 _ (by omega)] at hz
    rw [oJ 124 _ (by omega)]
    exact W.1 i hi hz
  · rw [nJ] at hk
    rw [oJ 128 _ (by omega)] at hq
    rw [oJ 129 _ (by omega)] at hi
    rw [oJ 130 _ (by omega)]
    by_cases ck : 10 * s + k = n
    · rw [ck] at hq hi ⊢
      exact Y q i hq hi
    · exact W.2 k q i (by rw [e125] at hk ⊢; omega) hq hi
theorem mx_say10 {S : sm_C} {d : Nat} {Φ : sm_Z → Prop} {I0 : sm_I} {L : sm_L} {R : sm_R} {x1 x2 : Int32} {l s : Nat} (hls : ml_ls l s) (r0 : 0 ≤ x2.toInt) (r1 : x2.toInt ≤ 500) (h : ∀ (J : sm_I) (L' : sm_L), ml_ok l s R I0 J L' → Φ (none, (xLay, J, L', kM R))) : ∀ (m : Nat) (I : sm_I) (x3 : Int32), x1.toInt = 10 * (s : Int) + (I 125 s).toInt → (I 125 s).toInt ≤ 9 → en_mem ml_tb mlX (xLay, I, L, R) → ml_pS (ml_Dl l) I0 I → ml_TI l s I → ml_pg I0 I → ml_sy I x1.toNatClampNeg → (¬ x3 = 0 → I 107 13 = 0 → (I 128 x1.toNatClampNeg).toInt ≤ 3) → 4 - (I 128 x1.toNatClampNeg).toInt < m → sm_wp sm_P S (d + 6) 200 10 [.ref 107, .int x1, .int x2, .int x3] [] (xLay, I, L, kM R) (0, 0) Φ := by
  obtain ⟨hl, hs⟩ := ml_l1 hls
  have hls' := hls
  unfold ml_ls at hls'
  intro m
  induction m with
  | zero =>
    intro I x3 hn hs9 hm hp hT hg hy hc hM
    have b := ml_cs hs hm
    have n1 := kl_nat (i := x1) (by omega)
    have b128 : 0 ≤ (I 128 x1.toNatClampNeg).toInt ∧ (I 128 x1.toNatClampNeg).toInt ≤ 4 := ml_row hm (p := 128) (n := 20) (q := (0, 4)) (fun _ => rfl) _ (by omega)
    omega
  | succ m ih =>
    intro I x3 hn hs9 hm hp hT hg hy hc hM
    have b := ml_cs hs hm
    have n1 := kl_nat (i := x1) (by omega)
    have v : vp_in x1 20 := kl_in (by omega) (by omega)
    have b128 : 0 ≤ (I 128 x1.toNatClampNeg).toInt ∧ (I 128 x1.toNatClampNeg).toInt ≤ 4 := ml_row hm (p := 128) (n := 20) (q := (0, 4)) (fun _ => rfl) _ (by omega)
    have hn' : (x1.toNatClampNeg : Int) = 10 * (s : Int) + (I 125 s).toInt := by omega
    refine u_X12_tellSaying_10 ⟨fun _ => ml_sayEnd hls r0 r1 hn' hs9 hm hp hT hg hy h, fun c2 => ⟨fun c13 => ⟨v, fun n29 e29 => ?_⟩, fun _ => ml_sayEnd hls r0 r1 hn' hs9 hm hp hT hg hy h⟩⟩
    have b2 := hc c2 c13
    have q1 : ((4 : Int32) * x1).toInt = 4 * x1.toInt := ml_mu (by decide) rfl (by omega) (by omega)
    have q2 : n29.toInt = 4 * x1.toInt + (I 128 x1.toNatClampNeg).toInt := by rw [e29]; exact ml_ad q1 rfl (by omega) (by omega)
    have n2 := kl_nat (i := n29) (by omega)
    refine mx_tellAll hls hT.1 (by omega) (by omega) hm (fun J m2 p2 a2 => ⟨J, L, R, rfl, fun _ => ⟨v, fun n34 e34 => ⟨v, fun J7 e7 => ?_⟩⟩, fun _ => ?_⟩)
    all_goals
      have pS2 : ml_pS (ml_Ds l x1.toNatClampNeg) I J := ml_pS_mo p2 (fun p j c => by unfold ml_al at c; unfold ml_Ds ml_D0 ml_hm; omega)
      have o2 : ∀ p j, ¬ ml_al n29.toNatClampNeg p j → ¬ (p = 107 ∧ (j = 11 ∨ j = 13 ∨ j = 14 ∨ j = 15 ∨ j = 16)) → J p j = I p j := p2.1
      unfold ml_al at o2
      have s128 : J 128 x1.toNatClampNeg = I 128 x1.toNatClampNeg := o2 _ _ (by omega) (by omega)
    · rw [s128] at e34
      have s34 : n34.toInt = (I 128 x1.toNatClampNeg).toInt + 1 := by rw [e34]; exact ml_in1 (by omega)
      have m7 : en_mem ml_tb mlX (xLay, J7, L, R) := by
        rw [e7]
        exact ml_wt hl (by rw [o2 107 18 (by omega) (by omega)]; exact hT.1) ⟨by decide, by decide, by unfold ml_hl; omega⟩ (by decide) m2 (ml_rq (n := 20) (q := (0, 4)) rfl (by show 0 ≤ _ ∧ _ ≤ (4 : Int); omega))
      have p7 : ml_pS (ml_Ds l x1.toNatClampNeg) I J7 := by
        refine ml_pS_tr pS2 ?_
        rw [e7]; exact ml_pS_up (Or.inl ⟨rfl, rfl⟩) (by omega)
      have c7 : (J7 128 x1.toNatClampNeg).toInt = (I 128 x1.toNatClampNeg).toInt + 1 := by rw [e7, en_up_eq]; exact s34
      have s7 : J7 125 s = I 125 s := by rw [e7, en_up_ne _ _ _ _ (by omega), o2 _ _ (by omega) (by omega)]
      have b129 : ∀ c : Nat, (c : Int) < 4 → 0 ≤ (I 129 (4 * x1.toNatClampNeg + c)).toInt ∧ (I 129 (4 * x1.toNatClampNeg + c)).toInt ≤ 3 := fun c hc => ml_row hm (p := 129) (n := 80) (q := (0, 3)) (fun _ => rfl) _ (by omega)
      have y7 : ml_sy J7 x1.toNatClampNeg := by
        intro w c i hc hi
        rw [e7, en_up_ne _ _ _ _ (by omega)] at w
        rw [c7] at hc
        rw [e7, en_up_ne _ _ _ _ (by omega)] at hi
        rw [e7, en_up_ne _ _ _ _ (by omega)]
        by_cases cc : 4 * x1.toNatClampNeg + c = n29.toNatClampNeg
        · rw [cc] at hi ⊢
          exact a2 w i hi
        · rw [o2 _ _ (by omega) (by omega)] at hi
          have b9 := b129 c (by omega)
          rw [o2 _ _ (by omega) (by omega)]
          exact hy (ml_w15 p2 w) c i (by omega) hi
      have T7 : ml_TI l s J7 := ml_TI_s hls hm hn' hs9 p7 hT
      have pl7 : ml_pS (ml_Dl l) I0 J7 := ml_pS_tr hp (ml_pS_mo p7 (fun p j c => ml_Dsl hls (by omega) (by omega) c))
      have nx : ∀ (K : sm_I) (r : Int32), en_mem ml_tb mlX (xLay, K, L, R) → ml_pS ml_no J7 K → (¬ r = 0 → K 107 13 = 0 → (J7 128 x1.toNatClampNeg).toInt ≤ 3) → sm_wp sm_P S (d + 6) 200 10 [.ref 107, .int x1, .int x2, .int r] [] (xLay, K, L, kM R) (0, 0) Φ := by
        intro K r mK pK hr
        have e128 : K 128 x1.toNatClampNeg = J7 128 x1.toNatClampNeg := ml_pS_g pK (by omega)
        have e125 : K 125 s = I 125 s := by rw [ml_pS_g pK (by omega), s7]
        exact ih K r (by rw [e125]; exact hn) (by rw [e125]; exact hs9) mK (ml_pS_tr pl7 (ml_pS_no pK)) (ml_TI_no hls m7 pK T7) (ml_pg_tr (ml_pg_tr hg p7) pK) (ml_sy_no pK y7) (by rw [e128]; exact hr) (by rw [e128]; omega)
      refine mx_is m7 (fun r _ _ => ⟨r, J7, L, R, rfl, fun c => ⟨fun _ => nx J7 r m7 ml_pS_rf (fun c' => absurd c c'), fun c' => absurd c c'⟩, fun cr => ⟨v, fun c3 => ?_, fun c3 => ⟨fun c => absurd c cr, fun _ => ?_⟩⟩⟩)
      · refine mx_fail (by decide) (by decide) m7 (fun J8 m8 p8 f8 => ⟨J8, L, R, rfl, fun c => absurd c cr, fun _ => mx_goesOn m8 (fun J9 m9 p9 _ => ⟨J9, L, R, rfl, nx J9 r m9 (ml_pS_tr p8 p9) (fun _ c => absurd c (p9.2.2.1 f8))⟩)⟩)
      · have c3' : (J7 128 x1.toNatClampNeg).toInt ≠ 4 := fun c => c3 (en_ofI (by rw [c]; decide))
        exact mx_goesOn m7 (fun J9 m9 p9 _ => ⟨J9, L, R, rfl, nx J9 r m9 p9 (fun _ _ => by omega)⟩)
    · exact h J L ⟨m2, ml_pS_tr hp (ml_pS_mo pS2 (fun p j c => ml_Dsl hls (by omega) (by omega) c)), ml_TI_s hls hm hn' hs9 pS2 hT, ml_pg_tr hg p2⟩
theorem mx_tellSaying {S : sm_C} {d : Nat} {Φ : sm_Z → Prop} {I : sm_I} {L : sm_L} {R : sm_R} {l s : Nat} (hls : ml_ls l s) (hm : en_mem ml_tb mlX (xLay, I, L, R)) (hT : ml_TI l s I) (hs9 : (I 125 s).toInt ≤ 9) (h : ∀ (J : sm_I) (L' : sm_L), ml_ok l s R I J L' → Φ (none, (xLay, J, L', kM R))) : sm_wp sm_P S (d + 6) 200 0 [.ref 107] [] (xLay, I, L, kM R) (0, 0) Φ := by
  obtain ⟨hl, hs⟩ := ml_l1 hls
  have hls' := hls
  unfold ml_ls at hls'
  obtain ⟨sn, sv⟩ := ml_sn hls hT
  have b := ml_cs hs hm
  refine u_X12_tellSaying_0 ⟨sv, fun n1 e1 => ?_⟩
  rw [sn] at e1
  have q1 : ((10 : Int32) * (I 107 19)).toInt = 10 * (s : Int) := ml_mu (by decide) hT.2.1 (by omega) (by omega)
  have q2 : n1.toInt = 10 * (s : Int) + (I 125 s).toInt := by rw [e1]; exact ml_ad q1 rfl (by omega) (by omega)
  have nn := kl_nat (i := n1) (by omega)
  have v : vp_in n1 20 := kl_in (by omega) (by omega)
  have w0 : ∀ (J K : sm_I) (p : Nat) (x : Int32), (p = 126 ∧ 0 ≤ x.toInt ∧ x.toInt ≤ 1) ∨ p = 127 → en_mem ml_tb mlX (xLay, J, L, R) → ml_pS (ml_D0 l) I J → K = sm_up J p n1.toNatClampNeg x → en_mem ml_tb mlX (xLay, K, L, R) ∧ ml_pS (ml_D0 l) I K ∧ ml_pS (ml_D0 l) J K := by
    intro J K p x hp mJ pJ e
    have lJ : (J 107 18).toInt = l := by rw [pJ.1 107 18 (by unfold ml_D0 ml_hm; omega) (by omega)]; exact hT.1
    rw [e]
    rcases hp with ⟨c, b⟩ | c
    · subst c
      have w := ml_w0 (L := L) (R := R) (l := l) (p := 126) (j := n1.toNatClampNeg) (x := x) (n := 20) (q := (0, 1)) hl lJ (by unfold ml_D0 ml_hm; omega) mJ rfl b
      exact ⟨w.1, ml_pS_tr pJ w.2, w.2⟩
    · subst c
      have w := ml_w0 (L := L) (R := R) (l := l) (p := 127) (j := n1.toNatClampNeg) (x := x) (n := 20) (q := (-2147483648, 2147483647)) hl lJ (by unfold ml_D0 ml_hm; omega) mJ rfl en_crange
      exact ⟨w.1, ml_pS_tr pJ w.2, w.2⟩
  have M5 : ∀ (r14 : Int32) (J : sm_I), 0 ≤ r14.toInt → r14.toInt ≤ 500 → en_mem ml_tb mlX (xLay, J, L, R) → ml_pS (ml_D0 l) I J → ml_pg I J → sm_wp sm_P S (d + 5) 165 0 [.ref 107, .int (5 : Int32)] [] (xLay, J, L, (kM R)) (0, 0) (fun z => ∃ (I20 : sm_I) (L21 : sm_L) (R22 : sm_R), z = (none, (xLay, I20, L21, (kM R22))) ∧ (vp_in n1 20) ∧ ∀ I24 : sm_I, I24 = (sm_up I20 128 n1.toNatClampNeg (0 : Int32)) → sm_wp sm_P S (d + 6) 200 10 [.ref 107, .int n1, .int r14, .int (1 : Int32)] [] (xLay, I24, L21, (kM R22)) (0, 0) Φ) := by
    intro r14 J r0 r1 mJ pJ gJ
    refine mx_must mJ (fun K mK pK => ⟨K, L, R, rfl, v, fun I24 e24 => ?_⟩)
    have pIK : ml_pS (ml_D0 l) I K := ml_pS_tr pJ (ml_pS_no pK)
    have lK : (K 107 18).toInt = l := by rw [pIK.1 107 18 (by unfold ml_D0 ml_hm; omega) (by omega)]; exact hT.1
    have m24 : en_mem ml_tb mlX (xLay, I24, L, R) := by
      rw [e24]
      exact ml_wt hl lK ⟨by decide, by decide, by unfold ml_hl; omega⟩ (by decide) mK (ml_rq (n := 20) (q := (0, 4)) rfl (by decide))
    have p24 : ml_pS (ml_Ds l n1.toNatClampNeg) I I24 := by
      refine ml_pS_tr (ml_pS_mo pIK (fun p j c => Or.inr (Or.inr (Or.inr c)))) ?_
      rw [e24]; exact ml_pS_up (Or.inl ⟨rfl, rfl⟩) (by omega)
    have s24 : I24 125 s = I 125 s := p24.1 125 s (by unfold ml_Ds ml_D0 ml_hm; omega) (by omega)
    have z24 : (I24 128 n1.toNatClampNeg).toInt = 0 := by rw [e24, en_up_eq]; decide
    have g24 : ml_pg I I24 := by
      refine ml_pg_tr (D := ml_Ds l n1.toNatClampNeg) (ml_pg_tr gJ pK) ?_
      rw [e24]; exact ml_pS_up (Or.inl ⟨rfl, rfl⟩) (by omega)
    exact mx_say10 hls r0 r1 h 5 I24 1 (by rw [s24]; exact q2) (by rw [s24]; exact hs9) m24 (ml_pS_mo p24 (fun p j c => ml_Dsl hls (by omega) (by omega) c)) (ml_TI_s hls hm (by omega) hs9 p24 hT) g24 (fun _ c i hc => by rw [z24] at hc; omega) (fun _ _ => by rw [z24]; decide) (by rw [z24]; decide)
  refine mx_is hm (fun r5 hr5 _ => ⟨r5, I, L, R, rfl, v, fun I6 e6 => ?_⟩)
  obtain ⟨m6, p6, -⟩ := w0 I I6 126 _ (Or.inl ⟨rfl, ml_boo r5⟩) hm ml_pS_rf e6
  refine mx_goesOn m6 (fun J7 m7 p7 g7 => ⟨J7, L, R, rfl, mx_named m7 (fun r14 J11 r0 r1 m11 p11 => ⟨r14, J11, L, R, rfl, v, fun I15 e15 => ?_⟩)⟩)
  have g7' : ml_pg I J7 := ml_pg_lt p6 g7
  obtain ⟨m15, p15, q15⟩ := w0 J11 I15 127 1 (Or.inr rfl) m11 (ml_pS_tr p6 (ml_pS_no (ml_pS_tr p7 p11))) e15
  have g15 : ml_pg I I15 := ml_pg_tr (ml_pg_tr g7' p11) q15
  refine mx_is m15 (fun r19 _ _ => ⟨r19, I15, L, R, rfl, fun _ => M5 r14 I15 r0 r1 m15 p15 g15, fun _ => ⟨v, fun _ => ?_, fun _ => M5 r14 I15 r0 r1 m15 p15 g15⟩⟩)
  refine mx_goesOn m15 (fun J32 m32 p32 _ => ⟨J32, L, R, rfl, ?_⟩)
  have b32 : 0 ≤ (J32 107 11).toInt ∧ (J32 107 11).toInt ≤ 500 := ml_t m32
  have p32' : ml_pS (ml_D0 l) I J32 := ml_pS_tr p15 (ml_pS_no p32)
  have g32 : ml_pg I J32 := ml_pg_tr g15 p32
  have T : ∀ J : sm_I, en_mem ml_tb mlX (xLay, J, L, R) → ml_pS (ml_D0 l) I J → ml_pg I J → ((J 107 13 = 0 → (vp_in n1 20) ∧ ((J 127 n1.toNatClampNeg < (1 : Int32) → sm_wp sm_P S (d + 5) 213 0 [.ref 107, .int (5 : Int32), .int (J32 107 11)] [] (xLay, J, L, (kM R)) (0, 0) (fun z => ∃ (I51 : sm_I) (L52 : sm_L) (R53 : sm_R), z = (none, (xLay, I51, L52, (kM R53))) ∧ sm_wp sm_P S (d + 5) 165 0 [.ref 107, .int (5 : Int32)] [] (xLay, I51, L52, (kM R53)) (0, 0) (fun z => ∃ (I20 : sm_I) (L21 : sm_L) (R22 : sm_R), z = (none, (xLay, I20, L21, (kM R22))) ∧ (vp_in n1 20) ∧ ∀ I24 : sm_I, I24 = (sm_up I20 128 n1.toNatClampNeg (0 : Int32)) → sm_wp sm_P S (d + 6) 200 10 [.ref 107, .int n1, .int r14, .int (1 : Int32)] [] (xLay, I24, L21, (kM R22)) (0, 0) Φ))) ∧ (¬ J 127 n1.toNatClampNeg < (1 : Int32) → (vp_in n1 20) ∧ ((J 127 n1.toNatClampNeg ≤ (100 : Int32) → sm_wp sm_P S (d + 5) 165 0 [.ref 107, .int (5 : Int32)] [] (xLay, J, L, (kM R)) (0, 0) (fun z => ∃ (I20 : sm_I) (L21 : sm_L) (R22 : sm_R), z = (none, (xLay, I20, L21, (kM R22))) ∧ (vp_in n1 20) ∧ ∀ I24 : sm_I, I24 = (sm_up I20 128 n1.toNatClampNeg (0 : Int32)) → sm_wp sm_P S (d + 6) 200 10 [.ref 107, .int n1, .int r14, .int (1 : Int32)] [] (xLay, I24, L21, (kM R22)) (0, 0) Φ)) ∧ (¬ J 127 n1.toNatClampNeg ≤ (100 : Int32) → sm_wp sm_P S (d + 5) 213 0 [.ref 107, .int (5 : Int32), .int (J32 107 11)] [] (xLay, J, L, (kM R)) (0, 0) (fun z => ∃ (I51 : sm_I) (L52 : sm_L) (R53 : sm_R), z = (none, (xLay, I51, L52, (kM R53))) ∧ sm_wp sm_P S (d + 5) 165 0 [.ref 107, .int (5 : Int32)] [] (xLay, I51, L52, (kM R53)) (0, 0) (fun z => ∃ (I20 : sm_I) (L21 : sm_L) (R22 : sm_R), z = (none, (xLay, I20, L21, (kM R22))) ∧ (vp_in n1 20) ∧ ∀ I24 : sm_I, I24 = (sm_up I20 128 n1.toNatClampNeg (0 : Int32)) → sm_wp sm_P S (d + 6) 200 10 [.ref 107, .int n1, .int r14, .int (1 : Int32)] [] (xLay, I24, L21, (kM R22)) (0, 0) Φ))))))) ∧ (¬ J 107 13 = 0 → sm_wp sm_P S (d + 5) 165 0 [.ref 107, .int (5 : Int32)] [] (xLay, J, L, (kM R)) (0, 0) (fun z => ∃ (I20 : sm_I) (L21 : sm_L) (R22 : sm_R), z = (none, (xLay, I20, L21, (kM R22))) ∧ (vp_in n1 20) ∧ ∀ I24 : sm_I, I24 = (sm_up I20 128 n1.toNatClampNeg (0 : Int32)) → sm_wp sm_P S (d + 6) 200 10 [.ref 107, .int n1, .int r14, .int (1 : Int32)] [] (xLay, I24, L21, (kM R22)) (0, 0) Φ))) := by
    intro J mJ pJ gJ
    have wr := fun (K : sm_I) (mK : en_mem ml_tb mlX (xLay, K, L, R)) (pK : ml_pS ml_no J K) => M5 r14 K r0 r1 mK (ml_pS_tr pJ (ml_pS_no pK)) (ml_pg_tr gJ pK)
    exact ⟨fun _ => ⟨v, fun _ => mx_wrong (by decide) (by decide) b32.1 (by omega) mJ (fun K mK pK _ => ⟨K, L, R, rfl, wr K mK pK⟩), fun _ => ⟨v, fun _ => M5 r14 J r0 r1 mJ pJ gJ, fun _ => mx_wrong (by decide) (by decide) b32.1 (by omega) mJ (fun K mK pK _ => ⟨K, L, R, rfl, wr K mK pK⟩)⟩⟩, fun _ => M5 r14 J r0 r1 mJ pJ gJ⟩
  refine mx_is m32 (fun r39 _ _ => ⟨r39, J32, L, R, rfl, fun _ => ⟨v, fun I40 e40 => ?_⟩, fun _ => ⟨ml_vt m32, fun n83 _ => ⟨v, fun I84 e84 => ?_⟩⟩⟩)
  · obtain ⟨m40, p40, q40⟩ := w0 J32 I40 127 0 (Or.inr rfl) m32 p32' e40
    exact mx_must m40 (fun J mJ pJ => ⟨J, L, R, rfl, T J mJ (ml_pS_tr p40 (ml_pS_no pJ)) (ml_pg_tr (ml_pg_tr g32 q40) pJ)⟩)
  · obtain ⟨m40, p40, q40⟩ := w0 J32 I84 127 n83 (Or.inr rfl) m32 p32' e84
    exact mx_must m40 (fun J mJ pJ => ⟨J, L, R, rfl, T J mJ (ml_pS_tr p40 (ml_pS_no pJ)) (ml_pg_tr (ml_pg_tr g32 q40) pJ)⟩)
