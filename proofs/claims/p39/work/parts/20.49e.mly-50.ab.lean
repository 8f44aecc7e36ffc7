section
/-! SAYINGS -/
def ml_Ds (l n p j : Nat) : Prop := (p = 128 ∧ j = n) ∨ (p = 129 ∧ 4 * n ≤ j ∧ j < 4 * n + 4) ∨ (p = 130 ∧ 12 * n ≤ j ∧ j < 12 * n + 12) ∨ ml_D0 l p j
theorem ml_TI_s {l s n : Nat} {I J : sm_I} {L : sm_L} {R : sm_R} (hls : ml_ls l s) (hm : en_mem ml_tb mlX (xLay, I, L, R)) (hn : (n : Int) = 10 * (s : Int) + (I 125 s).toInt) (hs9 : (I 125 s).toInt ≤ 9) (h : ml_pS (ml_Ds l n) I J) (hT : ml_TI l s I) : ml_TI l s J := by
  obtain ⟨hl, hs⟩ := ml_l1 hls
  have b := ml_cs hs hm
  have o : ∀ p j, ¬ ml_Ds l n p j → ¬ (p = 107 ∧ (j = 11 ∨ j = 13 ∨ j = 14 ∨ j = 15 ∨ j = 16)) → J p j = I p j := h.1
  unfold ml_Ds ml_D0 ml_hm at o
  have b128 : ∀ k : Nat, (k : Int) < (I 125 s).toInt → 0 ≤ (I 128 (10 * s + k)).toInt ∧ (I 128 (10 * s + k)).toInt ≤ 4 := fun k hk => ml_row hm (p := 128) (n := 20) (q := (0, 4)) (fun _ => rfl) _ (by omega)
  have b129 : ∀ k c : Nat, (k : Int) < (I 125 s).toInt → (c : Int) < (I 128 (10 * s + k)).toInt → 0 ≤ (I 129 (4 * (10 * s + k) + c)).toInt ∧ (I 129 (4 * (10 * s + k) + c)).toInt ≤ 3 := fun k c hk hc => ml_row hm (p := 129) (n := 80) (q := (0, 3)) (fun _ => rfl) _ (by have := b128 k hk; omega)
  refine ⟨?_, ?_, ?_, fun c => ?_⟩
  · rw [o 107 18 (by omega) (by omega)]; exact hT.1
  · rw [o 107 19 (by omega) (by omega)]; exact hT.2.1
  · unfold ml_sum
    rw [o 107 20 (by omega) (by omega), o 118 s (by omega) (by omega), o 119 s (by omega) (by omega), o 122 s (by omega) (by omega), o 125 s (by omega) (by omega), o 136 s (by omega) (by omega)]
    exact hT.2.2.1
  · refine mlV_dom (o 122 s (by omega) (by omega)) (o 125 s (by omega) (by omega)) (fun i hi => ⟨o _ _ (by omega) (by omega), o _ _ (by omega) (by omega)⟩) (fun k hk => o _ _ (by omega) (by omega)) (fun k c hk hc => o _ _ (by have := b128 k hk; omega) (by omega)) (fun k c i hk hc hi => o _ _ (by have := b128 k hk; have := b129 k c hk hc; omega) (by omega)) (hT.2.2.2 (ml_w15 h c))
theorem ml_Dsl {l s n : Nat} (hls : ml_ls l s) (h0 : 10 * s ≤ n) (h1 : n < 10 * s + 10) {p j : Nat} (h : ml_Ds l n p j) : ml_Dl l p j := by
  unfold ml_ls at hls
  unfold ml_Ds ml_D0 ml_hm at h
  unfold ml_Dl ml_hl ml_hm
  omega
def ml_sy (I : sm_I) (n : Nat) : Prop := I 107 15 = 0 → ∀ c i : Nat, (c : Int) < (I 128 n).toInt → (i : Int) < (I 129 (4 * n + c)).toInt → 0 ≤ (I 130 (3 * (4 * n + c) + i)).toInt
theorem ml_sy_no {I J : sm_I} {n : Nat} (h : ml_pS ml_no I J) (q : ml_sy I n) : ml_sy J n := fun w c i hc hi => by
  rw [ml_pS_g h (by omega)] at hc hi
  rw [ml_pS_g h (by omega)]
  exact q (ml_w15 h w) c i hc hi
/-- a SAYING ends -/
theorem ml_sayEnd {S : sm_C} {d : Nat} {Φ : sm_Z → Prop} {I0 I : sm_I} {L : sm_L} {R : sm_R} {l s n : Nat} {x2 : Int32} (hls : ml_ls l s) (r0 : 0 ≤ x2.toInt) (r1 : x2.toInt ≤ 500) (hn : (n : Int) = 10 * (s : Int) + (I 125 s).toInt) (hs9 : (I 125 s).toInt ≤ 9) (hm : en_mem ml_tb mlX (xLay, I, L, R)) (hp : ml_pS (ml_Dl l) I0 I) (hT : ml_TI l s I) (hg : ml_pg I0 I) (hy : ml_sy I n) (h : ∀ (J : sm_I) (L' : sm_L), ml_ok l s R I0 J L' → Φ (none, (xLay, J, L', kM R))) : sm_wp sm_P S (d + 2) 165 0 [.ref 107, .int (4 : Int32)] [] (xLay, I, L, (kM R)) (0, 0) (fun z => ∃ (I1 : sm_I) (L2 : sm_L) (R3 : sm_R), z = (none, (xLay, I1, L2, (kM R3))) ∧ (((I1 107 13) ≤ 0 → (vp_in (I1 107 19) 2) ∧ ∀ n5 : Int32, n5 = (I1 125 (I1 107 19).toNatClampNeg) → sm_wp sm_P S (d + 2) 155 0 [.ref 107, .int x2, .int (3 : Int32), .int n5] [] (xLay, I1, L2, (kM R3)) (0, 0) (fun z => ∃ (I6 : sm_I) (L7 : sm_L) (R8 : sm_R), z = (none, (xLay, I6, L7, (kM R8))) ∧ (vp_in (I6 107 19) 2) ∧ ∀ n10 : Int32, n10 = ((I6 125 (I6 107 19).toNatClampNeg) + (1 : Int32)) → (vp_in (I6 107 19) 2) ∧ ∀ I11 : sm_I, I11 = (sm_up I6 125 (I6 107 19).toNatClampNeg n10) → Φ (none, (xLay, I11, L7, (kM R8))))) ∧ (¬ (I1 107 13) ≤ 0 → Φ (none, (xLay, I1, L2, (kM R3)))))) := by
  obtain ⟨hl, hs⟩ := ml_l1 hls
  refine mx_must hm (fun J1 m1 p1 => ⟨J1, L, R, rfl, fun _ => ?_, fun _ => h J1 L ⟨m1, ml_pS_tr hp (ml_pS_no p1), ml_TI_no hls hm p1 hT, ml_pg_tr hg p1⟩⟩)
  have T1 : ml_TI l s J1 := ml_TI_no hls hm p1 hT
  obtain ⟨sn, sv⟩ := ml_sn hls T1
  have b1 := ml_cs hs m1
  have e125 : J1 125 s = I 125 s := ml_pS_g p1 (by omega)
  refine ⟨sv, fun n5 e5 => ?_⟩
  rw [sn] at e5
  refine mx_knows r0 r1 (by decide) (by rw [e5, e125]; have := b1.2.2.2.1; rw [e125] at this; omega) (fun c => absurd c (by decide)) (fun c => absurd c (by decide)) (ml_nm49 hls T1 m1) m1 (fun K L' mK pK nK => ⟨K, L', R, rfl, ?_⟩)
  have oK : ∀ a b, ¬ ml_kn (J1 107 20).toNatClampNeg a b → ¬ (a = 107 ∧ (b = 11 ∨ b = 13 ∨ b = 14 ∨ b = 15 ∨ b = 16)) → K a b = J1 a b := pK.1
  unfold ml_kn at oK
  rw [oK 107 19 (by omega) (by omega)]
  refine ⟨sv, fun n10 e10 => ⟨sv, fun J e => h J L' ?_⟩⟩
  rw [sn] at e10 e
  refine ml_done hls m1 T1 (ml_pS_tr hp (ml_pS_no p1)) (ml_pg_tr hg p1) mK pK nK (Or.inr (Or.inr (Or.inr (Or.inl rfl)))) (mx := 10) (by unfold ml_ls at hls; rcases hls with ⟨-, c⟩ | ⟨-, c⟩ <;> subst c <;> rfl) e10 b1.2.2.2.1.1 (by rw [e125]; omega) (by omega) e (fun c => ?_)
  have c1 : J1 107 15 = 0 := by
    rw [e, en_up_ne _ _ _ _ (by omega)] at c
    exact ml_w15 pK c
  have W := T1.2.2.2 c1
  have Y := ml_sy_no p1 hy c1
  have oJ : ∀ p j, p = 122 ∨ p = 123 ∨ p = 124 ∨ p = 128 ∨ p = 129 ∨ p = 130 → J p j = J1 p j := fun p j hp => by rw [e, en_up_ne _ _ _ _ (by omega), oK p j (by omega) (by omega)]
  have nJ : (J 125 s).toInt = (J1 125 s).toInt + 1 := by
    rw [e, en_up_eq, e10, oK 125 s (by omega) (by omega)]; exact ml_in1 (by omega)
  refine ⟨fun i hi hz => ?_, fun k q i hk hq hi => ?_⟩
  · rw [oJ 122 _ (by omega)] at hi
    rw [oJ 123 _ (by omega)] at hz
    rw [oJ 124 _ (by omega)]
    exact W.1 i hi hz
  · rw [nJ] at hk
    rw [oJ 128 _ (by omega)] at hq
    rw [oJ 129 _ (by omega)] at hi
    rw [oJ 130 _ (by omega)]
    by_cases ck : 10 * s + k = n
    · rw [ck] at hq hi ⊢
      exact Y q i hq hi
    · exact W.2 k q i (by rw [e125] at hk ⊢; omega) hq hi
theorem mx_say10 {S : sm_C} {d : Nat} {Φ : sm_Z → Prop} {I0 : sm_I} {L : sm_L} {R : sm_R} {x1 x2 : Int32} {l s : Nat} (hls : ml_ls l s) (r0 : 0 ≤ x2.toInt) (r1 : x2.toInt ≤ 500) (h : ∀ (J : sm_I) (L' : sm_L), ml_ok l s R I0 J L' → Φ (none, (xLay, J, L', kM R))) : ∀ (m : Nat) (I : sm_I) (x3 : Int32), x1.toInt = 10 * (s : Int) + (I 125 s).toInt → (I 125 s).toInt ≤ 9 → en_mem ml_tb mlX (xLay, I, L, R) → ml_pS (ml_Dl l) I0 I → ml_TI l s I → ml_pg I0 I → ml_sy I x1.toNatClampNeg → (¬ x3 = 0 → I 107 13 = 0 → (I 128 x1.toNatClampNeg).toInt ≤ 3) → 4 - (I 128 x1.toNatClampNeg).toInt < m → sm_wp sm_P S (d + 6) 200 10 [.ref 107, .int x1, .int x2, .int x3] [] (xLay, I, L, kM R) (0, 0) Φ := by
  obtain ⟨hl, hs⟩ := ml_l1 hls
  have hls' := hls
  unfold ml_ls at hls'
  intro m
  induction m with
  | zero =>
    intro I x3 hn hs9 hm hp hT hg hy hc hM
    have b := ml_cs hs hm
    have n1 := kl_nat (i := x1) (by omega)
    have b128 : 0 ≤ (I 128 x1.toNatClampNeg).toInt ∧ (I 128 x1.toNatClampNeg).toInt ≤ 4 := ml_row hm (p := 128) (n := 20) (q := (0, 4)) (fun _ => rfl) _ (by omega)
    omega
  | succ m ih =>
    intro I x3 hn hs9 hm hp hT hg hy hc hM
    have b := ml_cs hs hm
    have n1 := kl_nat (i := x1) (by omega)
    have v : vp_in x1 20 := kl_in (by omega) (by omega)
    have b128 : 0 ≤ (I 128 x1.toNatClampNeg).toInt ∧ (I 128 x1.toNatClampNeg).toInt ≤ 4 := ml_row hm (p := 128) (n := 20) (q := (0, 4)) (fun _ => rfl) _ (by omega)
    have hn' : (x1.toNatClampNeg : Int) = 10 * (s : Int) + (I 125 s).toInt := by omega
    refine u_X12_tellSaying_10 ⟨fun _ => ml_sayEnd hls r0 r1 hn' hs9 hm hp hT hg hy h, fun c2 => ⟨fun c13 => ⟨v, fun n29 e29 => ?_⟩, fun _ => ml_sayEnd hls r0 r1 hn' hs9 hm hp hT hg hy h⟩⟩
    have b2 := hc c2 c13
    have q1 : ((4 : Int32) * x1).toInt = 4 * x1.toInt := ml_mu (by decide) rfl (by omega) (by omega)
    have q2 : n29.toInt = 4 * x1.toInt + (I 128 x1.toNatClampNeg).toInt := by rw [e29]; exact ml_ad q1 rfl (by omega) (by omega)
    have n2 := kl_nat (i := n29) (by omega)
    refine mx_tellAll hls hT.1 (by omega) (by omega) hm (fun J m2 p2 a2 => ⟨J, L, R, rfl, fun _ => ⟨v, fun n34 e34 => ⟨v, fun J7 e7 => ?_⟩⟩, fun _ => ?_⟩)
    all_goals
      have pS2 : ml_pS (ml_Ds l x1.toNatClampNeg) I J := ml_pS_mo p2 (fun p j c => by unfold ml_al at c; unfold ml_Ds ml_D0 ml_hm; omega)
      have o2 : ∀ p j, ¬ ml_al n29.toNatClampNeg p j → ¬ (p = 107 ∧ (j = 11 ∨ j = 13 ∨ j = 14 ∨ j = 15 ∨ j = 16)) → J p j = I p j := p2.1
      unfold ml_al at o2
      have s128 : J 128 x1.toNatClampNeg = I 128 x1.toNatClampNeg := o2 _ _ (by omega) (by omega)
    · rw [s128] at e34
      have s34 : n34.toInt = (I 128 x1.toNatClampNeg).toInt + 1 := by rw [e34]; exact ml_in1 (by omega)
      have m7 : en_mem ml_tb mlX (xLay, J7, L, R) := by
        rw [e7]
        exact ml_wt hl (by rw [o2 107 18 (by omega) (by omega)]; exact hT.1) ⟨by decide, by decide, by unfold ml_hl; omega⟩ (by decide) m2 (ml_rq (n := 20) (q := (0, 4)) rfl (by show 0 ≤ _ ∧ _ ≤ (4 : Int); omega))
      have p7 : ml_pS (ml_Ds l x1.toNatClampNeg) I J7 := by
        refine ml_pS_tr pS2 ?_
        rw [e7]; exact ml_pS_up (Or.inl ⟨rfl, rfl⟩) (by omega)
      have c7 : (J7 128 x1.toNatClampNeg).toInt = (I 128 x1.toNatClampNeg).toInt + 1 := by rw [e7, en_up_eq]; exact s34
      have s7 : J7 125 s = I 125 s := by rw [e7, en_up_ne _ _ _ _ (by omega), o2 _ _ (by omega) (by omega)]
      have b129 : ∀ c : Nat, (c : Int) < 4 → 0 ≤ (I 129 (4 * x1.toNatClampNeg + c)).toInt ∧ (I 129 (4 * x1.toNatClampNeg + c)).toInt ≤ 3 := fun c hc => ml_row hm (p := 129) (n := 80) (q := (0, 3)) (fun _ => rfl) _ (by omega)
      have y7 : ml_sy J7 x1.toNatClampNeg := by
        intro w c i hc hi
        rw [e7, en_up_ne _ _ _ _ (by omega)] at w
        rw [c7] at hc
        rw [e7, en_up_ne _ _ _ _ (by omega)] at hi
        rw [e7, en_up_ne _ _ _ _ (by omega)]
        by_cases cc : 4 * x1.toNatClampNeg + c = n29.toNatClampNeg
        · rw [cc] at hi ⊢
          exact a2 w i hi
        · rw [o2 _ _ (by omega) (by omega)] at hi
          have b9 := b129 c (by omega)
          rw [o2 _ _ (by omega) (by omega)]
          exact hy (ml_w15 p2 w) c i (by omega) hi
      have T7 : ml_TI l s J7 := ml_TI_s hls hm hn' hs9 p7 hT
      have pl7 : ml_pS (ml_Dl l) I0 J7 := ml_pS_tr hp (ml_pS_mo p7 (fun p j c => ml_Dsl hls (by omega) (by omega) c))
      have nx : ∀ (K : sm_I) (r : Int32), en_mem ml_tb mlX (xLay, K, L, R) → ml_pS ml_no J7 K → (¬ r = 0 → K 107 13 = 0 → (J7 128 x1.toNatClampNeg).toInt ≤ 3) → sm_wp sm_P S (d + 6) 200 10 [.ref 107, .int x1, .int x2, .int r] [] (xLay, K, L, kM R) (0, 0) Φ := by
        intro K r mK pK hr
        have e128 : K 128 x1.toNatClampNeg = J7 128 x1.toNatClampNeg := ml_pS_g pK (by omega)
        have e125 : K 125 s = I 125 s := by rw [ml_pS_g pK (by omega), s7]
        exact ih K r (by rw [e125]; exact hn) (by rw [e125]; exact hs9) mK (ml_pS_tr pl7 (ml_pS_no pK)) (ml_TI_no hls m7 pK T7) (ml_pg_tr (ml_pg_tr hg p7) pK) (ml_sy_no pK y7) (by rw [e128]; exact hr) (by rw [e128]; omega)
      refine mx_is m7 (fun r _ _ => ⟨r, J7, L, R, rfl, fun c => ⟨fun _ => nx J7 r m7 ml_pS_rf (fun c' => absurd c c'), fun c' => absurd c c'⟩, fun cr => ⟨v, fun c3 => ?_, fun c3 => ⟨fun c => absurd c cr, fun _ => ?_⟩⟩⟩)
      · refine mx_fail (by decide) (by decide) m7 (fun J8 m8 p8 f8 => ⟨J8, L, R, rfl, fun c => absurd c cr, fun _ => mx_goesOn m8 (fun J9 m9 p9 _ => ⟨J9, L, R, rfl, nx J9 r m9 (ml_pS_tr p8 p9) (fun _ c => absurd c (p9.2.2.1 f8))⟩)⟩)
      · have c3' : (J7 128 x1.toNatClampNeg).toInt ≠ 4 := fun c => c3 (en_ofI (by rw [c]; decide))
        exact mx_goesOn m7 (fun J9 m9 p9 _ => ⟨J9, L, R, rfl, nx J9 r m9 p9 (fun _ _ => by omega)⟩)
    · exact h J L ⟨m2, ml_pS_tr hp (ml_pS_mo pS2 (fun p j c => ml_Dsl hls (by omega) (by omega) c)), ml_TI_s hls hm hn' hs9 pS2 hT, ml_pg_tr hg p2⟩
theorem mx_tellSaying {S : sm_C} {d : Nat} {Φ : sm_Z → Prop} {I : sm_I} {L : sm_L} {R : sm_R} {l s : Nat} (hls : ml_ls l s) (hm : en_mem ml_tb mlX (xLay, I, L, R)) (hT : ml_TI l s I) (hs9 : (I 125 s).toInt ≤ 9) (h : ∀ (J : sm_I) (L' : sm_L), ml_ok l s R I J L' → Φ (none, (xLay, J, L', kM R))) : sm_wp sm_P S (d + 6) 200 0 [.ref 107] [] (xLay, I, L, kM R) (0, 0) Φ := by
  obtain ⟨hl, hs⟩ := ml_l1 hls
  have hls' := hls
  unfold ml_ls at hls'
  obtain ⟨sn, sv⟩ := ml_sn hls hT
  have b := ml_cs hs hm
  refine u_X12_tellSaying_0 ⟨sv, fun n1 e1 => ?_⟩
  rw [sn] at e1
  have q1 : ((10 : Int32) * (I 107 19)).toInt = 10 * (s : Int) := ml_mu (by decide) hT.2.1 (by omega) (by omega)
  have q2 : n1.toInt = 10 * (s : Int) + (I 125 s).toInt := by rw [e1]; exact ml_ad q1 rfl (by omega) (by omega)
  have nn := kl_nat (i := n1) (by omega)
  have v : vp_in n1 20 := kl_in (by omega) (by omega)
  have w0 : ∀ (J K : sm_I) (p : Nat) (x : Int32), (p = 126 ∧ 0 ≤ x.toInt ∧ x.toInt ≤ 1) ∨ p = 127 → en_mem ml_tb mlX (xLay, J, L, R) → ml_pS (ml_D0 l) I J → K = sm_up J p n1.toNatClampNeg x → en_mem ml_tb mlX (xLay, K, L, R) ∧ ml_pS (ml_D0 l) I K ∧ ml_pS (ml_D0 l) J K := by
    intro J K p x hp mJ pJ e
    have lJ : (J 107 18).toInt = l := by rw [pJ.1 107 18 (by unfold ml_D0 ml_hm; omega) (by omega)]; exact hT.1
    rw [e]
    rcases hp with ⟨c, b⟩ | c
    · subst c
      have w := ml_w0 (L := L) (R := R) (l := l) (p := 126) (j := n1.toNatClampNeg) (x := x) (n := 20) (q := (0, 1)) hl lJ (by unfold ml_D0 ml_hm; omega) mJ rfl b
      exact ⟨w.1, ml_pS_tr pJ w.2, w.2⟩
    · subst c
      have w := ml_w0 (L := L) (R := R) (l := l) (p := 127) (j := n1.toNatClampNeg) (x := x) (n := 20) (q := (-2147483648, 2147483647)) hl lJ (by unfold ml_D0 ml_hm; omega) mJ rfl en_crange
      exact ⟨w.1, ml_pS_tr pJ w.2, w.2⟩
  have M5 : ∀ (r14 : Int32) (J : sm_I), 0 ≤ r14.toInt → r14.toInt ≤ 500 → en_mem ml_tb mlX (xLay, J, L, R) → ml_pS (ml_D0 l) I J → ml_pg I J → sm_wp sm_P S (d + 5) 165 0 [.ref 107, .int (5 : Int32)] [] (xLay, J, L, (kM R)) (0, 0) (fun z => ∃ (I20 : sm_I) (L21 : sm_L) (R22 : sm_R), z = (none, (xLay, I20, L21, (kM R22))) ∧ (vp_in n1 20) ∧ ∀ I24 : sm_I, I24 = (sm_up I20 128 n1.toNatClampNeg (0 : Int32)) → sm_wp sm_P S (d + 6) 200 10 [.ref 107, .int n1, .int r14, .int (1 : Int32)] [] (xLay, I24, L21, (kM R22)) (0, 0) Φ) := by
    intro r14 J r0 r1 mJ pJ gJ
    refine mx_must mJ (fun K mK pK => ⟨K, L, R, rfl, v, fun I24 e24 => ?_⟩)
    have pIK : ml_pS (ml_D0 l) I K := ml_pS_tr pJ (ml_pS_no pK)
    have lK : (K 107 18).toInt = l := by rw [pIK.1 107 18 (by unfold ml_D0 ml_hm; omega) (by omega)]; exact hT.1
    have m24 : en_mem ml_tb mlX (xLay, I24, L, R) := by
      rw [e24]
      exact ml_wt hl lK ⟨by decide, by decide, by unfold ml_hl; omega⟩ (by decide) mK (ml_rq (n := 20) (q := (0, 4)) rfl (by decide))
    have p24 : ml_pS (ml_Ds l n1.toNatClampNeg) I I24 := by
      refine ml_pS_tr (ml_pS_mo pIK (fun p j c => Or.inr (Or.inr (Or.inr c)))) ?_
      rw [e24]; exact ml_pS_up (Or.inl ⟨rfl, rfl⟩) (by omega)
    have s24 : I24 125 s = I 125 s := p24.1 125 s (by unfold ml_Ds ml_D0 ml_hm; omega) (by omega)
    have z24 : (I24 128 n1.toNatClampNeg).toInt = 0 := by rw [e24, en_up_eq]; decide
    have g24 : ml_pg I I24 := by
      refine ml_pg_tr (D := ml_Ds l n1.toNatClampNeg) (ml_pg_tr gJ pK) ?_
      rw [e24]; exact ml_pS_up (Or.inl ⟨rfl, rfl⟩) (by omega)
    exact mx_say10 hls r0 r1 h 5 I24 1 (by rw [s24]; exact q2) (by rw [s24]; exact hs9) m24 (ml_pS_mo p24 (fun p j c => ml_Dsl hls (by omega) (by omega) c)) (ml_TI_s hls hm (by omega) hs9 p24 hT) g24 (fun _ c i hc => by rw [z24] at hc; omega) (fun _ _ => by rw [z24]; decide) (by rw [z24]; decide)
  refine mx_is hm (fun r5 hr5 _ => ⟨r5, I, L, R, rfl, v, fun I6 e6 => ?_⟩)
  obtain ⟨m6, p6, -⟩ := w0 I I6 126 _ (Or.inl ⟨rfl, ml_boo r5⟩) hm ml_pS_rf e6
  refine mx_goesOn m6 (fun J7 m7 p7 g7 => ⟨J7, L, R, rfl, mx_named m7 (fun r14 J11 r0 r1 m11 p11 => ⟨r14, J11, L, R, rfl, v, fun I15 e15 => ?_⟩)⟩)
  have g7' : ml_pg I J7 := ml_pg_lt p6 g7
  obtain ⟨m15, p15, q15⟩ := w0 J11 I15 127 1 (Or.inr rfl) m11 (ml_pS_tr p6 (ml_pS_no (ml_pS_tr p7 p11))) e15
  have g15 : ml_pg I I15 := ml_pg_tr (ml_pg_tr g7' p11) q15
  refine mx_is m15 (fun r19 _ _ => ⟨r19, I15, L, R, rfl, fun _ => M5 r14 I15 r0 r1 m15 p15 g15, fun _ => ⟨v, fun _ => ?_, fun _ => M5 r14 I15 r0 r1 m15 p15 g15⟩⟩)
  refine mx_goesOn m15 (fun J32 m32 p32 _ => ⟨J32, L, R, rfl, ?_⟩)
  have b32 : 0 ≤ (J32 107 11).toInt ∧ (J32 107 11).toInt ≤ 500 := ml_t m32
  have p32' : ml_pS (ml_D0 l) I J32 := ml_pS_tr p15 (ml_pS_no p32)
  have g32 : ml_pg I J32 := ml_pg_tr g15 p32
  have T : ∀ J : sm_I, en_mem ml_tb mlX (xLay, J, L, R) → ml_pS (ml_D0 l) I J → ml_pg I J → ((J 107 13 = 0 → (vp_in n1 20) ∧ ((J 127 n1.toNatClampNeg < (1 : Int32) → sm_wp sm_P S (d + 5) 213 0 [.ref 107, .int (5 : Int32), .int (J32 107 11)] [] (xLay, J, L, (kM R)) (0, 0) (fun z => ∃ (I51 : sm_I) (L52 : sm_L) (R53 : sm_R), z = (none, (xLay, I51, L52, (kM R53))) ∧ sm_wp sm_P S (d + 5) 165 0 [.ref 107, .int (5 : Int32)] [] (xLay, I51, L52, (kM R53)) (0, 0) (fun z => ∃ (I20 : sm_I) (L21 : sm_L) (R22 : sm_R), z = (none, (xLay, I20, L21, (kM R22))) ∧ (vp_in n1 20) ∧ ∀ I24 : sm_I, I24 = (sm_up I20 128 n1.toNatClampNeg (0 : Int32)) → sm_wp sm_P S (d + 6) 200 10 [.ref 107, .int n1, .int r14, .int (1 : Int32)] [] (xLay, I24, L21, (kM R22)) (0, 0) Φ))) ∧ (¬ J 127 n1.toNatClampNeg < (1 : Int32) → (vp_in n1 20) ∧ ((J 127 n1.toNatClampNeg ≤ (100 : Int32) → sm_wp sm_P S (d + 5) 165 0 [.ref 107, .int (5 : Int32)] [] (xLay, J, L, (kM R)) (0, 0) (fun z => ∃ (I20 : sm_I) (L21 : sm_L) (R22 : sm_R), z = (none, (xLay, I20, L21, (kM R22))) ∧ (vp_in n1 20) ∧ ∀ I24 : sm_I, I24 = (sm_up I20 128 n1.toNatClampNeg (0 : Int32)) → sm_wp sm_P S (d + 6) 200 10 [.ref 107, .int n1, .int r14, .int (1 : Int32)] [] (xLay, I24, L21, (kM R22)) (0, 0) Φ)) ∧ (¬ J 127 n1.toNatClampNeg ≤ (100 : Int32) → sm_wp sm_P S (d + 5) 213 0 [.ref 107, .int (5 : Int32), .int (J32 107 11)] [] (xLay, J, L, (kM R)) (0, 0) (fun z => ∃ (I51 : sm_I) (L52 : sm_L) (R53 : sm_R), z = (none, (xLay, I51, L52, (kM R53))) ∧ sm_wp sm_P S (d + 5) 165 0 [.ref 107, .int (5 : Int32)] [] (xLay, I51, L52, (kM R53)) (0, 0) (fun z => ∃ (I20 : sm_I) (L21 : sm_L) (R22 : sm_R), z = (none, (xLay, I20, L21, (kM R22))) ∧ (vp_in n1 20) ∧ ∀ I24 : sm_I, I24 = (sm_up I20 128 n1.toNatClampNeg (0 : Int32)) → sm_wp sm_P S (d + 6) 200 10 [.ref 107, .int n1, .int r14, .int (1 : Int32)] [] (xLay, I24, L21, (kM R22)) (0, 0) Φ))))))) ∧ (¬ J 107 13 = 0 → sm_wp sm_P S (d + 5) 165 0 [.ref 107, .int (5 : Int32)] [] (xLay, J, L, (kM R)) (0, 0) (fun z => ∃ (I20 : sm_I) (L21 : sm_L) (R22 : sm_R), z = (none, (xLay, I20, L21, (kM R22))) ∧ (vp_in n1 20) ∧ ∀ I24 : sm_I, I24 = (sm_up I20 128 n1.toNatClampNeg (0 : Int32)) → sm_wp sm_P S (d + 6) 200 10 [.ref 107, .int n1, .int r14, .int (1 : Int32)] [] (xLay, I24, L21, (kM R22)) (0, 0) Φ))) := by
    intro J mJ pJ gJ
    have wr := fun (K : sm_I) (mK : en_mem ml_tb mlX (xLay, K, L, R)) (pK : ml_pS ml_no J K) => M5 r14 K r0 r1 mK (ml_pS_tr pJ (ml_pS_no pK)) (ml_pg_tr gJ pK)
    exact ⟨fun _ => ⟨v, fun _ => mx_wrong (by decide) (by decide) b32.1 (by omega) mJ (fun K mK pK _ => ⟨K, L, R, rfl, wr K mK pK⟩), fun _ => ⟨v, fun _ => M5 r14 J r0 r1 mJ pJ gJ, fun _ => mx_wrong (by decide) (by decide) b32.1 (by omega) mJ (fun K mK pK _ => ⟨K, L, R, rfl, wr K mK pK⟩)⟩⟩, fun _ => M5 r14 J r0 r1 mJ pJ gJ⟩
  refine mx_is m32 (fun r39 _ _ => ⟨r39, J32, L, R, rfl, fun _ => ⟨v, fun I40 e40 => ?_⟩, fun _ => ⟨ml_vt m32, fun n83 _ => ⟨v, fun I84 e84 => ?_⟩⟩⟩)
  · obtain ⟨m40, p40, q40⟩ := w0 J32 I40 127 0 (Or.inr rfl) m32 p32' e40
    exact mx_must m40 (fun J mJ pJ => ⟨J, L, R, rfl, T J mJ (ml_pS_tr p40 (ml_pS_no pJ)) (ml_pg_tr (ml_pg_tr g32 q40) pJ)⟩)
  · obtain ⟨m40, p40, q40⟩ := w0 J32 I84 127 n83 (Or.inr rfl) m32 p32' e84
    exact mx_must m40 (fun J mJ pJ => ⟨J, L, R, rfl, T J mJ (ml_pS_tr p40 (ml_pS_no pJ)) (ml_pg_tr (ml_pg_tr g32 q40) pJ)⟩)
end
section
/-! OPEN ones, questions, tell -/
theorem mx_open13 {S : sm_C} {d : Nat} {Φ : sm_Z → Prop} {I0 : sm_I} {L0 L : sm_L} {R : sm_R} {x2 x3 x4 x5 : Int32} {l s : Nat} (hls : ml_ls l s) (m0 : en_mem ml_tb mlX (xLay, I0, L0, R)) (T0 : ml_TI l s I0) (ho : (I0 134 s).toInt ≤ 3) (b2 : -1 ≤ x2.toInt ∧ x2.toInt ≤ 9) (b3 : 0 ≤ x3.toInt ∧ x3.toInt ≤ 500) (b4 : -1 ≤ x4.toInt ∧ x4.toInt ≤ 9) (b5 : 240 + 4 * (s : Int) ≤ x5.toInt ∧ x5.toInt ≤ 243 + 4 * (s : Int)) (h : ∀ (J : sm_I) (L' : sm_L), ml_ok l s R I0 J L' → Φ (none, (xLay, J, L', kM R))) : ∀ (m : Nat) (I : sm_I) (x6 : Int32), en_mem ml_tb mlX (xLay, I, L, R) → ml_pS (ml_D0 l) I0 I → ml_pg I0 I → (I 134 s = I0 134 s) → 240 ≤ x6.toInt → x5.toInt - x6.toInt ≤ m → sm_wp sm_P S (d + 4) 198 13 [.ref 107, .int x2, .int x3, .int x4, .int x5, .int x6] [] (xLay, I, L, kM R) (0, 0) Φ := by
  obtain ⟨hl, hs⟩ := ml_l1 hls
  have hls0 := hls
  unfold ml_ls at hls0
  have n5 := kl_nat (i := x5) (by omega)
  have v5 : vp_in x5 260 := kl_in (by omega) (by omega)
  have live : ∀ J : sm_I, ml_pS (ml_D0 l) I0 J → (J 107 18).toInt = l := fun J pJ => by rw [pJ.1 107 18 (by unfold ml_D0 ml_hm; omega) (by omega)]; exact T0.1
  have TI : ∀ J : sm_I, ml_pS (ml_D0 l) I0 J → ml_TI l s J := fun J pJ => ml_TI_0 hls m0 pJ T0
  have END : ∀ I : sm_I, en_mem ml_tb mlX (xLay, I, L, R) → ml_pS (ml_D0 l) I0 I → ml_pg I0 I → (I 134 s = I0 134 s) → (vp_in x5 260) ∧ ∀ I1 : sm_I, I1 = (sm_up I 130 x5.toNatClampNeg x2) → (vp_in x5 260) ∧ ∀ I2 : sm_I, I2 = (sm_up I1 131 x5.toNatClampNeg x4) → sm_wp sm_P S (d + 3) 169 0 [.ref 107, .int (0 : Int32)] [] (xLay, I2, L, (kM R)) (0, 0) (fun z => ∃ (r6 : Int32) (I3 : sm_I) (L4 : sm_L) (R5 : sm_R), z = (some (.int r6), (xLay, I3, L4, (kM R5))) ∧ (vp_in x5 260) ∧ ∀ I7 : sm_I, I7 = (sm_up I3 132 x5.toNatClampNeg r6) → sm_wp sm_P S (d + 3) 169 0 [.ref 107, .int (0 : Int32)] [] (xLay, I7, L4, (kM R5)) (0, 0) (fun z => ∃ (r11 : Int32) (I8 : sm_I) (L9 : sm_L) (R10 : sm_R), z = (some (.int r11), (xLay, I8, L9, (kM R10))) ∧ (vp_in x5 260) ∧ ∀ I12 : sm_I, I12 = (sm_up I8 133 x5.toNatClampNeg r11) → sm_wp sm_P S (d + 3) 165 0 [.ref 107, .int (4 : Int32)] [] (xLay, I12, L9, (kM R10)) (0, 0) (fun z => ∃ (I13 : sm_I) (L14 : sm_L) (R15 : sm_R), z = (none, (xLay, I13, L14, (kM R15))) ∧ (((I13 107 13) ≤ 0 → ((x2 = (-1 : Int32) → (vp_in (I13 107 19) 2) ∧ ∀ n17 : Int32, n17 = ((I13 134 (I13 107 19).toNatClampNeg) + (1 : Int32)) → (vp_in (I13 107 19) 2) ∧ ∀ I18 : sm_I, I18 = (sm_up I13 134 (I13 107 19).toNatClampNeg n17) → Φ (none, (xLay, I18, L14, (kM R15)))) ∧ (¬ x2 = (-1 : Int32) → ∀ n19 : Int32, n19 = (((10 : Int32) * (I13 107 19)) + x2) → (vp_in n19 20) ∧ ∀ I20 : sm_I, I20 = (sm_up I13 135 n19.toNatClampNeg x5) → (vp_in (I20 107 19) 2) ∧ ∀ n21 : Int32, n21 = ((I20 134 (I20 107 19).toNatClampNeg) + (1 : Int32)) → (vp_in (I20 107 19) 2) ∧ ∀ I22 : sm_I, I22 = (sm_up I20 134 (I20 107 19).toNatClampNeg n21) → Φ (none, (xLay, I22, L14, (kM R15)))))) ∧ (¬ (I13 107 13) ≤ 0 → Φ (none, (xLay, I13, L14, (kM R15)))))))) := by
    intro I hm hp hg h134
    refine ⟨v5, fun I1 e1 => ⟨v5, fun I2 e2 => ?_⟩⟩
    have w1 := ml_w0 (L := L) (R := R) (l := l) (p := 130) (j := x5.toNatClampNeg) (x := x2) (n := 260) (q := (-1, 9)) hl (live I hp) (by unfold ml_D0 ml_hm; omega) hm rfl b2
    rw [← e1] at w1
    have p1 := ml_pS_tr hp w1.2
    have w2 := ml_w0 (L := L) (R := R) (l := l) (p := 131) (j := x5.toNatClampNeg) (x := x4) (n := 260) (q := (-1, 9)) hl (live I1 p1) (by unfold ml_D0 ml_hm; omega) w1.1 rfl b4
    rw [← e2] at w2
    have p2 := ml_pS_tr p1 w2.2
    refine mx_number w2.1 (fun r6 I3 m3 p3 => ⟨r6, I3, L, R, rfl, v5, fun I7 e7 => ?_⟩)
    have p3' := ml_pS_tr p2 (ml_pS_no p3)
    have w7 := ml_w0 (L := L) (R := R) (l := l) (p := 132) (j := x5.toNatClampNeg) (x := r6) (n := 260) (q := (-2147483648, 2147483647)) hl (live I3 p3') (by unfold ml_D0 ml_hm; omega) m3 rfl en_crange
    rw [← e7] at w7
    have p7 := ml_pS_tr p3' w7.2
    refine mx_number w7.1 (fun r11 I8 m8 p8 => ⟨r11, I8, L, R, rfl, v5, fun I12 e12 => ?_⟩)
    have p8' := ml_pS_tr p7 (ml_pS_no p8)
    have w12 := ml_w0 (L := L) (R := R) (l := l) (p := 133) (j := x5.toNatClampNeg) (x := r11) (n := 260) (q := (-2147483648, 2147483647)) hl (live I8 p8') (by unfold ml_D0 ml_hm; omega) m8 rfl en_crange
    rw [← e12] at w12
    have p12 := ml_pS_tr p8' w12.2
    have g12 : ml_pg I0 I12 := ml_pg_tr (ml_pg_tr (ml_pg_tr (ml_pg_tr (ml_pg_tr (ml_pg_tr hg w1.2) w2.2) p3) w7.2) p8) w12.2
    have o134 : I12 134 s = I0 134 s := by
      rw [e12, en_up_ne _ _ _ _ (by omega), ml_pS_g p8 (by omega), e7, en_up_ne _ _ _ _ (by omega), ml_pS_g p3 (by omega), e2, en_up_ne _ _ _ _ (by omega), e1, en_up_ne _ _ _ _ (by omega), h134]
    refine mx_must w12.1 (fun I13 m13 p13 => ⟨I13, L, R, rfl, fun _ => ?_, fun _ => ?_⟩)
    all_goals
      have pI := ml_pS_tr p12 (ml_pS_no p13)
      have g13 : ml_pg I0 I13 := ml_pg_tr g12 p13
    · obtain ⟨sn, sv⟩ := ml_sn hls (TI I13 pI)
      have q134 : I13 134 s = I0 134 s := by rw [ml_pS_g p13 (by omega)]; exact o134
      have b134 : 0 ≤ (I13 134 s).toInt ∧ (I13 134 s).toInt ≤ 4 := ml_row m13 (p := 134) (n := 2) (q := (0, 4)) (fun _ => rfl) _ (by omega)
      have cnt : ∀ (J K : sm_I) (n : Int32), en_mem ml_tb mlX (xLay, J, L, R) → ml_pS (ml_D0 l) I0 J → ml_pg I0 J → J 134 s = I0 134 s → n = J 134 s + 1 → K = sm_up J 134 s n → Φ (none, (xLay, K, L, kM R)) := by
        intro J K n mJ pJ gJ qJ en eK
        rw [q134] at b134
        have sn' : n.toInt = (I0 134 s).toInt + 1 := by rw [en, qJ]; exact ml_in1 (by omega)
        have w := ml_w0 (L := L) (R := R) (l := l) (p := 134) (j := s) (x := n) (n := 2) (q := (0, 4)) hl (live J pJ) (by unfold ml_D0 ml_hm; omega) mJ rfl (by show 0 ≤ _ ∧ _ ≤ (4 : Int); omega)
        rw [← eK] at w
        exact h K L ⟨w.1, ml_D0l hl (ml_pS_tr pJ w.2), TI K (ml_pS_tr pJ w.2), ml_pg_tr gJ w.2⟩
      refine ⟨fun _ => ⟨sv, fun n17 e17 => ⟨sv, fun I18 e18 => ?_⟩⟩, fun c2 n19 e19 => ?_⟩
      · rw [sn] at e17 e18
        exact cnt I13 I18 n17 m13 pI g13 q134 e17 e18
      · have c2 := ml_m1 c2
        have hls' := hls
        unfold ml_ls at hls'
        have q1 : ((10 : Int32) * (I13 107 19)).toInt = 10 * (s : Int) := ml_mu (by decide) (TI I13 pI).2.1 (by omega) (by omega)
        have q2 : n19.toInt = 10 * (s : Int) + x2.toInt := by rw [e19]; exact ml_ad q1 rfl (by omega) (by omega)
        have n19n := kl_nat (i := n19) (by omega)
        refine ⟨kl_in (by omega) (by omega), fun I20 e20 => ?_⟩
        have w20 := ml_w0 (L := L) (R := R) (l := l) (p := 135) (j := n19.toNatClampNeg) (x := x5) (n := 20) (q := (-1, 247)) hl (live I13 pI) (by unfold ml_D0 ml_hm; omega) m13 rfl (by show (-1 : Int) ≤ _ ∧ _ ≤ (247 : Int); omega)
        rw [← e20] at w20
        have p20 := ml_pS_tr pI w20.2
        obtain ⟨sn2, sv2⟩ := ml_sn hls (TI I20 p20)
        refine ⟨sv2, fun n21 e21 => ⟨sv2, fun I22 e22 => ?_⟩⟩
        rw [sn2] at e21 e22
        exact cnt I20 I22 n21 w20.1 p20 (ml_pg_tr g13 w20.2) (by rw [e20, en_up_ne _ _ _ _ (by omega)]; exact q134) e21 e22
    · exact h I13 L ⟨m13, ml_D0l hl pI, TI I13 pI, g13⟩
  intro m
  induction m with
  | zero =>
    intro I x6 hm hp hg h134 h6 hM
    refine u_X12_tellOpen_13 ⟨fun _ => END I hm hp hg h134, fun a => ?_⟩
    have := kl_nle a
    omega
  | succ m ih =>
    intro I x6 hm hp hg h134 h6 hM
    refine u_X12_tellOpen_13 ⟨fun _ => END I hm hp hg h134, fun a => ⟨fun _ => ⟨fun _ => END I hm hp hg h134, fun _ => ?_⟩, fun _ => END I hm hp hg h134⟩⟩
    have a := kl_nle a
    have s6 := ml_in1 (x := x6) (by omega)
    refine ⟨kl_in (by omega) (by omega), fun _ => ?_, fun _ => ih I _ hm hp hg h134 (by omega) (by omega)⟩
    refine mx_wrong (by decide) (by decide) b3.1 (by omega) hm (fun J mJ pJ _ => ⟨J, L, R, rfl, ih J _ mJ (ml_pS_tr hp (ml_pS_no pJ)) (ml_pg_tr hg pJ) (by rw [ml_pS_g pJ (by omega)]; exact h134) (by omega) (by omega)⟩)
theorem mx_tellOpen {S : sm_C} {d : Nat} {Φ : sm_Z → Prop} {I : sm_I} {L : sm_L} {R : sm_R} {l s : Nat} (hls : ml_ls l s) (hm : en_mem ml_tb mlX (xLay, I, L, R)) (hT : ml_TI l s I) (ho : (I 134 s).toInt ≤ 3) (h : ∀ (J : sm_I) (L' : sm_L), ml_ok l s R I J L' → Φ (none, (xLay, J, L', kM R))) : sm_wp sm_P S (d + 4) 198 0 [.ref 107] [] (xLay, I, L, kM R) (0, 0) Φ := by
  obtain ⟨hl, hs⟩ := ml_l1 hls
  have hls' := hls
  unfold ml_ls at hls'
  have b134 : 0 ≤ (I 134 s).toInt ∧ (I 134 s).toInt ≤ 4 := ml_row hm (p := 134) (n := 2) (q := (0, 4)) (fun _ => rfl) _ (by omega)
  have g12 : ∀ (x2 x3 x4 x5 : Int32) (J : sm_I), en_mem ml_tb mlX (xLay, J, L, R) → ml_pS ml_no I J → ml_pg I J → (-1 ≤ x2.toInt ∧ x2.toInt ≤ 9) → (0 ≤ x3.toInt ∧ x3.toInt ≤ 500) → (-1 ≤ x4.toInt ∧ x4.toInt ≤ 9) → (240 + 4 * (s : Int) ≤ x5.toInt ∧ x5.toInt ≤ 243 + 4 * (s : Int)) → sm_wp sm_P S (d + 4) 198 12 [.ref 107, .int x2, .int x3, .int x4, .int x5] [] (xLay, J, L, kM R) (0, 0) Φ := by
    intro x2 x3 x4 x5 J mJ pJ gJ b2 b3 b4 b5
    refine u_X12_tellOpen_12 (fun n1 e1 => ?_)
    have q1 : ((4 : Int32) * (J 107 19)).toInt = 4 * (s : Int) := ml_mu (by decide) (ml_TI_no hls hm pJ hT).2.1 (by omega) (by omega)
    have q2 : n1.toInt = 240 + 4 * (s : Int) := by rw [e1]; exact ml_ad (by decide) q1 (by omega) (by omega)
    exact mx_open13 hls hm hT ho b2 b3 b4 b5 h 8 J n1 mJ (ml_pS_no pJ) gJ (ml_pS_g pJ (by omega)) (by omega) (by omega)
  have g7 : ∀ (x2 x3 x4 x5 : Int32) (J : sm_I), en_mem ml_tb mlX (xLay, J, L, R) → ml_pS ml_no I J → ml_pg I J → (-1 ≤ x2.toInt ∧ x2.toInt ≤ 9) → (0 ≤ x3.toInt ∧ x3.toInt ≤ 500) → (-1 ≤ x4.toInt ∧ x4.toInt ≤ 9) → (240 + 4 * (s : Int) ≤ x5.toInt ∧ x5.toInt ≤ 243 + 4 * (s : Int)) → sm_wp sm_P S (d + 4) 198 7 [.ref 107, .int x2, .int x3, .int x4, .int x5] [] (xLay, J, L, kM R) (0, 0) Φ := by
    intro x2 x3 x4 x5 J mJ pJ gJ b2 b3 b4 b5
    have go := g12 x2 x3 x4 x5 J mJ pJ gJ b2 b3 b4 b5
    have wr : sm_wp sm_P S (d + 3) 213 0 [.ref 107, .int (5 : Int32), .int x3] [] (xLay, J, L, (kM R)) (0, 0) (fun z => ∃ (I1 : sm_I) (L2 : sm_L) (R3 : sm_R), z = (none, (xLay, I1, L2, (kM R3))) ∧ sm_wp sm_P S (d + 4) 198 12 [.ref 107, .int x2, .int x3, .int x4, .int x5] [] (xLay, I1, L2, (kM R3)) (0, 0) Φ) := mx_wrong (by decide) (by decide) b3.1 (by omega) mJ (fun K mK pK _ => ⟨K, L, R, rfl, g12 x2 x3 x4 x5 K mK (ml_pS_tr pJ pK) (ml_pg_tr gJ pK) b2 b3 b4 b5⟩)
    refine u_X12_tellOpen_7 ⟨fun _ => ⟨fun _ => go, fun c4 => ⟨fun _ => wr, fun _ n6 e6 => ?_⟩⟩, fun _ => go⟩
    have c4 := ml_m1 c4
    have q1 : ((10 : Int32) * (J 107 19)).toInt = 10 * (s : Int) := ml_mu (by decide) (ml_TI_no hls hm pJ hT).2.1 (by omega) (by omega)
    have q2 : n6.toInt = 10 * (s : Int) + x4.toInt := by rw [e6]; exact ml_ad q1 rfl (by omega) (by omega)
    exact ⟨kl_in (by omega) (by omega), fun _ => go, fun _ => wr⟩
  refine u_X12_tellOpen_0 (mx_goesOn hm (fun J1 m1 p1 g1 => ⟨J1, L, R, rfl, mx_known m1 (fun r8 J5 m5 p5 a1 a2 a3 a4 a5 => ⟨r8, J5, L, R, rfl, mx_must m5 (fun J9 m9 p9 => ⟨J9, L, R, rfl, ?_⟩)⟩)⟩))
  have pI9 : ml_pS ml_no I J9 := ml_pS_tr p1 (ml_pS_tr p5 p9)
  have g9 : ml_pg I J9 := ml_pg_tr g1 (ml_pS_tr p5 p9)
  have t1 : 0 ≤ (J1 107 11).toInt ∧ (J1 107 11).toInt ≤ 500 := ml_t m1
  have t9 : 0 ≤ (J9 107 11).toInt ∧ (J9 107 11).toInt ≤ 500 := ml_t m9
  have X : ∀ (y : Int32) (J : sm_I), en_mem ml_tb mlX (xLay, J, L, R) → ml_pS ml_no I J → ml_pg I J → (-1 ≤ y.toInt ∧ y.toInt ≤ 9) → (vp_in (J 107 19) 2) ∧ ∀ n17 : Int32, n17 = (((240 : Int32) + ((4 : Int32) * (J 107 19))) + (J 134 (J 107 19).toNatClampNeg)) → (((J 107 13) = 0 → ((r8 = (-1 : Int32) → sm_wp sm_P S (d + 4) 198 7 [.ref 107, .int r8, .int (J9 107 11), .int y, .int n17] [] (xLay, J, L, (kM R)) (0, 0) Φ) ∧ (¬ r8 = (-1 : Int32) → ∀ n18 : Int32, n18 = (((10 : Int32) * (J 107 19)) + r8) → (vp_in n18 20) ∧ (((J 135 n18.toNatClampNeg) = (-1 : Int32) → sm_wp sm_P S (d + 4) 198 7 [.ref 107, .int r8, .int (J9 107 11), .int y, .int n17] [] (xLay, J, L, (kM R)) (0, 0) Φ) ∧ (¬ (J 135 n18.toNatClampNeg) = (-1 : Int32) → sm_wp sm_P S (d + 3) 213 0 [.ref 107, .int (5 : Int32), .int (J1 107 11)] [] (xLay, J, L, (kM R)) (0, 0) (fun z => ∃ (I19 : sm_I) (L20 : sm_L) (R21 : sm_R), z = (none, (xLay, I19, L20, (kM R21))) ∧ sm_wp sm_P S (d + 4) 198 7 [.ref 107, .int r8, .int (J9 107 11), .int y, .int n17] [] (xLay, I19, L20, (kM R21)) (0, 0) Φ)))))) ∧ (¬ (J 107 13) = 0 → sm_wp sm_P S (d + 4) 198 7 [.ref 107, .int r8, .int (J9 107 11), .int y, .int n17] [] (xLay, J, L, (kM R)) (0, 0) Φ)) := by
    intro y J mJ pJ gJ hy
    have TJ := ml_TI_no hls hm pJ hT
    obtain ⟨sn, sv⟩ := ml_sn hls TJ
    refine ⟨sv, fun n17 e17 => ?_⟩
    rw [sn, ml_pS_g pJ (p := 134) (by omega)] at e17
    have q1 : ((4 : Int32) * (J 107 19)).toInt = 4 * (s : Int) := ml_mu (by decide) TJ.2.1 (by omega) (by omega)
    have q2 : ((240 : Int32) + ((4 : Int32) * (J 107 19))).toInt = 240 + 4 * (s : Int) := ml_ad (by decide) q1 (by omega) (by omega)
    have q3 : n17.toInt = 240 + 4 * (s : Int) + (I 134 s).toInt := by rw [e17]; exact ml_ad q2 rfl (by omega) (by omega)
    have b17 : 240 + 4 * (s : Int) ≤ n17.toInt ∧ n17.toInt ≤ 243 + 4 * (s : Int) := by omega
    have go := g7 r8 (J9 107 11) y n17 J mJ pJ gJ ⟨a1, a2⟩ t9 hy b17
    refine ⟨fun _ => ⟨fun _ => go, fun c8 n18 e18 => ?_⟩, fun _ => go⟩
    have c8 := ml_m1 c8
    have q4 : ((10 : Int32) * (J 107 19)).toInt = 10 * (s : Int) := ml_mu (by decide) TJ.2.1 (by omega) (by omega)
    have q5 : n18.toInt = 10 * (s : Int) + r8.toInt := by rw [e18]; exact ml_ad q4 rfl (by omega) (by omega)
    exact ⟨kl_in (by omega) (by omega), fun _ => go, fun _ => mx_wrong (by decide) (by decide) t1.1 (by omega) mJ (fun K mK pK _ => ⟨K, L, R, rfl, g7 r8 (J9 107 11) y n17 K mK (ml_pS_tr pJ pK) (ml_pg_tr gJ pK) ⟨a1, a2⟩ t9 hy b17⟩)⟩
  exact ⟨fun _ => mx_known m9 (fun r16 J13 m13 p13 c1 c2 c3 c4 c5 => ⟨r16, J13, L, R, rfl, X r16 J13 m13 (ml_pS_tr pI9 p13) (ml_pg_tr g9 p13) ⟨c1, c2⟩⟩), fun _ => X 0 J9 m9 pI9 g9 (by decide)⟩
theorem mx_tellQuestion {S : sm_C} {d : Nat} {Φ : sm_Z → Prop} {I : sm_I} {L : sm_L} {R : sm_R} {l s : Nat} (hls : ml_ls l s) (hm : en_mem ml_tb mlX (xLay, I, L, R)) (hT : ml_TI l s I) (hq : (I 136 s).toInt ≤ 4) (h : ∀ (J : sm_I) (L' : sm_L), ml_ok l s R I J L' → Φ (none, (xLay, J, L', kM R))) : sm_wp sm_P S (d + 5) 199 0 [.ref 107] [] (xLay, I, L, kM R) (0, 0) Φ := by
  obtain ⟨hl, hs⟩ := ml_l1 hls
  have hls' := hls
  unfold ml_ls at hls'
  have b := ml_cs hs hm
  refine u_X12_tellQuestion_0 (mx_goesOn hm (fun J1 m1 p1 g1 => ⟨J1, L, R, rfl, mx_named m1 (fun r8 J5 r0 r1 m5 p5 => ⟨r8, J5, L, R, rfl, mx_must m5 (fun J9 m9 p9 => ⟨J9, L, R, rfl, ?_⟩)⟩)⟩))
  have pI9 : ml_pS ml_no I J9 := ml_pS_tr p1 (ml_pS_tr p5 p9)
  have g9 : ml_pg I J9 := ml_pg_tr g1 (ml_pS_tr p5 p9)
  have T9 := ml_TI_no hls hm pI9 hT
  have Q : ∀ J : sm_I, en_mem ml_tb mlX (xLay, J, L, R) → ml_pS (ml_D0 l) I J → ml_pg I J → sm_wp sm_P S (d + 4) 165 0 [.ref 107, .int (4 : Int32)] [] (xLay, J, L, (kM R)) (0, 0) (fun z => ∃ (I32 : sm_I) (L33 : sm_L) (R34 : sm_R), z = (none, (xLay, I32, L33, (kM R34))) ∧ (((I32 107 13) ≤ 0 → (vp_in (I32 107 19) 2) ∧ ∀ n36 : Int32, n36 = (I32 136 (I32 107 19).toNatClampNeg) → sm_wp sm_P S (d + 4) 155 0 [.ref 107, .int r8, .int (4 : Int32), .int n36] [] (xLay, I32, L33, (kM R34)) (0, 0) (fun z => ∃ (I37 : sm_I) (L38 : sm_L) (R39 : sm_R), z = (none, (xLay, I37, L38, (kM R39))) ∧ (vp_in (I37 107 19) 2) ∧ ∀ n41 : Int32, n41 = ((I37 136 (I37 107 19).toNatClampNeg) + (1 : Int32)) → (vp_in (I37 107 19) 2) ∧ ∀ I42 : sm_I, I42 = (sm_up I37 136 (I37 107 19).toNatClampNeg n41) → Φ (none, (xLay, I42, L38, (kM R39))))) ∧ (¬ (I32 107 13) ≤ 0 → Φ (none, (xLay, I32, L33, (kM R34)))))) := by
    intro J mJ pJ gJ
    refine mx_must mJ (fun J3 m3 p3 => ⟨J3, L, R, rfl, fun _ => ?_, fun _ => ?_⟩)
    all_goals
      have pI : ml_pS (ml_D0 l) I J3 := ml_pS_tr pJ (ml_pS_no p3)
      have T3 : ml_TI l s J3 := ml_TI_0 hls hm pI hT
      have g3 : ml_pg I J3 := ml_pg_tr gJ p3
    · obtain ⟨sn, sv⟩ := ml_sn hls T3
      have e136 : J3 136 s = I 136 s := pI.1 136 s (by unfold ml_D0 ml_hm; omega) (by omega)
      refine ⟨sv, fun n36 e36 => ?_⟩
      rw [sn, e136] at e36
      refine mx_knows r0 r1 (by decide) (by rw [e36]; omega) (fun c => absurd c (by decide)) (fun c => absurd c (by decide)) (ml_nm49 hls T3 m3) m3 (fun K L' mK pK nK => ⟨K, L', R, rfl, ?_⟩)
      have k19 : K 107 19 = J3 107 19 := pK.1 107 19 (by unfold ml_kn; omega) (by omega)
      rw [k19]
      refine ⟨sv, fun n41 e41 => ⟨sv, fun J' e => h J' L' ?_⟩⟩
      rw [sn] at e41 e
      exact ml_done hls m3 T3 (ml_D0l hl pI) g3 mK pK nK (Or.inr (Or.inr (Or.inr (Or.inr rfl)))) (mx := 5) (by rcases hls' with ⟨-, c⟩ | ⟨-, c⟩ <;> subst c <;> rfl) e41 (by rw [e136]; omega) (by rw [e136]; omega) (by omega) e (ml_V3 hls m3 T3 pK (Or.inr (Or.inr rfl)) e)
    · exact h J3 L ⟨m3, ml_D0l hl pI, T3, g3⟩
  refine ⟨fun _ => ?_, fun _ => Q J9 m9 (ml_pS_no pI9) g9⟩
  obtain ⟨sn, sv⟩ := ml_sn hls T9
  refine ⟨sv, fun n27 e27 => ?_⟩
  rw [sn, ml_pS_g pI9 (p := 136) (by omega)] at e27
  have q1 : ((6 : Int32) * (J9 107 19)).toInt = 6 * (s : Int) := ml_mu (by decide) T9.2.1 (by omega) (by omega)
  have q2 : ((248 : Int32) + ((6 : Int32) * (J9 107 19))).toInt = 248 + 6 * (s : Int) := ml_ad (by decide) q1 (by omega) (by omega)
  have q3 : n27.toInt = 248 + 6 * (s : Int) + (I 136 s).toInt := by rw [e27]; exact ml_ad q2 rfl (by omega) (by omega)
  have n2 := kl_nat (i := n27) (by omega)
  refine mx_tellSpan hl T9.1 (by omega) (by omega) (by unfold ml_hl; omega) m9 (fun J m p _ => ⟨J, L, R, rfl, ?_⟩)
  have pJ : ml_pS (ml_D0 l) J9 J := ml_pS_mo p (fun a b c => by unfold ml_sp at c; unfold ml_D0 ml_hm; omega)
  exact Q J m (ml_pS_tr (ml_pS_no pI9) pJ) (ml_pg_tr g9 pJ)
theorem mx_tell {S : sm_C} {d : Nat} {Φ : sm_Z → Prop} {I : sm_I} {L : sm_L} {R : sm_R} {l s : Nat} (hls : ml_ls l s) (hm : en_mem ml_tb mlX (xLay, I, L, R)) (hT : ml_TI l s I) (h : ∀ (J : sm_I) (L' : sm_L), ml_ok l s R I J L' → Φ (none, (xLay, J, L', kM R))) : sm_wp sm_P S (d + 7) 195 0 [.ref 107] [] (xLay, I, L, kM R) (0, 0) Φ := by
  obtain ⟨hl, hs⟩ := ml_l1 hls
  obtain ⟨sn, sv⟩ := ml_sn hls hT
  have b := ml_cs hs hm
  have b120 : 0 ≤ (I 120 s).toInt ∧ (I 120 s).toInt ≤ 12 := ml_row hm (p := 120) (n := 2) (q := (0, 12)) (fun _ => rfl) _ (by omega)
  have b134 : 0 ≤ (I 134 s).toInt ∧ (I 134 s).toInt ≤ 4 := ml_row hm (p := 134) (n := 2) (q := (0, 4)) (fun _ => rfl) _ (by omega)
  have fin : ∀ (J : sm_I) (L' : sm_L), ml_ok l s R I J L' → sm_wp sm_P S (d + 7) 195 30 [] [] (xLay, J, L', kM R) (0, 0) Φ := fun J L' o => u_X12_tell_30 (h J L' o)
  have bad : ∀ (J : sm_I), en_mem ml_tb mlX (xLay, J, L, R) → ml_pS ml_no I J → ¬ J 107 13 = 0 → sm_wp sm_P S (d + 7) 195 30 [] [] (xLay, J, L, kM R) (0, 0) Φ := fun J mJ pJ fJ => fin J L ⟨mJ, ml_pS_no pJ, ml_TI_no hls hm pJ hT, Or.inl fJ⟩
  have dft : sm_wp sm_P S (d + 6) 123 0 [.ref 107, .int (1 : Int32)] [] (xLay, I, L, (kM R)) (0, 0) (fun z => ∃ (I2 : sm_I) (L3 : sm_L) (R4 : sm_R), z = (none, (xLay, I2, L3, (kM R4))) ∧ sm_wp sm_P S (d + 7) 195 30 [] [] (xLay, I2, L3, (kM R4)) (0, 0) Φ) := mx_fail (by decide) (by decide) hm (fun J mJ pJ fJ => ⟨J, L, R, rfl, bad J mJ pJ fJ⟩)
  have full : ∀ B : Nat, (∀ J : sm_I, en_mem ml_tb mlX (xLay, J, L, R) → ml_pS ml_no I J → ¬ J 107 13 = 0 → sm_wp sm_P S (d + 7) 195 B [.ref 107] [] (xLay, J, L, kM R) (0, 0) Φ) → sm_wp sm_P S (d + 6) 123 0 [.ref 107, .int (2 : Int32)] [] (xLay, I, L, (kM R)) (0, 0) (fun z => ∃ (I2 : sm_I) (L3 : sm_L) (R4 : sm_R), z = (none, (xLay, I2, L3, (kM R4))) ∧ sm_wp sm_P S (d + 7) 195 B [.ref 107] [] (xLay, I2, L3, (kM R4)) (0, 0) Φ) := fun B k => mx_fail (by decide) (by decide) hm (fun J mJ pJ fJ => ⟨J, L, R, rfl, k J mJ pJ fJ⟩)
  have ne : ∀ {x k : Int32} {n : Int}, k.toInt = n → ¬ x = k → x.toInt ≠ n := fun e c q => c (en_ofI (by rw [q, e]))
  have c19 : ((I 125 s = (10 : Int32) → sm_wp sm_P S (d + 6) 123 0 [.ref 107, .int (2 : Int32)] [] (xLay, I, L, (kM R)) (0, 0) (fun z => ∃ (I2 : sm_I) (L3 : sm_L) (R4 : sm_R), z = (none, (xLay, I2, L3, (kM R4))) ∧ sm_wp sm_P S (d + 7) 195 19 [.ref 107] [] (xLay, I2, L3, (kM R4)) (0, 0) Φ)) ∧ (¬ I 125 s = (10 : Int32) → sm_wp sm_P S (d + 7) 195 19 [.ref 107] [] (xLay, I, L, (kM R)) (0, 0) Φ)) := ⟨fun _ => full 19 (fun J mJ pJ fJ => u_X12_tell_19 ⟨fun c => absurd c fJ, fun _ => bad J mJ pJ fJ⟩), fun c => u_X12_tell_19 ⟨fun _ => mx_tellSaying hls hm hT (by have := ne (n := 10) (by decide) c; omega) (fun J L' o => ⟨J, L', R, rfl, fin J L' o⟩), fun f => bad I hm ml_pS_rf f⟩⟩
  refine u_X12_tell_0 ⟨ml_vt hm, fun n1 _ => ?_⟩
  rw [sn]
  refine ⟨fun _ => ⟨sv, fun _ => full 3 (fun J mJ pJ fJ => u_X12_tell_3 ⟨fun c => absurd c fJ, fun _ => bad J mJ pJ fJ⟩), fun c => u_X12_tell_3 ⟨fun _ => mx_tellName hls hm hT (Or.inl ⟨rfl, by have := ne (n := 4) (by decide) c; omega⟩) (fun J L' o => ⟨J, L', R, rfl, fin J L' o⟩), fun f => bad I hm ml_pS_rf f⟩⟩, fun _ => ?_⟩
  refine ⟨fun _ => ⟨sv, fun _ => full 7 (fun J mJ pJ fJ => u_X12_tell_7 ⟨fun c => absurd c fJ, fun _ => bad J mJ pJ fJ⟩), fun c => u_X12_tell_7 ⟨fun _ => mx_tellName hls hm hT (Or.inr ⟨rfl, by have := ne (n := 6) (by decide) c; omega⟩) (fun J L' o => ⟨J, L', R, rfl, fin J L' o⟩), fun f => bad I hm ml_pS_rf f⟩⟩, fun _ => ?_⟩
  refine ⟨fun _ => ⟨sv, fun _ => full 11 (fun J mJ pJ fJ => u_X12_tell_11 ⟨fun c => absurd c fJ, fun _ => bad J mJ pJ fJ⟩), fun c => u_X12_tell_11 ⟨fun _ => mx_tellWay hls hm hT (by have := ne (n := 12) (by decide) c; omega) (fun J L' o => ⟨J, L', R, rfl, fin J L' o⟩), fun f => bad I hm ml_pS_rf f⟩⟩, fun _ => ?_⟩
  refine ⟨fun _ => ⟨sv, fun _ => full 15 (fun J mJ pJ fJ => u_X12_tell_15 ⟨fun c => absurd c fJ, fun _ => bad J mJ pJ fJ⟩), fun c => u_X12_tell_15 ⟨fun _ => mx_tellTime hls hm hT (by have := ne (n := 10) (by decide) c; omega) (fun J L' o => ⟨J, L', R, rfl, fin J L' o⟩), fun f => bad I hm ml_pS_rf f⟩⟩, fun _ => ?_⟩
  refine ⟨fun _ => dft, fun _ => ⟨fun _ => dft, fun _ => ⟨fun _ => ⟨sv, c19⟩, fun _ => ⟨fun _ => ⟨sv, c19⟩, fun _ => ⟨fun _ => dft, fun _ => ⟨fun _ => dft, fun _ => ⟨fun _ => dft, fun _ => ⟨fun _ => dft, fun _ => ?_⟩⟩⟩⟩⟩⟩⟩⟩
  refine ⟨fun _ => ⟨sv, fun _ => full 23 (fun J mJ pJ fJ => u_X12_tell_23 ⟨fun c => absurd c fJ, fun _ => bad J mJ pJ fJ⟩), fun c => u_X12_tell_23 ⟨fun _ => mx_tellOpen hls hm hT (by have := ne (n := 4) (by decide) c; omega) (fun J L' o => ⟨J, L', R, rfl, fin J L' o⟩), fun f => bad I hm ml_pS_rf f⟩⟩, fun _ => ?_⟩
  refine ⟨fun _ => ⟨sv, fun _ => full 27 (fun J mJ pJ fJ => u_X12_tell_27 ⟨fun c => absurd c fJ, fun _ => bad J mJ pJ fJ⟩), fun c => u_X12_tell_27 ⟨fun _ => mx_tellQuestion hls hm hT (by have := ne (n := 5) (by decide) c; omega) (fun J L' o => ⟨J, L', R, rfl, fin J L' o⟩), fun f => bad I hm ml_pS_rf f⟩⟩, fun _ => dft⟩
end
section
/-! cut -/
def ml_Dc (p j : Nat) : Prop := (p = 107 ∧ j = 10) ∨ p = 110 ∨ p = 111 ∨ p = 112
def ml_cf (I J : sm_I) : Prop := ∀ p j, ¬ ml_Dc p j → J p j = I p j
theorem ml_cf_tr {I J K : sm_I} (h : ml_cf I J) (g : ml_cf J K) : ml_cf I K := fun p j a => (g p j a).trans (h p j a)
def ml_by (I : sm_I) (x : Int32) : Int32 := if I 107 4 ≤ x then 0 else I 109 x.toNatClampNeg &&& 255
theorem ml_sz {I : sm_I} {L : sm_L} {R : sm_R} (hm : en_mem ml_tb mlX (xLay, I, L, R)) : 0 ≤ (I 107 4).toInt ∧ (I 107 4).toInt ≤ 2000 := hm.2.1 107 4 (0, 2000) (by decide +kernel)
theorem ml_tk {I : sm_I} {L : sm_L} {R : sm_R} (hm : en_mem ml_tb mlX (xLay, I, L, R)) : 0 ≤ (I 107 10).toInt ∧ (I 107 10).toInt ≤ 501 := hm.2.1 107 10 (0, 501) (by decide +kernel)
theorem mx_byteAt {S : sm_C} {d : Nat} {Φ : sm_Z → Prop} {I : sm_I} {L : sm_L} {R : sm_R} {x : Int32} (h0 : 0 ≤ x.toInt) (hm : en_mem ml_tb mlX (xLay, I, L, R)) (h : Φ (some (.int (ml_by I x)), (xLay, I, L, kM R))) : sm_wp sm_P S d 108 0 [.ref 107, .int x] [] (xLay, I, L, kM R) (0, 0) Φ := by
  have b := ml_sz hm
  unfold ml_by at h
  refine u_X12_byteAt_0 ⟨fun a => ?_, fun a => ⟨?_, ?_⟩⟩
  · rw [if_pos a] at h; exact h
  · have := kl_nle a
    exact kl_in h0 (by omega)
  · rw [if_neg a] at h; exact h
theorem mx_isLetter {S : sm_C} {d : Nat} {Φ : sm_Z → Prop} {I : sm_I} {L : sm_L} {R : sm_R} {x : Int32} (h : ∀ r : Int32, (¬ r = 0 → 97 ≤ x.toInt) → Φ (some (.int r), (xLay, I, L, kM R))) : sm_wp sm_P S d 146 0 [.int x] [] (xLay, I, L, kM R) (0, 0) Φ := by
  have c : (97 : Int32).toInt = 97 := by decide
  refine u_X12_isLetter_0 ⟨fun _ => h 0 (fun q => absurd rfl q), fun a => ⟨fun _ => h 0 (fun q => absurd rfl q), fun _ => h 1 (fun _ => ?_)⟩⟩
  have := kl_nlt a
  rw [c] at this
  exact this
theorem mx_isDigit {S : sm_C} {d : Nat} {Φ : sm_Z → Prop} {I : sm_I} {L : sm_L} {R : sm_R} {x : Int32} (h : ∀ r : Int32, (¬ r = 0 → 48 ≤ x.toInt ∧ x.toInt ≤ 57) → Φ (some (.int r), (xLay, I, L, kM R))) : sm_wp sm_P S d 144 0 [.int x] [] (xLay, I, L, kM R) (0, 0) Φ := by
  have c : (48 : Int32).toInt = 48 := by decide
  have c' : (57 : Int32).toInt = 57 := by decide
  refine u_X12_isDigit_0 ⟨fun _ => h 0 (fun q => absurd rfl q), fun a => ⟨fun _ => h 0 (fun q => absurd rfl q), fun b => h 1 (fun _ => ?_)⟩⟩
  have a := kl_nlt a
  have b := kl_nlt b
  rw [c] at a
  rw [c'] at b
  exact ⟨a, b⟩
theorem ml_by_lt {I : sm_I} {x : Int32} (h : 48 ≤ (ml_by I x).toInt) : x.toInt < (I 107 4).toInt := by
  unfold ml_by at h
  by_cases c : I 107 4 ≤ x
  · rw [if_pos c, kl_0] at h; omega
  · exact kl_nle c
theorem mx_token {S : sm_C} {d : Nat} {Φ : sm_Z → Prop} {I : sm_I} {L : sm_L} {R : sm_R} {x1 x2 x3 : Int32} {y4 : Int64} (b1 : 0 ≤ x1.toInt ∧ x1.toInt ≤ 34) (b2 : 0 ≤ x2.toInt ∧ x2.toInt ≤ 2000) (b3 : 0 ≤ x3.toInt ∧ x3.toInt ≤ 9999) (ht : (I 107 10).toInt ≤ 500) (hm : en_mem ml_tb mlX (xLay, I, L, R)) (h : ∀ (J : sm_I) (L' : sm_L), en_mem ml_tb mlX (xLay, J, L', R) → ml_cf I J → (J 107 10).toInt = (I 107 10).toInt + 1 → Φ (none, (xLay, J, L', kM R))) : sm_wp sm_P S d 204 0 [.ref 107, .int x1, .int x2, .int x3, .long y4] [] (xLay, I, L, kM R) (0, 0) Φ := by
  have bt := ml_tk hm
  have v : vp_in (I 107 10) 503 := kl_in bt.1 (by omega)
  refine u_X12_token_0 ⟨v, fun I1 e1 => ?_⟩
  have g1 : I1 107 10 = I 107 10 := by rw [e1, en_up_ne _ _ _ _ (by omega)]
  have m1 : en_mem ml_tb mlX (xLay, I1, L, R) := by rw [e1]; exact ml_we2 hm rfl (n := 503) (q := (0, 34)) rfl b1
  refine ⟨by rw [g1]; exact v, fun I2 e2 => ?_⟩
  rw [g1] at e2
  have g2 : I2 107 10 = I 107 10 := by rw [e2, en_up_ne _ _ _ _ (by omega), g1]
  have m2 : en_mem ml_tb mlX (xLay, I2, L, R) := by rw [e2]; exact ml_we2 m1 rfl (n := 503) (q := (0, 2000)) rfl b2
  refine ⟨by rw [g2]; exact v, fun I3 e3 => ?_⟩
  rw [g2] at e3
  have g3 : I3 107 10 = I 107 10 := by rw [e3, en_up_ne _ _ _ _ (by omega), g2]
  have m3 : en_mem ml_tb mlX (xLay, I3, L, R) := by rw [e3]; exact ml_we2 m2 rfl (n := 503) (q := (0, 9999)) rfl b3
  refine ⟨by rw [g3]; exact v, fun L4 eL I5 e5 => ?_⟩
  rw [g3] at e5
  have s := ml_in1 (x := I 107 10) (by omega)
  have m5 : en_mem ml_tb mlX (xLay, I5, L, R) := by
    rw [e5]
    exact ml_wf m3 (by decide +kernel) (q := (0, 501)) (by decide +kernel) (by show 0 ≤ _ ∧ _ ≤ (501 : Int); omega)
  refine h I5 L4 ⟨m5.1, m5.2.1, m5.2.2.1, m5.2.2.2.1, m5.2.2.2.2.1, m5.2.2.2.2.2.1, m5.2.2.2.2.2.2.1, m5.2.2.2.2.2.2.2.1, m5.2.2.2.2.2.2.2.2.1, pk_cg (L := L) (L' := L4) (fun j => by rw [eL]; exact en_up_ne _ _ _ _ (by omega)) m5.2.2.2.2.2.2.2.2.2⟩ (fun p j hp => ?_) (by rw [e5, en_up_eq]; exact s)
  unfold ml_Dc at hp
  rw [e5, en_up_ne _ _ _ _ (by omega), e3, en_up_ne _ _ _ _ (by omega), e2, en_up_ne _ _ _ _ (by omega), e1, en_up_ne _ _ _ _ (by omega)]
theorem mx_appends {S : sm_C} {d : Nat} {Φ : sm_Z → Prop} {I : sm_I} {L : sm_L} {R : sm_R} {y : Int64} {x : Int32} (h : ∀ r : Int64, Φ (some (.long r), (xLay, I, L, kM R))) : sm_wp sm_P S d 95 0 [.long y, .int x] [] (xLay, I, L, kM R) (0, 0) Φ := u_X12_appends_0 ⟨fun _ => h _, fun _ => h _⟩
theorem mx_sign {S : sm_C} {d : Nat} {Φ : sm_Z → Prop} {I : sm_I} {L : sm_L} {R : sm_R} {x : Int32} (h : ∀ r : Int32, 0 ≤ r.toInt → r.toInt ≤ 34 → Φ (some (.int r), (xLay, I, L, kM R))) : sm_wp sm_P S d 191 0 [.int x] [] (xLay, I, L, kM R) (0, 0) Φ := u_X12_sign_0 ⟨fun _ => h _ (by decide) (by decide), fun _ => ⟨fun _ => h _ (by decide) (by decide), fun _ => ⟨fun _ => h _ (by decide) (by decide), fun _ => h _ (by decide) (by decide)⟩⟩⟩
theorem mx_cut1 {S : sm_C} {d : Nat} {Φ : sm_Z → Prop} {I0 : sm_I} {R : sm_R} (h : ∀ (J : sm_I) (L' : sm_L), en_mem ml_tb mlX (xLay, J, L', R) → ml_cf I0 J → Φ (none, (xLay, J, L', kM R))) : ∀ (m : Nat) (I : sm_I) (L : sm_L) (x1 : Int32), en_mem ml_tb mlX (xLay, I, L, R) → ml_cf I0 I → 0 ≤ x1.toInt → x1.toInt ≤ 2000 → (2000 - x1.toInt) + (501 - (I 107 10).toInt) < m → sm_wp sm_P S (d + 1) 119 1 [.ref 107, .int x1] [] (xLay, I, L, kM R) (0, 0) Φ := by
  intro m
  induction m with
  | zero =>
    intro I L x1 hm hc h0 h1 hM
    have := ml_tk hm
    omega
  | succ m ih =>
    intro I L x1 hm hc h0 h1 hM
    have bs := ml_sz hm
    have bt := ml_tk hm
    have c500 : (500 : Int32).toInt = 500 := by decide
    refine u_X12_cut_1 ⟨fun _ => h I L hm hc, fun a => ?_⟩
    have a := kl_nlt a
    rw [c500] at a
    clear c500
    -- a token, then on
    have tok : ∀ (k v n : Int32) (y : Int64), (0 ≤ k.toInt ∧ k.toInt ≤ 34) → (0 ≤ v.toInt ∧ v.toInt ≤ 9999) → x1.toInt ≤ n.toInt → n.toInt ≤ 2000 → sm_wp sm_P S d 204 0 [.ref 107, .int k, .int x1, .int v, .long y] [] (xLay, I, L, kM R) (0, 0) (fun z => ∃ (I1 : sm_I) (L2 : sm_L) (R3 : sm_R), z = (none, (xLay, I1, L2, (kM R3))) ∧ sm_wp sm_P S (d + 1) 119 1 [.ref 107, .int n] [] (xLay, I1, L2, (kM R3)) (0, 0) Φ) := fun k v n y bk bv n0 n1 => mx_token bk ⟨h0, h1⟩ bv a hm (fun J L' mJ cJ tJ => ⟨J, L', R, rfl, ih J L' n mJ (ml_cf_tr hc cJ) (by omega) n1 (by omega)⟩)
    have w20 : ∀ (q : Nat) (x3 : Int32) (y : Int64) (x6 x7 : Int32), 0 ≤ x3.toInt → x1.toInt + x3.toInt ≤ 2000 → (0 ≤ x6.toInt ∧ x6.toInt ≤ 34) → 0 ≤ x7.toInt → 15 - x7.toInt ≤ q → sm_wp sm_P S (d + 1) 119 20 [.ref 107, .int x1, .int x3, .long y, .int x6, .int x7] [] (xLay, I, L, kM R) (0, 0) Φ := by
      intro q
      induction q with
      | zero =>
        intro x3 y x6 x7 k0 k1 b6 k7 hq
        have s : (x1 + x3).toInt = x1.toInt + x3.toInt := ml_ad rfl rfl (by omega) (by omega)
        refine u_X12_cut_20 ⟨fun _ => tok x6 0 _ y b6 (by decide) (by omega) (by omega), fun c => ?_⟩
        have c := kl_nle c
        have c15 : (15 : Int32).toInt = 15 := by decide
        rw [c15] at c
        omega
      | succ q ihq =>
        intro x3 y x6 x7 k0 k1 b6 k7 hq
        have s : (x1 + x3).toInt = x1.toInt + x3.toInt := ml_ad rfl rfl (by omega) (by omega)
        refine u_X12_cut_20 ⟨fun _ => tok x6 0 _ y b6 (by decide) (by omega) (by omega), fun c => ?_⟩
        have c := kl_nle c
        have c15 : (15 : Int32).toInt = 15 := by decide
        rw [c15] at c
        clear c15
        have s7 := ml_in1 (x := x7) (by omega)
        have s20 : ((20 : Int32) + x7).toInt = 20 + x7.toInt := ml_ad (by decide) rfl (by omega) (by omega)
        exact ⟨kl_in k7 (by omega), fun _ => ihq x3 y _ _ k0 k1 (by omega) (by omega) (by omega), fun _ => ihq x3 y _ _ k0 k1 b6 (by omega) (by omega)⟩
    have w11 : ∀ (q : Nat) (x3 : Int32) (y : Int64), 0 ≤ x3.toInt → x1.toInt + x3.toInt ≤ 2000 → 2000 - x1.toInt - x3.toInt < q → sm_wp sm_P S (d + 1) 119 11 [.ref 107, .int x1, .int x3, .long y] [] (xLay, I, L, kM R) (0, 0) Φ := by
      intro q
      induction q with
      | zero => intro x3 y k0 k1 hq; omega
      | succ q ihq =>
        intro x3 y k0 k1 hq
        have s : (x1 + x3).toInt = x1.toInt + x3.toInt := ml_ad rfl rfl (by omega) (by omega)
        refine u_X12_cut_11 (mx_byteAt (by omega) hm ⟨_, I, L, R, rfl, mx_isLetter (fun r8 hr => ⟨r8, I, L, R, rfl, fun _ => ⟨fun _ => ⟨fun _ => tok 1 0 _ y (by decide) (by decide) (by omega) (by omega), fun _ => w20 15 x3 y 1 0 k0 k1 (by decide) (by decide) (by decide)⟩, fun _ => ⟨fun _ => tok 3 0 _ y (by decide) (by decide) (by omega) (by omega), fun _ => w20 15 x3 y 3 0 k0 k1 (by decide) (by decide) (by decide)⟩⟩, fun c => ?_⟩)⟩)
        have lt := ml_by_lt (I := I) (x := x1 + x3) (by have := hr c; omega)
        rw [s] at lt
        have s3 := ml_in1 (x := x3) (by omega)
        exact ⟨fun _ => ihq _ _ (by omega) (by omega) (by omega), fun _ => mx_byteAt (by omega) hm ⟨_, I, L, R, rfl, mx_appends (fun r => ⟨r, I, L, R, rfl, ihq _ _ (by omega) (by omega) (by omega)⟩)⟩⟩
    have w27 : ∀ (q : Nat) (x3 x4 : Int32), 0 ≤ x3.toInt → x1.toInt + x3.toInt ≤ 2000 → (0 ≤ x4.toInt ∧ (x3.toInt = 0 → x4.toInt ≤ 0) ∧ (x3.toInt = 1 → x4.toInt ≤ 9) ∧ (x3.toInt = 2 → x4.toInt ≤ 99) ∧ (x3.toInt = 3 → x4.toInt ≤ 999) ∧ x4.toInt ≤ 9999) → 2000 - x1.toInt - x3.toInt < q → sm_wp sm_P S (d + 1) 119 27 [.ref 107, .int x1, .int x3, .int x4] [] (xLay, I, L, kM R) (0, 0) Φ := by
      intro q
      induction q with
      | zero => intro x3 x4 k0 k1 b4 hq; omega
      | succ q ihq =>
        intro x3 x4 k0 k1 b4 hq
        have s : (x1 + x3).toInt = x1.toInt + x3.toInt := ml_ad rfl rfl (by omega) (by omega)
        refine u_X12_cut_27 (mx_byteAt (by omega) hm ⟨_, I, L, R, rfl, mx_isDigit (fun r8 hr => ⟨r8, I, L, R, rfl, fun _ => ⟨fun _ => tok 2 x4 _ _ (by decide) ⟨b4.1, b4.2.2.2.2.2⟩ (by omega) (by omega), fun _ => tok 3 x4 _ _ (by decide) ⟨b4.1, b4.2.2.2.2.2⟩ (by omega) (by omega)⟩, fun c => ?_⟩)⟩)
        have dg := hr c
        have lt := ml_by_lt (I := I) (x := x1 + x3) dg.1
        rw [s] at lt
        have s3 := ml_in1 (x := x3) (by omega)
        refine ⟨fun c4 => ?_, fun c4 => mx_byteAt (by omega) hm ⟨_, I, L, R, rfl, fun n24 e24 => ?_⟩⟩
        · have c4 := kl_le.mp c4
          rw [(by decide : (4 : Int32).toInt = 4)] at c4
          exact ihq _ _ (by omega) (by omega) ⟨b4.1, by omega, by omega, by omega, by omega, b4.2.2.2.2.2⟩ (by omega)
        · have c4 := kl_nle c4
          rw [(by decide : (4 : Int32).toInt = 4)] at c4
          generalize ml_by I (x1 + x3) = w at dg e24
          have q1 : ((10 : Int32) * x4).toInt = 10 * x4.toInt := ml_mu (by decide) rfl (by omega) (by omega)
          have q2 : ((10 : Int32) * x4 + w).toInt = 10 * x4.toInt + w.toInt := ml_ad q1 rfl (by omega) (by omega)
          have q3 : n24.toInt = 10 * x4.toInt + w.toInt - 48 := by
            rw [e24, Int32.toInt_sub, q2, (by decide : (48 : Int32).toInt = 48)]; exact en_bmod (by omega) (by omega) (Or.inl rfl)
          clear e24 q1 q2
          exact ihq _ n24 (by omega) (by omega) ⟨by omega, by omega, by omega, by omega, by omega, by omega⟩ (by omega)
    refine mx_byteAt h0 hm ⟨_, I, L, R, rfl, fun lt => ?_, fun _ => mx_token (by decide) bs (by decide) a hm (fun J L' mJ cJ _ => ⟨J, L', R, rfl, h J L' mJ (ml_cf_tr hc cJ)⟩)⟩
    have lt := kl_lt.mp lt
    have s1 := ml_in1 (x := x1) (by omega)
    have on : sm_wp sm_P S (d + 1) 119 1 [.ref 107, .int (x1 + 1)] [] (xLay, I, L, kM R) (0, 0) Φ := ih I L _ hm hc (by omega) (by omega) (by omega)
    refine ⟨fun _ => on, fun _ => ⟨fun _ => on, fun _ => ⟨fun _ => on, fun _ => ⟨fun _ => on, fun _ => ?_⟩⟩⟩⟩
    refine mx_isLetter (fun r8 _ => ⟨r8, I, L, R, rfl, fun _ => mx_isDigit (fun r12 _ => ⟨r12, I, L, R, rfl, fun _ => mx_sign (fun r16 k0 k1 => ⟨r16, I, L, R, rfl, tok r16 0 _ _ ⟨k0, k1⟩ (by decide) (by omega) (by omega)⟩), fun _ => w27 2001 0 0 (by decide) (by rw [kl_0]; omega) (by decide) (by rw [kl_0]; omega)⟩), fun _ => w11 2001 0 0 (by decide) (by rw [kl_0]; omega) (by rw [kl_0]; omega)⟩)
theorem mx_cut {S : sm_C} {d : Nat} {Φ : sm_Z → Prop} {I : sm_I} {L : sm_L} {R : sm_R} (hm : en_mem ml_tb mlX (xLay, I, L, R)) (h : ∀ (J : sm_I) (L' : sm_L), en_mem ml_tb mlX (xLay, J, L', R) → ml_cf I J → Φ (none, (xLay, J, L', kM R))) : sm_wp sm_P S (d + 1) 119 0 [.ref 107] [] (xLay, I, L, kM R) (0, 0) Φ := by
  refine u_X12_cut_0 ?_
  refine mx_cut1 (I0 := I) h 2502 _ L 0 (ml_wf hm (by decide +kernel) (q := (0, 501)) (by decide +kernel) (by decide)) (fun p j hp => ?_) (by decide) (by decide) (by rw [en_up_eq]; decide)
  unfold ml_Dc at hp
  exact en_up_ne _ _ _ _ (by omega)
end
section
/-! meets: at most 45 MOVES -/
def ml_S : Nat → Int
  | 0 => 0
  | 1 => 9
  | 2 => 17
  | 3 => 24
  | 4 => 30
  | 5 => 35
  | 6 => 39
  | 7 => 42
  | 8 => 44
  | _ => 45
theorem ml_S_st : ∀ a : Nat, a ≤ 9 → ml_S (a + 1) = ml_S a + (9 - a) ∧ ml_S (a + 1) ≤ 45 ∧ 0 ≤ ml_S a := by
  intro a ha
  rcases (by omega : a = 0 ∨ a = 1 ∨ a = 2 ∨ a = 3 ∨ a = 4 ∨ a = 5 ∨ a = 6 ∨ a = 7 ∨ a = 8 ∨ a = 9) with e | e | e | e | e | e | e | e | e | e <;> subst e <;> decide
def ml_mf (I J : sm_I) : Prop := ∀ p j, ¬ ((p = 107 ∧ j = 46) ∨ p = 140 ∨ p = 141 ∨ p = 142) → J p j = I p j
theorem mx_meets3 {S : sm_C} {d : Nat} {Φ : sm_Z → Prop} {L : sm_L} {R : sm_R} {x1 : Int32} (a0 : 0 ≤ x1.toInt) (a1 : x1.toInt ≤ 9) (I0 : sm_I) (hk : ∀ J : sm_I, en_mem ml_tb mlX (xLay, J, L, R) → ml_mf I0 J → (J 107 46).toInt ≤ ml_S (x1.toNatClampNeg + 1) → sm_wp sm_P S d 161 1 [.ref 107, .int (x1 + 1)] [] (xLay, J, L, kM R) (0, 0) Φ) : ∀ (m : Nat) (I : sm_I) (x2 : Int32), en_mem ml_tb mlX (xLay, I, L, R) → ml_mf I0 I → x1.toInt + 1 ≤ x2.toInt → x2.toInt ≤ 10 → (I 107 46).toInt ≤ ml_S x1.toNatClampNeg + (x2.toInt - x1.toInt - 1) → 10 - x2.toInt < m → sm_wp sm_P S d 161 3 [.ref 107, .int x1, .int x2] [] (xLay, I, L, kM R) (0, 0) Φ := by
  have na := kl_nat a0
  have SS := ml_S_st x1.toNatClampNeg (by omega)
  have done : ∀ (I : sm_I) (x2 : Int32), en_mem ml_tb mlX (xLay, I, L, R) → ml_mf I0 I → x2.toInt ≤ 10 → (I 107 46).toInt ≤ ml_S x1.toNatClampNeg + (x2.toInt - x1.toInt - 1) → sm_wp sm_P S d 161 1 [.ref 107, .int (x1 + 1)] [] (xLay, I, L, kM R) (0, 0) Φ := fun I x2 hm hf b hs => hk I hm hf (by omega)
  intro m
  induction m with
  | zero => intro I x2 hm hf h0 h1 hs hM; omega
  | succ m ih =>
    intro I x2 hm hf h0 h1 hs hM
    obtain ⟨l0, l1, ln, lc⟩ := ml_live hm
    have l0 : 0 ≤ (I 107 18).toInt := l0
    have l1 : (I 107 18).toInt ≤ 1 := l1
    have ln : ((I 107 18).toNatClampNeg : Int) = (I 107 18).toInt := ln
    have bt : 0 ≤ (I 122 (I 107 18).toNatClampNeg).toInt ∧ (I 122 (I 107 18).toNatClampNeg).toInt ≤ 10 := ml_row hm (p := 122) (n := 2) (q := (0, 10)) (fun _ => rfl) _ (by omega)
    have bm : 0 ≤ (I 107 46).toInt ∧ (I 107 46).toInt ≤ 45 := hm.2.1 107 46 (0, 45) (by decide +kernel)
    refine u_X12_meets_3 ⟨kl_in l0 (by omega), fun _ => done I x2 hm hf h1 hs, fun a n1 e1 n2 e2 => ?_⟩
    have a := kl_nle a
    have nb := kl_nat (i := x2) (by omega)
    have s2 := ml_in1 (x := x2) (by omega)
    have q0 : ((10 : Int32) * I 107 18).toInt = 10 * (I 107 18).toInt := ml_mu (by decide) rfl (by omega) (by omega)
    have q1 : n1.toInt = 10 * (I 107 18).toInt + x1.toInt := by rw [e1]; exact ml_ad q0 rfl (by omega) (by omega)
    have q2 : n2.toInt = 10 * (I 107 18).toInt + x2.toInt := by rw [e2]; exact ml_ad q0 rfl (by omega) (by omega)
    have k1 := kl_nat (i := n1) (by omega)
    have k2 := kl_nat (i := n2) (by omega)
    have v1 : vp_in n1 20 := kl_in (by omega) (by omega)
    have v2 : vp_in n2 20 := kl_in (by omega) (by omega)
    have same : sm_wp sm_P S d 161 3 [.ref 107, .int x1, .int (x2 + 1)] [] (xLay, I, L, kM R) (0, 0) Φ := ih I _ hm hf (by omega) (by omega) (by omega) (by omega)
    refine ⟨v1, fun _ => same, fun c1 => ⟨v1, v2, fun c2 => ⟨v1, v2, fun _ => same, fun _ => ?_⟩, fun _ => same⟩⟩
    have c1 := ml_m1 c1
    have V := (ml_lv hm).1
    have P1 : 0 ≤ (I 124 n1.toNatClampNeg).toInt := by
      have := V x1.toNatClampNeg (by rw [na]; show x1.toInt < (I 122 (I 107 18).toNatClampNeg).toInt; omega) (by
        show (I 123 (10 * (I 107 18).toNatClampNeg + x1.toNatClampNeg)).toInt ≠ -1
        rw [show 10 * (I 107 18).toNatClampNeg + x1.toNatClampNeg = n1.toNatClampNeg by omega]; exact c1)
      rw [show n1.toNatClampNeg = 10 * (I 107 18).toNatClampNeg + x1.toNatClampNeg by omega]; exact this
    have P2 : 0 ≤ (I 124 n2.toNatClampNeg).toInt := by
      have := V x2.toNatClampNeg (by rw [nb]; show x2.toInt < (I 122 (I 107 18).toNatClampNeg).toInt; omega) (by
        show (I 123 (10 * (I 107 18).toNatClampNeg + x2.toNatClampNeg)).toInt ≠ -1
        rw [show 10 * (I 107 18).toNatClampNeg + x2.toNatClampNeg = n2.toNatClampNeg by omega, ← c2]; exact c1)
      rw [show n2.toNatClampNeg = 10 * (I 107 18).toNatClampNeg + x2.toNatClampNeg by omega]; exact this
    have B1 : -1 ≤ (I 124 n1.toNatClampNeg).toInt ∧ (I 124 n1.toNatClampNeg).toInt ≤ 5 := ml_row hm (p := 124) (n := 20) (q := (-1, 5)) (fun _ => rfl) _ (by omega)
    have B2 : -1 ≤ (I 124 n2.toNatClampNeg).toInt ∧ (I 124 n2.toNatClampNeg).toInt ≤ 5 := ml_row hm (p := 124) (n := 20) (q := (-1, 5)) (fun _ => rfl) _ (by omega)
    have v46 : vp_in (I 107 46) 45 := kl_in bm.1 (by omega)
    refine ⟨v46, fun I3 e3 => ?_⟩
    have g3 : I3 107 46 = I 107 46 := by rw [e3, en_up_ne _ _ _ _ (by omega)]
    have m3 : en_mem ml_tb mlX (xLay, I3, L, R) := by rw [e3]; exact ml_we2 hm rfl (n := 45) (q := (0, 9)) rfl (by show 0 ≤ _ ∧ _ ≤ (9 : Int); omega)
    refine ⟨by rw [g3]; exact v46, fun I4 e4 => ?_⟩
    rw [g3] at e4
    have g4 : I4 107 46 = I 107 46 := by rw [e4, en_up_ne _ _ _ _ (by omega), g3]
    have m4 : en_mem ml_tb mlX (xLay, I4, L, R) := by rw [e4]; exact ml_we2 m3 rfl (n := 45) (q := (0, 9)) rfl (by show 0 ≤ _ ∧ _ ≤ (9 : Int); omega)
    have o4 : ∀ p j, p ≠ 140 → p ≠ 141 → I4 p j = I p j := fun p j x y => by rw [e4, en_up_ne _ _ _ _ (by omega), e3, en_up_ne _ _ _ _ (by omega)]
    refine ⟨v1, v2, fun n5 e5 => ?_⟩
    rw [o4 _ _ (by decide) (by decide), o4 _ _ (by decide) (by decide)] at e5
    have r1 : ((6 : Int32) * I 124 n1.toNatClampNeg).toInt = 6 * (I 124 n1.toNatClampNeg).toInt := ml_mu (by decide) rfl (by omega) (by omega)
    have r2 : n5.toInt = 6 * (I 124 n1.toNatClampNeg).toInt + (I 124 n2.toNatClampNeg).toInt := by rw [e5]; exact ml_ad r1 rfl (by omega) (by omega)
    refine ⟨kl_in (by omega) (by omega), by rw [g4]; exact v46, fun I6 e6 I7 e7 => ?_⟩
    have m6 : en_mem ml_tb mlX (xLay, I6, L, R) := by rw [e6]; exact ml_we2 m4 rfl (n := 45) (q := (-2147483648, 2147483647)) rfl en_crange
    have g6 : I6 107 46 = I 107 46 := by rw [e6, en_up_ne _ _ _ _ (by omega), g4]
    have s46 := ml_in1 (x := I 107 46) (by omega)
    have g7 : (I7 107 46).toInt = (I 107 46).toInt + 1 := by rw [e7, g6, en_up_eq]; exact s46
    refine ih I7 _ ?_ ?_ (by omega) (by omega) (by omega) (by omega)
    · rw [e7, g6]
      exact ml_wf m6 (by decide +kernel) (q := (0, 45)) (by decide +kernel) (by show 0 ≤ _ ∧ _ ≤ (45 : Int); omega)
    · intro p j hp
      rw [e7, en_up_ne _ _ _ _ (by omega), e6, en_up_ne _ _ _ _ (by omega), o4 _ _ (by omega) (by omega)]
      exact hf p j hp
theorem mx_meets1 {S : sm_C} {d : Nat} {Φ : sm_Z → Prop} {L : sm_L} {R : sm_R} (I0 : sm_I) (h : ∀ J : sm_I, en_mem ml_tb mlX (xLay, J, L, R) → ml_mf I0 J → Φ (none, (xLay, J, L, kM R))) : ∀ (m : Nat) (I : sm_I) (x1 : Int32), en_mem ml_tb mlX (xLay, I, L, R) → ml_mf I0 I → 0 ≤ x1.toInt → x1.toInt ≤ 10 → (I 107 46).toInt ≤ ml_S x1.toNatClampNeg → 10 - x1.toInt < m → sm_wp sm_P S d 161 1 [.ref 107, .int x1] [] (xLay, I, L, kM R) (0, 0) Φ := by
  intro m
  induction m with
  | zero => intro I x1 hm hf h0 h1 hs hM; omega
  | succ m ih =>
    intro I x1 hm hf h0 h1 hs hM
    obtain ⟨l0, l1, ln, lc⟩ := ml_live hm
    have l0 : 0 ≤ (I 107 18).toInt := l0
    have l1 : (I 107 18).toInt ≤ 1 := l1
    have ln : ((I 107 18).toNatClampNeg : Int) = (I 107 18).toInt := ln
    have bt : 0 ≤ (I 122 (I 107 18).toNatClampNeg).toInt ∧ (I 122 (I 107 18).toNatClampNeg).toInt ≤ 10 := ml_row hm (p := 122) (n := 2) (q := (0, 10)) (fun _ => rfl) _ (by omega)
    refine u_X12_meets_1 ⟨kl_in l0 (by omega), fun _ => h I hm hf, fun a => ?_⟩
    have a := kl_nle a
    have na := kl_nat h0
    have s1 := ml_in1 (x := x1) (by omega)
    have n1 := kl_nat (i := x1 + 1) (by omega)
    refine mx_meets3 h0 (by omega) I0 (fun J mJ fJ sJ => ih J _ mJ fJ (by omega) (by omega) ?_ (by omega)) 11 I _ hm hf (by omega) (by omega) (by omega) (by omega)
    rw [show (x1 + 1).toNatClampNeg = x1.toNatClampNeg + 1 by omega]; exact sJ
theorem mx_meets {S : sm_C} {d : Nat} {Φ : sm_Z → Prop} {I : sm_I} {L : sm_L} {R : sm_R} (hm : en_mem ml_tb mlX (xLay, I, L, R)) (h : ∀ J : sm_I, en_mem ml_tb mlX (xLay, J, L, R) → ml_mf I J → Φ (none, (xLay, J, L, kM R))) : sm_wp sm_P S d 161 0 [.ref 107] [] (xLay, I, L, kM R) (0, 0) Φ := by
  refine u_X12_meets_0 (mx_meets1 I h 11 _ 0 (ml_wf hm (by decide +kernel) (q := (0, 45)) (by decide +kernel) (by decide)) (fun p j hp => en_up_ne _ _ _ _ (by omega)) (by decide) (by decide) ?_ (by decide))
  rw [en_up_eq]
  decide
end
section
/-! read -/
def ml_RW : en_W := mlc_65.2.2.2.2.1
theorem ml_rwa : ∀ p, p < 166 → 108 ≤ p → en_wall ml_RW p = true := by decide +kernel
theorem ml_wallok {W : en_W} {p j : Nat} (h : en_wall W p = true) : en_wok W p j = true := by
  obtain ⟨⟨b, l2⟩, g1, g2⟩ := List.any_eq_true.mp h
  obtain ⟨g2, g3⟩ := Bool.and_eq_true_iff.mp g2
  refine List.any_eq_true.mpr ⟨(b, l2), g1, ?_⟩
  cases l2 with
  | nil => rw [g2]; rfl
  | cons _ _ => cases g3
theorem ml_rw {p j : Nat} (h0 : 108 ≤ p) (h1 : p ≤ 165) : en_wok ml_RW p j = true := ml_wallok (ml_rwa p (by omega) h0)
theorem ml_rwf : ∀ j, j < 21 → (j = 0 ∨ j = 2 ∨ j = 4 ∨ 10 ≤ j) → en_wok ml_RW 107 j = true := by decide +kernel
theorem ml_fro {W : en_W} {w0 : sm_W} {I J : sm_I} {L L' : sm_L} {R : sm_R} (h : en_fr W w0 (xLay, I, L, R)) (o : ∀ p j, en_wok W p j = false → J p j = I p j) : en_fr W w0 (xLay, J, L', R) := ⟨h.1, fun p j hw => ⟨(o p j hw).trans (h.2 p j hw).1, (h.2 p j hw).2⟩⟩
theorem ml_frD {w0 : sm_W} {l : Nat} {I J : sm_I} {L L' : sm_L} {R : sm_R} (h : en_fr ml_RW w0 (xLay, I, L, R)) (p : ml_pS (ml_Dl l) I J) : en_fr ml_RW w0 (xLay, J, L', R) := ml_fro h (fun a b hw => p.1 a b (fun c => by
  unfold ml_Dl at c
  rcases c with ⟨c1, c2⟩ | ⟨c1, c2, -⟩
  · rw [c1, c2, ml_rwf 20 (by decide) (by decide)] at hw; cases hw
  · rw [ml_rw (by omega) (by omega)] at hw; cases hw) (fun c => by
  rw [c.1, ml_rwf b (by omega) (by omega)] at hw; cases hw))
/-- a counter of the side set to 0 -/
theorem ml_z0 {I : sm_I} {L : sm_L} {R : sm_R} {w0 : sm_W} {l s p : Nat} (hls : ml_ls l s) (hv : (I 107 18).toInt = l) (hp : p = 118 ∨ p = 119 ∨ p = 120 ∨ p = 122 ∨ p = 125 ∨ p = 134 ∨ p = 136) (hm : en_mem ml_tb mlX (xLay, I, L, R)) (hf : en_fr ml_RW w0 (xLay, I, L, R)) : en_mem ml_tb mlX (xLay, sm_up I p s 0, L, R) ∧ en_fr ml_RW w0 (xLay, sm_up I p s 0, L, R) := by
  obtain ⟨hl, hs⟩ := ml_l1 hls
  unfold ml_ls at hls
  refine ⟨ml_wt (l := l) hl hv ⟨by omega, by omega, by unfold ml_hl; omega⟩ (by omega) hm (fun q hq => ?_), ml_fr hf (ml_rw (by omega) (by omega))⟩
  rw [kl_0]
  rcases hp with e | e | e | e | e | e | e <;> subst e <;> rcases hls with ⟨-, e⟩ | ⟨-, e⟩ <;> subst e
  all_goals
    first
    | (rw [show en_int ml_tb 118 _ = some (0, 4) from rfl] at hq; rw [← Option.some.inj hq]; decide)
    | (rw [show en_int ml_tb 119 _ = some (0, 6) from rfl] at hq; rw [← Option.some.inj hq]; decide)
    | (rw [show en_int ml_tb 120 _ = some (0, 12) from rfl] at hq; rw [← Option.some.inj hq]; decide)
    | (rw [show en_int ml_tb 122 _ = some (0, 10) from rfl] at hq; rw [← Option.some.inj hq]; decide)
    | (rw [show en_int ml_tb 125 _ = some (0, 10) from rfl] at hq; rw [← Option.some.inj hq]; decide)
    | (rw [show en_int ml_tb 134 _ = some (0, 4) from rfl] at hq; rw [← Option.some.inj hq]; decide)
    | (rw [show en_int ml_tb 136 _ = some (0, 5) from rfl] at hq; rw [← Option.some.inj hq]; decide)
end
section
/-! THE MACHINE OVER INTERVALS: the small machine's run over values that are known, or are an int of the script and a number, or are any; a test on an int of the script narrows its interval, a test on any goes both ways. It answers true if every road comes to an end with what is asked. It is written so that the kernel can run it: continuations, and numbers made plain at once. -/
abbrev ab_V : Type := Nat × Int
abbrev ab_T : Type := Lean.RArray ab_V
abbrev ab_Q : Type := Nat × Nat × ab_T
abbrev ab_M : Type := Nat × Lean.RArray ab_Q
abbrev ab_L : Type := List (Nat × ab_V)
abbrev ab_E : Type := List (Int × Int)
noncomputable def ab_if {α : Type} (c : Bool) (x y : α) : α := Bool.rec (motive := fun _ => α) y x c
noncomputable def ab_an (p q : Bool) : Bool := Bool.rec (motive := fun _ => Bool) false q p
noncomputable def ab_oo (p q : Bool) : Bool := Bool.rec (motive := fun _ => Bool) q true p
theorem ab_or2 {p q : Bool} (h : ab_oo p q = true) : p = true ∨ q = true := by
  cases p
  · exact Or.inr h
  · exact Or.inl rfl
theorem ab_oo_r {p q : Bool} (h : q = true) : ab_oo p q = true := by
  cases p
  · exact h
  · rfl
noncomputable def ab_fn (n : Nat) (c : Nat → Bool) : Bool := Nat.rec (motive := fun _ => Bool) (c 0) (fun m _ => c (Nat.succ m)) n
noncomputable def ab_fi (i : Int) (c : Int → Bool) : Bool := Int.rec (motive := fun _ => Bool) (fun n => ab_fn n (fun m => c (.ofNat m))) (fun n => ab_fn n (fun m => c (.negSucc m))) i
noncomputable def ab_fv (a : ab_V) (c : ab_V → Bool) : Bool := ab_fn a.1 (fun t => ab_fi a.2 (fun i => c (t, i)))
theorem ab_fn_eq (n : Nat) (c : Nat → Bool) : ab_fn n c = c n := by cases n <;> rfl
theorem ab_fi_eq (i : Int) (c : Int → Bool) : ab_fi i c = c i := by
  cases i with
  | ofNat n => show ab_fn n (fun m => c (.ofNat m)) = _; rw [ab_fn_eq]
  | negSucc n => show ab_fn n (fun m => c (.negSucc m)) = _; rw [ab_fn_eq]
theorem ab_fv_eq (a : ab_V) (c : ab_V → Bool) : ab_fv a c = c a := by
  show ab_fn a.1 (fun t => ab_fi a.2 (fun i => c (t, i))) = c a
  rw [ab_fn_eq, ab_fi_eq]
noncomputable def ab_le (a b : Int) : Bool := Int.rec (motive := fun _ => Bool) (fun _ => true) (fun _ => false) (Int.sub b a)
noncomputable def ab_eq (a b : Int) : Bool := Int.rec (motive := fun _ => Bool) (fun n => Nat.beq n 0) (fun _ => false) (Int.sub a b)
theorem ab_le_iff {a b : Int} : ab_le a b = true ↔ a ≤ b := by
  unfold ab_le
  have e : Int.sub b a = b - a := rfl
  rw [e]
  cases h : b - a with
  | ofNat n => exact ⟨fun _ => by have : b - a = (n : Int) := h; omega, fun _ => rfl⟩
  | negSucc n => exact ⟨fun q => (by cases q), fun q => by have : b - a = Int.negSucc n := h; rw [Int.negSucc_eq] at this; omega⟩
theorem ab_eq_iff {a b : Int} : ab_eq a b = true ↔ a = b := by
  unfold ab_eq
  have e : Int.sub a b = a - b := rfl
  rw [e]
  cases h : a - b with
  | ofNat n =>
    have h : a - b = (n : Int) := h
    constructor
    · intro q
      have : n = 0 := Nat.eq_of_beq_eq_true q
      omega
    · intro q
      have : n = 0 := by omega
      subst this
      rfl
  | negSucc n => exact ⟨fun q => (by cases q), fun q => by have : a - b = Int.negSucc n := h; rw [Int.negSucc_eq] at this; omega⟩
theorem ab_le_no {a b : Int} (h : ab_le a b = false) : b < a := by
  rcases Int.lt_or_le b a with q | q
  · exact q
  · rw [ab_le_iff.mpr q] at h; cases h
theorem ab_eq_no {a b : Int} (h : ab_eq a b = false) : a ≠ b := fun q => by rw [ab_eq_iff.mpr q] at h; cases h
/-! trees -/
noncomputable def ab_tg {α : Type} (t : Lean.RArray α) : Nat → α := Lean.RArray.rec (motive := fun _ => Nat → α) (fun v _ => v) (fun _ _ _ gl gr k => ab_if (Nat.beq (Nat.mod k 2) 0) (gl (Nat.div k 2)) (gr (Nat.div k 2))) t
noncomputable def ab_tn {α : Type} (u v : α) (d : Nat) : Nat → (Lean.RArray α → Bool) → Bool := Nat.rec (motive := fun _ => Nat → (Lean.RArray α → Bool) → Bool) (fun _ c => c (.leaf v)) (fun _ r k c => ab_if (Nat.beq (Nat.mod k 2) 0) (r (Nat.div k 2) (fun t => c (.branch 0 t (.leaf u)))) (r (Nat.div k 2) (fun t => c (.branch 0 (.leaf u) t)))) d
noncomputable def ab_ts {α : Type} (v : α) (t : Lean.RArray α) : Nat → Nat → (Lean.RArray α → Bool) → Bool := Lean.RArray.rec (motive := fun _ => Nat → Nat → (Lean.RArray α → Bool) → Bool) (fun u d k c => ab_tn u v d k c) (fun _ l r sl sr d k c => Nat.rec (motive := fun _ => Bool) (c (.leaf v)) (fun d' _ => ab_if (Nat.beq (Nat.mod k 2) 0) (sl d' (Nat.div k 2) (fun t => c (.branch 0 t r))) (sr d' (Nat.div k 2) (fun t => c (.branch 0 l t)))) d) t
theorem ab_tg_branch {α : Type} (p : Nat) (l r : Lean.RArray α) (k : Nat) : ab_tg (.branch p l r) k = if k % 2 = 0 then ab_tg l (k / 2) else ab_tg r (k / 2) := by
  show (ab_if (Nat.beq (k % 2) 0) (ab_tg l (k / 2)) (ab_tg r (k / 2))) = _
  by_cases h : k % 2 = 0
  · rw [if_pos h, h]; rfl
  · rw [if_neg h]
    have : Nat.beq (k % 2) 0 = false := by
      cases e : Nat.beq (k % 2) 0 with
      | false => rfl
      | true => exact absurd (Nat.eq_of_beq_eq_true e) h
    rw [this]; rfl
theorem ab_par (k : Nat) : (Nat.beq (Nat.mod k 2) 0 = true ∧ k % 2 = 0) ∨ (Nat.beq (Nat.mod k 2) 0 = false ∧ k % 2 = 1) := by
  rcases Nat.mod_two_eq_zero_or_one k with h | h
  · left; refine ⟨?_, h⟩; show Nat.beq (k % 2) 0 = true; rw [h]; rfl
  · right; refine ⟨?_, h⟩; show Nat.beq (k % 2) 0 = false; rw [h]; rfl
theorem ab_half {k d : Nat} (h : k < 2 ^ (d + 1)) : k / 2 < 2 ^ d := by
  rw [Nat.pow_succ] at h
  omega
theorem ab_tn_ok {α : Type} {u v : α} : ∀ (d k : Nat) (c : Lean.RArray α → Bool), ab_tn u v d k c = true → k < 2 ^ d → ∃ t, c t = true ∧ ∀ k', k' < 2 ^ d → ab_tg t k' = if k' = k then v else u := by
  intro d
  induction d with
  | zero =>
    intro k c h hk
    refine ⟨.leaf v, h, fun k' hk' => ?_⟩
    rw [if_pos (by omega)]
    rfl
  | succ d ih =>
    intro k c h hk
    have h : (ab_if (Nat.beq (Nat.mod k 2) 0) (ab_tn u v d (k / 2) (fun t => c (.branch 0 t (.leaf u)))) (ab_tn u v d (k / 2) (fun t => c (.branch 0 (.leaf u) t)))) = true := h
    have hk2 := ab_half hk
    rcases ab_par k with ⟨q, e⟩ | ⟨q, e⟩
    · rw [q] at h
      obtain ⟨t, h1, h2⟩ := ih _ _ h hk2
      refine ⟨_, h1, fun k' hk' => ?_⟩
      rw [ab_tg_branch]
      by_cases e' : k' % 2 = 0
      · rw [if_pos e', h2 _ (ab_half hk')]
        by_cases g : k' / 2 = k / 2
        · rw [if_pos g, if_pos (by omega)]
        · rw [if_neg g, if_neg (by omega)]
      · rw [if_neg e', if_neg (by omega)]; rfl
    · rw [q] at h
      obtain ⟨t, h1, h2⟩ := ih _ _ h hk2
      refine ⟨_, h1, fun k' hk' => ?_⟩
      rw [ab_tg_branch]
      by_cases e' : k' % 2 = 0
      · rw [if_pos e', if_neg (by omega)]; rfl
      · rw [if_neg e', h2 _ (ab_half hk')]
        by_cases g : k' / 2 = k / 2
        · rw [if_pos g, if_pos (by omega)]
        · rw [if_neg g, if_neg (by omega)]
theorem ab_ts_ok {α : Type} {v : α} : ∀ (t : Lean.RArray α) (d k : Nat) (c : Lean.RArray α → Bool), ab_ts v t d k c = true → k < 2 ^ d → ∃ t', c t' = true ∧ ∀ k', k' < 2 ^ d → ab_tg t' k' = if k' = k then v else ab_tg t k' := by
  intro t
  induction t with
  | leaf u => intro d k c h hk; exact ab_tn_ok d k c h hk
  | branch p l r ihl ihr =>
    intro d k c h hk
    cases d with
    | zero =>
      refine ⟨.leaf v, h, fun k' hk' => ?_⟩
      rw [if_pos (by omega)]
      rfl
    | succ d =>
      have h : (ab_if (Nat.beq (Nat.mod k 2) 0) (ab_ts v l d (k / 2) (fun t => c (.branch 0 t r))) (ab_ts v r d (k / 2) (fun t => c (.branch 0 l t)))) = true := h
      have hk2 := ab_half hk
      rcases ab_par k with ⟨q, e⟩ | ⟨q, e⟩
      · rw [q] at h
        obtain ⟨t, h1, h2⟩ := ihl _ _ _ h hk2
        refine ⟨_, h1, fun k' hk' => ?_⟩
        rw [ab_tg_branch, ab_tg_branch]
        by_cases e' : k' % 2 = 0
        · rw [if_pos e', if_pos e', h2 _ (ab_half hk')]
          by_cases g : k' / 2 = k / 2
          · rw [if_pos g, if_pos (by omega)]
          · rw [if_neg g, if_neg (by omega)]
        · rw [if_neg e', if_neg e', if_neg (by omega)]
      · rw [q] at h
        obtain ⟨t, h1, h2⟩ := ihr _ _ _ h hk2
        refine ⟨_, h1, fun k' hk' => ?_⟩
        rw [ab_tg_branch, ab_tg_branch]
        by_cases e' : k' % 2 = 0
        · rw [if_pos e', if_pos e', if_neg (by omega)]
        · rw [if_neg e', if_neg e', h2 _ (ab_half hk')]
          by_cases g : k' / 2 = k / 2
          · rw [if_pos g, if_pos (by omega)]
          · rw [if_neg g, if_neg (by omega)]
/-! values -/
noncomputable def ab_isI (t : Nat) : Bool := ab_oo (Nat.beq t 0) ((ab_oo (Nat.beq t 3) (Nat.ble 6 t)))
noncomputable def ab_gi (xs : Nat → Int32) (a : ab_V) (n : Int) : Prop := (a.1 = 0 ∧ n = a.2) ∨ a.1 = 3 ∨ (a.1 = 6 ∧ n ≠ 0) ∨ (7 ≤ a.1 ∧ n = (xs (a.1 - 7)).toInt + a.2)
noncomputable def ab_g (xs : Nat → Int32) (a : ab_V) (v : Value) : Prop := match v with
  | .int x => ab_gi xs a x.toInt
  | .long x => (a.1 = 4 ∧ x.toInt = a.2) ∨ a.1 = 5
  | .null => a.1 = 1
  | .ref p => a.1 = 2 ∧ a.2 = (p : Int)
  | _ => False
noncomputable def ab_cat (a : ab_V) : Nat := ab_if (ab_oo (Nat.beq a.1 4) (Nat.beq a.1 5)) (2) (1)
noncomputable def ab_full : Int × Int := (Int.negSucc 2147483647, Int.ofNat 2147483647)
noncomputable def ab_sat (xs : Nat → Int32) (E : ab_E) : Prop := ∀ k, (E.getD k ab_full).1 ≤ (xs k).toInt ∧ (xs k).toInt ≤ (E.getD k ab_full).2
noncomputable def ab_gs (xs : Nat → Int32) : List ab_V → List Value → Prop
  | [], [] => True
  | a :: as, v :: vs => ab_g xs a v ∧ ab_gs xs as vs
  | [], _ :: _ => False
  | _ :: _, [] => False
noncomputable def ab_gl (xs : Nat → Int32) : ab_L → sm_V → Prop
  | [], [] => True
  | (i, a) :: as, (j, v) :: vs => (i = j ∧ ab_g xs a v) ∧ ab_gl xs as vs
  | [], _ :: _ => False
  | _ :: _, [] => False
section AbV
variable {xs : Nat → Int32} {a b : ab_V} {as : List ab_V} {lv : ab_L} {v : Value} {vs : List Value} {lv' : sm_V}
theorem ab_beq {n m : Nat} (h : Nat.beq n m = true) : n = m := Nat.eq_of_beq_eq_true h
theorem ab_bne {n m : Nat} (h : Nat.beq n m = false) : n ≠ m := fun e => by
  subst e
  have : Nat.beq n n = true := Nat.beq_refl n
  rw [this] at h
  cases h
theorem ab_ble {n m : Nat} (h : Nat.ble n m = true) : n ≤ m := Nat.le_of_ble_eq_true h
theorem ab_blt {n m : Nat} (h : Nat.blt n m = true) : n < m := Nat.le_of_ble_eq_true h
theorem ab_isI_of (h : ab_isI a.1 = true) (hg : ab_g xs a v) : ∃ x, v = .int x ∧ ab_gi xs a x.toInt := by
  have h1 : a.1 = 0 ∨ a.1 = 3 ∨ 6 ≤ a.1 := by
    rcases ab_or2 h with h | h
    · exact Or.inl (ab_beq h)
    · rcases ab_or2 h with h | h
      · exact Or.inr (Or.inl (ab_beq h))
      · exact Or.inr (Or.inr (ab_ble h))
  cases v with
  | int x => exact ⟨x, rfl, hg⟩
  | long x => rcases hg with ⟨q, -⟩ | q <;> omega
  | null => have q : a.1 = 1 := hg; omega
  | ref p => have q := hg.1; omega
  | float _ => exact hg.elim
  | double _ => exact hg.elim
  | retAddr _ => exact hg.elim
theorem ab_0_of (h : a.1 = 0) (hg : ab_g xs a v) : ∃ x, v = .int x ∧ x.toInt = a.2 := by
  obtain ⟨x, rfl, q⟩ := ab_isI_of (by rw [h]; rfl) hg
  refine ⟨x, rfl, ?_⟩
  rcases q with ⟨-, q⟩ | q | ⟨q, -⟩ | ⟨q, -⟩
  · exact q
  · omega
  · omega
  · omega
theorem ab_gi0 (n : Int) : ab_gi xs (0, n) n := Or.inl ⟨rfl, rfl⟩
theorem ab_gi3 (n m : Int) : ab_gi xs (3, m) n := Or.inr (Or.inl rfl)
theorem ab_ref_of (h : a.1 = 2) (hg : ab_g xs a v) : ∃ p : Nat, v = .ref p ∧ a.2 = (p : Int) := by
  cases v with
  | int x => rcases hg with ⟨q, -⟩ | q | ⟨q, -⟩ | ⟨q, -⟩ <;> omega
  | long x => rcases hg with ⟨q, -⟩ | q <;> omega
  | null => have q : a.1 = 1 := hg; omega
  | ref p => exact ⟨p, rfl, hg.2⟩
  | float _ => exact hg.elim
  | double _ => exact hg.elim
  | retAddr _ => exact hg.elim
theorem ab_null_of (h : a.1 = 1) (hg : ab_g xs a v) : v = .null := by
  cases v with
  | int x => rcases hg with ⟨q, -⟩ | q | ⟨q, -⟩ | ⟨q, -⟩ <;> omega
  | long x => rcases hg with ⟨q, -⟩ | q <;> omega
  | null => rfl
  | ref p => have q := hg.1; omega
  | float _ => exact hg.elim
  | double _ => exact hg.elim
  | retAddr _ => exact hg.elim
theorem ab_long_of (h : a.1 = 4 ∨ a.1 = 5) (hg : ab_g xs a v) : ∃ x, v = .long x ∧ (a.1 = 4 → x.toInt = a.2) := by
  cases v with
  | int x => rcases hg with ⟨q, -⟩ | q | ⟨q, -⟩ | ⟨q, -⟩ <;> omega
  | long x =>
    refine ⟨x, rfl, fun e => ?_⟩
    rcases hg with ⟨-, q⟩ | q
    · exact q
    · omega
  | null => have q : a.1 = 1 := hg; omega
  | ref p => have q := hg.1; omega
  | float _ => exact hg.elim
  | double _ => exact hg.elim
  | retAddr _ => exact hg.elim
theorem ab_cat_of (hg : ab_g xs a v) : v.category = ab_cat a := by
  obtain ⟨t, i⟩ := a
  cases v with
  | int x =>
    show 1 = ab_if (ab_oo (Nat.beq t 4) (Nat.beq t 5)) (2) (1)
    have h1 : Nat.beq t 4 = false := by
      cases e : Nat.beq t 4 with
      | false => rfl
      | true => have := ab_beq e; rcases hg with ⟨q, -⟩ | q | ⟨q, -⟩ | ⟨q, -⟩ <;> simp only at q <;> omega
    have h2 : Nat.beq t 5 = false := by
      cases e : Nat.beq t 5 with
      | false => rfl
      | true => have := ab_beq e; rcases hg with ⟨q, -⟩ | q | ⟨q, -⟩ | ⟨q, -⟩ <;> simp only at q <;> omega
    rw [h1, h2]; rfl
  | long x =>
    rcases hg with ⟨q, -⟩ | q
    · have q : t = 4 := q; subst q; rfl
    · have q : t = 5 := q; subst q; rfl
  | null => have q : t = 1 := hg; subst q; rfl
  | ref p => have q : t = 2 := hg.1; subst q; rfl
  | float _ => exact hg.elim
  | double _ => exact hg.elim
  | retAddr _ => exact hg.elim
theorem ab_gs_cons (h : ab_gs xs (a :: as) vs) : ∃ v r, vs = v :: r ∧ ab_g xs a v ∧ ab_gs xs as r := by
  cases vs with
  | nil => exact h.elim
  | cons v r => exact ⟨v, r, rfl, h.1, h.2⟩
theorem ab_gs_nil (h : ab_gs xs [] vs) : vs = [] := by
  cases vs with
  | nil => rfl
  | cons v r => exact h.elim
theorem ab_gs_len : ∀ {as : List ab_V} {vs : List Value}, ab_gs xs as vs → as.length = vs.length
  | [], [], _ => rfl
  | a :: as, v :: vs, h => by simp only [List.length_cons]; rw [ab_gs_len h.2]
  | [], _ :: _, h => h.elim
  | _ :: _, [], h => h.elim
theorem ab_gs_app : ∀ {as : List ab_V} {vs : List Value} {bs : List ab_V} {us : List Value}, ab_gs xs as vs → ab_gs xs bs us → ab_gs xs (as ++ bs) (vs ++ us)
  | [], [], _, _, _, h2 => h2
  | a :: as, v :: vs, _, _, h, h2 => ⟨h.1, ab_gs_app h.2 h2⟩
  | [], _ :: _, _, _, h, _ => h.elim
  | _ :: _, [], _, _, h, _ => h.elim
theorem ab_gs_rev : ∀ {as : List ab_V} {vs : List Value}, ab_gs xs as vs → ab_gs xs as.reverse vs.reverse
  | [], [], _ => trivial
  | a :: as, v :: vs, h => by
    rw [List.reverse_cons, List.reverse_cons]
    exact ab_gs_app (ab_gs_rev h.2) ⟨h.1, trivial⟩
  | [], _ :: _, h => h.elim
  | _ :: _, [], h => h.elim
theorem ab_gs_take : ∀ (n : Nat) {as : List ab_V} {vs : List Value}, ab_gs xs as vs → ab_gs xs (as.take n) (vs.take n)
  | 0, _, _, _ => trivial
  | n + 1, [], [], _ => trivial
  | n + 1, a :: as, v :: vs, h => ⟨h.1, ab_gs_take n h.2⟩
  | _ + 1, [], _ :: _, h => h.elim
  | _ + 1, _ :: _, [], h => h.elim
theorem ab_gs_drop : ∀ (n : Nat) {as : List ab_V} {vs : List Value}, ab_gs xs as vs → ab_gs xs (as.drop n) (vs.drop n)
  | 0, _, _, h => h
  | n + 1, [], [], _ => trivial
  | n + 1, a :: as, v :: vs, h => ab_gs_drop n h.2
  | _ + 1, [], _ :: _, h => h.elim
  | _ + 1, _ :: _, [], h => h.elim
/-! locals -/
noncomputable def ab_lk (lv : ab_L) (i : Nat) (c : ab_V → Bool) : Bool := List.rec (motive := fun _ => Bool) false (fun q _ ih => ab_if (Nat.beq q.1 i) (c q.2) (ih)) lv
theorem ab_lk_ok {i : Nat} {c : ab_V → Bool} : ∀ {lv : ab_L} {lv' : sm_V}, ab_gl xs lv lv' → ab_lk lv i c = true → ∃ a v, sm_lk lv' i = some v ∧ ab_g xs a v ∧ c a = true
  | [], _, _, h => by cases h
  | (j, a) :: r, (j', v) :: r', hg, h => by
    obtain ⟨⟨rfl, h1⟩, h2⟩ := hg
    have h : (ab_if (Nat.beq j i) (c a) (ab_lk r i c)) = true := h
    cases e : Nat.beq j i with
    | true =>
      rw [e] at h
      have := ab_beq e
      subst this
      exact ⟨a, v, by show (if j = j then some v else sm_lk r' j) = some v; rw [if_pos rfl], h1, h⟩
    | false =>
      rw [e] at h
      obtain ⟨a', v', q1, q2, q3⟩ := ab_lk_ok h2 h
      exact ⟨a', v', by show (if j = i then some v else sm_lk r' i) = some v'; rw [if_neg (ab_bne e)]; exact q1, q2, q3⟩
  | _ :: _, [], h, _ => h.elim
noncomputable def ab_pick (live : List Nat) (lv : ab_L) : (List ab_V → Bool) → Bool := List.rec (motive := fun _ => (List ab_V → Bool) → Bool) (fun c => c []) (fun i _ ih c => ab_lk lv i (fun v => ih (fun vs => c (v :: vs)))) live
theorem ab_pick_ok (hg : ab_gl xs lv lv') : ∀ {live : List Nat} {c : List ab_V → Bool}, ab_pick live lv c = true → ∃ as vs, sm_pick live lv' = some vs ∧ ab_gs xs as vs ∧ c as = true
  | [], c, h => ⟨[], [], rfl, trivial, h⟩
  | i :: r, c, h => by
    have h : ab_lk lv i (fun v => ab_pick r lv (fun vs => c (v :: vs))) = true := h
    obtain ⟨a, v, q1, q2, h⟩ := ab_lk_ok hg h
    obtain ⟨as, vs, q3, q4, q5⟩ := ab_pick_ok hg h
    exact ⟨a :: as, v :: vs, by simp only [sm_pick, q1, q3], ⟨q2, q4⟩, q5⟩
noncomputable def ab_f1 (i : Nat) (q : Nat × ab_V) : Bool := ab_if (Nat.beq q.1 i) false (ab_if (Nat.beq (Nat.succ q.1) i) (ab_if (Nat.beq (ab_cat q.2) 2) false true) true)
noncomputable def ab_f2 (i : Nat) (q : Nat × ab_V) : Bool := ab_if (Nat.beq q.1 i) false (ab_if (Nat.beq q.1 (Nat.succ i)) false (ab_if (Nat.beq (Nat.succ q.1) i) (ab_if (Nat.beq (ab_cat q.2) 2) false true) true))
noncomputable def ab_flt (f : Nat × ab_V → Bool) (lv : ab_L) : ab_L := List.rec (motive := fun _ => ab_L) [] (fun q _ ih => ab_if (f q) (q :: ih) (ih)) lv
theorem ab_flt_eq (f : Nat × ab_V → Bool) : ∀ lv : ab_L, ab_flt f lv = lv.filter f
  | [] => rfl
  | q :: r => by
    show (ab_if (f q) (q :: ab_flt f r) (ab_flt f r)) = _
    rw [ab_flt_eq f r]
    cases e : f q with
    | true => rw [List.filter_cons_of_pos e]; rfl
    | false => rw [List.filter_cons_of_neg (by rw [e]; decide)]; rfl
theorem ab_beq_eq (n m : Nat) : Nat.beq n m = (n == m) := by
  rw [Bool.eq_iff_iff, beq_iff_eq]
  exact ⟨ab_beq, fun e => by rw [e]; exact Nat.beq_refl m⟩
theorem ab_f1_eq (i : Nat) (q : Nat × ab_V) : ab_f1 i q = (!(q.1 == i) && !(q.1 + 1 == i && ab_cat q.2 == 2)) := by
  simp only [ab_f1, ab_beq_eq, Nat.succ_eq_add_one]
  cases (q.1 == i) <;> cases (q.1 + 1 == i) <;> cases (ab_cat q.2 == 2) <;> rfl
noncomputable def ab_s1 (lv : ab_L) (i : Nat) (a : ab_V) : ab_L := (i, a) :: ab_flt (ab_f1 i) lv
theorem ab_f2_eq (i : Nat) (q : Nat × ab_V) : ab_f2 i q = (!(q.1 == i) && (!(q.1 == i + 1) && !(q.1 + 1 == i && ab_cat q.2 == 2))) := by
  simp only [ab_f2, ab_beq_eq, Nat.succ_eq_add_one]
  cases (q.1 == i) <;> cases (q.1 == i + 1) <;> cases (q.1 + 1 == i) <;> cases (ab_cat q.2 == 2) <;> rfl
noncomputable def ab_s2 (lv : ab_L) (i : Nat) (a : ab_V) : ab_L := (i, a) :: ab_flt (ab_f2 i) lv
theorem ab_filter {f : Nat × ab_V → Bool} {g : Nat × Value → Bool} (hfg : ∀ j a v, ab_g xs a v → f (j, a) = g (j, v)) : ∀ {lv : ab_L} {lv' : sm_V}, ab_gl xs lv lv' → ab_gl xs (lv.filter f) (lv'.filter g)
  | [], [], _ => trivial
  | (j, a) :: r, (j', v) :: r', hg => by
    obtain ⟨⟨rfl, h1⟩, h2⟩ := hg
    have e := hfg j a v h1
    cases q : f (j, a) with
    | true =>
      rw [List.filter_cons_of_pos q, List.filter_cons_of_pos (by rw [← e]; exact q)]
      exact ⟨⟨rfl, h1⟩, ab_filter hfg h2⟩
    | false =>
      rw [List.filter_cons_of_neg (by rw [q]; decide), List.filter_cons_of_neg (by rw [← e, q]; decide)]
      exact ab_filter hfg h2
  | [], _ :: _, h => h.elim
  | _ :: _, [], h => h.elim
theorem ab_s1_ok {i : Nat} (hg : ab_gl xs lv lv') (h : ab_g xs a v) : ab_gl xs (ab_s1 lv i a) (sm_s1 lv' i v) := by
  unfold ab_s1
  rw [ab_flt_eq]
  refine ⟨⟨rfl, h⟩, ab_filter (fun j a v q => ?_) hg⟩
  rw [ab_cat_of q]
  exact ab_f1_eq i (j, a)
theorem ab_s2_ok {i : Nat} (hg : ab_gl xs lv lv') (h : ab_g xs a v) : ab_gl xs (ab_s2 lv i a) (sm_s2 lv' i v) := by
  unfold ab_s2
  rw [ab_flt_eq]
  refine ⟨⟨rfl, h⟩, ab_filter (fun j a v q => ?_) hg⟩
  rw [ab_cat_of q]
  exact ab_f2_eq i (j, a)
noncomputable def ab_args (i : Nat) (as : List ab_V) : ab_L := List.rec (motive := fun _ => Nat → ab_L) (fun _ => []) (fun v _ ih i => (i, v) :: ih (ab_if (Nat.beq (ab_cat v) 2) (Nat.succ (Nat.succ i)) (Nat.succ i))) as i
theorem ab_args_ok : ∀ {as : List ab_V} {vs : List Value} (i : Nat), ab_gs xs as vs → ab_gl xs (ab_args i as) (lv_args i vs)
  | [], [], _, _ => trivial
  | a :: as, v :: vs, i, h => by
    refine ⟨⟨rfl, h.1⟩, ?_⟩
    have e : (ab_if (Nat.beq (ab_cat a) 2) (Nat.succ (Nat.succ i)) (Nat.succ i)) = (if v.category = 2 then i + 2 else i + 1) := by
      rw [ab_cat_of h.1]
      cases q : Nat.beq (ab_cat a) 2 with
      | true => rw [if_pos (ab_beq q)]; rfl
      | false => rw [if_neg (ab_bne q)]; rfl
    show ab_gl xs (ab_args (ab_if (Nat.beq (ab_cat a) 2) (Nat.succ (Nat.succ i)) (Nat.succ i)) as) (lv_args (if v.category = 2 then i + 2 else i + 1) vs)
    rw [e]
    exact ab_args_ok _ h.2
  | [], _ :: _, _, h => h.elim
  | _ :: _, [], _, h => h.elim
noncomputable def ab_zip (is : List Nat) : List ab_V → ab_L := List.rec (motive := fun _ => List ab_V → ab_L) (fun _ => []) (fun i _ ih vs => List.rec (motive := fun _ => ab_L) [] (fun v r _ => (i, v) :: ih r) vs) is
theorem ab_zip_ok : ∀ {is : List Nat} {as : List ab_V} {vs : List Value}, ab_gs xs as vs → ab_gl xs (ab_zip is as) (is.zip vs)
  | [], _, _, _ => by rw [List.zip_nil_left]; exact trivial
  | i :: is, [], [], _ => trivial
  | i :: is, a :: as, v :: vs, h => ⟨⟨rfl, h.1⟩, ab_zip_ok h.2⟩
  | _ :: _, [], _ :: _, h => h.elim
  | _ :: _, _ :: _, [], h => h.elim
noncomputable def ab_slots (as : List ab_V) : Nat := List.rec (motive := fun _ => Nat) 0 (fun a _ ih => Nat.add (ab_cat a) ih) as
theorem ab_slots_ok : ∀ {as : List ab_V} {vs : List Value}, ab_gs xs as vs → (lg_sl vs).length = ab_slots as
  | [], [], _ => rfl
  | a :: as, v :: vs, h => by
    have e1 : (lg_sl (v :: vs)).length = (if v.category = 2 then [Slot.val v, .second] else [.val v]).length + (lg_sl vs).length := by
      simp only [lg_sl, List.flatMap_cons, List.length_append]
    rw [e1, ab_slots_ok h.2]
    show _ = ab_cat a + ab_slots as
    rw [← ab_cat_of h.1]
    cases v <;> rfl
  | [], _ :: _, h => h.elim
  | _ :: _, [], h => h.elim
end AbV
end
