/-! what is told: the half of the live side stays -/
def ml_hl (l p j : Nat) : Prop := ((p = 122 ∨ p = 125) ∧ j = l) ∨ ((p = 123 ∨ p = 124 ∨ p = 128) ∧ 10 * l ≤ j ∧ j < 10 * l + 10) ∨ (p = 129 ∧ 40 * l ≤ j ∧ j < 40 * l + 40) ∨ (p = 130 ∧ 120 * l ≤ j ∧ j < 120 * l + 120)
/-- the rest of what is told, on side l -/
def ml_hm (l p j : Nat) : Prop := ((p = 118 ∨ p = 119 ∨ p = 120 ∨ p = 134 ∨ p = 136) ∧ j = l) ∨ (p = 121 ∧ 36 * l ≤ j ∧ j < 36 * l + 36) ∨ ((p = 126 ∨ p = 127 ∨ p = 135) ∧ 10 * l ≤ j ∧ j < 10 * l + 10) ∨ ((p = 131 ∨ p = 132 ∨ p = 133) ∧ 120 * l ≤ j ∧ j < 120 * l + 120) ∨ ((p = 130 ∨ p = 131 ∨ p = 132 ∨ p = 133) ∧ ((240 + 4 * l ≤ j ∧ j < 244 + 4 * l) ∨ (248 + 6 * l ≤ j ∧ j < 254 + 6 * l)))
def ml_Dl (l p j : Nat) : Prop := (p = 107 ∧ j = 20) ∨ (116 ≤ p ∧ p ≤ 136 ∧ ¬ ml_hl l p j ∧ ¬ ml_hm l p j)
theorem mlV_dom {I J : sm_I} {l : Nat} (h122 : J 122 l = I 122 l) (h125 : J 125 l = I 125 l) (h123 : ∀ i : Nat, (i : Int) < (I 122 l).toInt → J 123 (10 * l + i) = I 123 (10 * l + i) ∧ J 124 (10 * l + i) = I 124 (10 * l + i)) (h128 : ∀ s : Nat, (s : Int) < (I 125 l).toInt → J 128 (10 * l + s) = I 128 (10 * l + s)) (h129 : ∀ s c : Nat, (s : Int) < (I 125 l).toInt → (c : Int) < (I 128 (10 * l + s)).toInt → J 129 (4 * (10 * l + s) + c) = I 129 (4 * (10 * l + s) + c)) (h130 : ∀ s c i : Nat, (s : Int) < (I 125 l).toInt → (c : Int) < (I 128 (10 * l + s)).toInt → (i : Int) < (I 129 (4 * (10 * l + s) + c)).toInt → J 130 (3 * (4 * (10 * l + s) + c) + i) = I 130 (3 * (4 * (10 * l + s) + c) + i)) (hV : mlV I l) : mlV J l := by
  refine ⟨fun i a b => ?_, fun s c i a b e => ?_⟩
  · rw [h122] at a
    rw [(h123 i a).1] at b
    rw [(h123 i a).2]
    exact hV.1 i a b
  · rw [h125] at a
    rw [h128 s a] at b
    rw [h129 s c a b] at e
    rw [h130 s c i a b e]
    exact hV.2 s c i a b e
theorem mlV_hl {I J : sm_I} {L : sm_L} {R : sm_R} {l : Nat} (hl : l ≤ 1) (hm : en_mem ml_tb mlX (xLay, I, L, R)) (h : ∀ p j, ml_hl l p j → J p j = I p j) (hV : mlV I l) : mlV J l := by
  have b122 : 0 ≤ (I 122 l).toInt ∧ (I 122 l).toInt ≤ 10 := ml_row hm (p := 122) (n := 2) (q := (0, 10)) (fun _ => rfl) _ (by omega)
  have b125 : 0 ≤ (I 125 l).toInt ∧ (I 125 l).toInt ≤ 10 := ml_row hm (p := 125) (n := 2) (q := (0, 10)) (fun _ => rfl) _ (by omega)
  have b128 : ∀ s : Nat, (s : Int) < (I 125 l).toInt → 0 ≤ (I 128 (10 * l + s)).toInt ∧ (I 128 (10 * l + s)).toInt ≤ 4 := fun s hs => ml_row hm (p := 128) (n := 20) (q := (0, 4)) (fun _ => rfl) _ (by omega)
  have b129 : ∀ s c : Nat, (s : Int) < (I 125 l).toInt → (c : Int) < (I 128 (10 * l + s)).toInt → 0 ≤ (I 129 (4 * (10 * l + s) + c)).toInt ∧ (I 129 (4 * (10 * l + s) + c)).toInt ≤ 3 := fun s c hs hc => ml_row hm (p := 129) (n := 80) (q := (0, 3)) (fun _ => rfl) _ (by have := b128 s hs; omega)
  refine mlV_dom (h 122 l (Or.inl ⟨Or.inl rfl, rfl⟩)) (h 125 l (Or.inl ⟨Or.inr rfl, rfl⟩)) (fun i hi => ⟨h 123 _ (Or.inr (Or.inl ⟨Or.inl rfl, by omega⟩)), h 124 _ (Or.inr (Or.inl ⟨Or.inr (Or.inl rfl), by omega⟩))⟩) (fun s hs => h 128 _ (Or.inr (Or.inl ⟨Or.inr (Or.inr rfl), by omega⟩))) (fun s c hs hc => h 129 _ (Or.inr (Or.inr (Or.inl ⟨rfl, by have := b128 s hs; omega⟩)))) (fun s c i hs hc hi => h 130 _ (Or.inr (Or.inr (Or.inr ⟨rfl, by have := b128 s hs; have := b129 s c hs hc; omega⟩)))) hV
theorem ml_wt {I : sm_I} {L : sm_L} {R : sm_R} {l p j : Nat} {x : Int32} (hl : l ≤ 1) (hv : (I 107 18).toInt = l) (hD : 116 ≤ p ∧ p ≤ 136 ∧ ¬ ml_hl l p j) (hp : p ≠ 116 ∧ p ≠ 117) (hm : en_mem ml_tb mlX (xLay, I, L, R)) (hq : ∀ q, en_int ml_tb p j = some q → q.1 ≤ x.toInt ∧ x.toInt ≤ q.2) : en_mem ml_tb mlX (xLay, sm_up I p j x, L, R) := by
  refine ml_wr hm ?_ hq
  have X := hm.2.2.2.2
  refine ⟨rfl, fun k hk => ?_, fun k hk => ?_, mlP_cg (fun k => en_up_ne _ _ _ _ (by omega)) X.2.2.2.1, mlN_cg (fun k => en_up_ne _ _ _ _ (by omega)) (fun k => en_up_ne _ _ _ _ (by omega)) X.2.2.2.2.1, X.2.2.2.2.2⟩
  · show ((sm_up I p j x) 148 k).toInt ≤ 54 ∨ 60 ≤ ((sm_up I p j x) 148 k).toInt
    rw [en_up_ne _ _ _ _ (by omega)]; exact X.2.1 k hk
  · have hk : (k : Int) = ((sm_up I p j x) 107 18).toInt := hk
    rw [en_up_ne _ _ _ _ (by omega), hv] at hk
    have hk : k = l := by omega
    subst hk
    exact mlV_hl hl hm (fun a b hab => en_up_ne _ _ _ _ (fun c => hD.2.2 (by rw [← c.1, ← c.2]; exact hab))) (X.2.2.1 k hv.symm)
theorem ml_rq {p j n : Nat} {x : Int32} {q : Int × Int} (e : en_int ml_tb p j = bif Nat.blt j n then some q else none) (hx : q.1 ≤ x.toInt ∧ x.toInt ≤ q.2) : ∀ r, en_int ml_tb p j = some r → r.1 ≤ x.toInt ∧ x.toInt ≤ r.2 := by
  intro r hr
  rw [e] at hr
  cases c : Nat.blt j n with
  | true => rw [c] at hr; rw [← Option.some.inj hr]; exact hx
  | false => rw [c] at hr; cases hr
def ml_sum (I : sm_I) (s : Nat) : Int := (I 118 s).toInt + (I 119 s).toInt + (I 122 s).toInt + (I 125 s).toInt + (I 136 s).toInt
/-- what is told so far of side s, while l is live -/
def ml_TI (l s : Nat) (I : sm_I) : Prop := (I 107 18).toInt = l ∧ (I 107 19).toInt = s ∧ (I 107 20).toInt ≤ ml_sum I s ∧ (I 107 15 = 0 → mlV I s)
def ml_ls (l s : Nat) : Prop := (l = 0 ∧ s = 1) ∨ (l = 1 ∧ s = 0)
/-- what neither counts names nor tells hours or spans of sayings -/
def ml_D0 (l p j : Nat) : Prop := (p = 120 ∨ p = 121 ∨ p = 126 ∨ p = 127 ∨ p = 131 ∨ p = 132 ∨ p = 133 ∨ p = 134 ∨ p = 135 ∨ (p = 130 ∧ 240 ≤ j)) ∧ ¬ ml_hm l p j
theorem ml_TI_0 {l s : Nat} {I J : sm_I} {L : sm_L} {R : sm_R} (hls : ml_ls l s) (hm : en_mem ml_tb mlX (xLay, I, L, R)) (h : ml_pS (ml_D0 l) I J) (hT : ml_TI l s I) : ml_TI l s J := by
  have hs : s ≤ 1 := by unfold ml_ls at hls; omega
  have o : ∀ p j, ¬ ml_D0 l p j → ¬ (p = 107 ∧ (j = 11 ∨ j = 13 ∨ j = 14 ∨ j = 15 ∨ j = 16)) → J p j = I p j := h.1
  unfold ml_D0 ml_hm at o
  refine ⟨?_, ?_, ?_, fun c => ?_⟩
  · rw [o 107 18 (by omega) (by omega)]; exact hT.1
  · rw [o 107 19 (by omega) (by omega)]; exact hT.2.1
  · unfold ml_sum
    rw [o 107 20 (by omega) (by omega), o 118 s (by omega) (by omega), o 119 s (by omega) (by omega), o 122 s (by omega) (by omega), o 125 s (by omega) (by omega), o 136 s (by omega) (by omega)]
    exact hT.2.2.1
  · have c' : I 107 15 = 0 := by
      by_cases c2 : I 107 15 = 0
      · exact c2
      · exact absurd c (h.2.1 c2)
    refine mlV_hl hs hm (fun p j hp => o p j ?_ ?_) (hT.2.2.2 c')
    · unfold ml_hl at hp; omega
    · unfold ml_hl at hp; omega
theorem ml_TI_no {l s : Nat} {I J : sm_I} {L : sm_L} {R : sm_R} (hls : ml_ls l s) (hm : en_mem ml_tb mlX (xLay, I, L, R)) (h : ml_pS ml_no I J) (hT : ml_TI l s I) : ml_TI l s J := ml_TI_0 hls hm (ml_pS_no h) hT
/-- one step on, or a FAULT -/
def ml_pg (I J : sm_I) : Prop := ¬ J 107 13 = 0 ∨ (I 107 11).toInt + 1 ≤ (J 107 11).toInt
theorem ml_pg_tr {D : Nat → Nat → Prop} {I J K : sm_I} (g : ml_pg I J) (h : ml_pS D J K) : ml_pg I K := by
  rcases g with g | g
  · exact Or.inl (h.2.2.1 g)
  · exact Or.inr (by have := h.2.2.2; omega)
theorem ml_pg_lt {D : Nat → Nat → Prop} {I J K : sm_I} (h : ml_pS D I J) (g : ml_pg J K) : ml_pg I K := by
  rcases g with g | g
  · exact Or.inl g
  · exact Or.inr (by have := h.2.2.2; omega)
/-- behind what is told -/
def ml_ok (l s : Nat) (R : sm_R) (I J : sm_I) (L : sm_L) : Prop := en_mem ml_tb mlX (xLay, J, L, R) ∧ ml_pS (ml_Dl l) I J ∧ ml_TI l s J ∧ ml_pg I J
theorem ml_sn {l s : Nat} {I : sm_I} (hls : ml_ls l s) (hT : ml_TI l s I) : (I 107 19).toNatClampNeg = s ∧ vp_in (I 107 19) 2 := by
  have h := hT.2.1
  unfold ml_ls at hls
  have n := kl_nat (i := I 107 19) (by omega)
  exact ⟨by omega, kl_in (by omega) (by omega)⟩
theorem ml_cs {I : sm_I} {L : sm_L} {R : sm_R} {s : Nat} (hs : s ≤ 1) (hm : en_mem ml_tb mlX (xLay, I, L, R)) : (0 ≤ (I 118 s).toInt ∧ (I 118 s).toInt ≤ 4) ∧ (0 ≤ (I 119 s).toInt ∧ (I 119 s).toInt ≤ 6) ∧ (0 ≤ (I 122 s).toInt ∧ (I 122 s).toInt ≤ 10) ∧ (0 ≤ (I 125 s).toInt ∧ (I 125 s).toInt ≤ 10) ∧ (0 ≤ (I 136 s).toInt ∧ (I 136 s).toInt ≤ 5) := ⟨ml_row hm (p := 118) (n := 2) (q := (0, 4)) (fun _ => rfl) _ (by omega), ml_row hm (p := 119) (n := 2) (q := (0, 6)) (fun _ => rfl) _ (by omega), ml_row hm (p := 122) (n := 2) (q := (0, 10)) (fun _ => rfl) _ (by omega), ml_row hm (p := 125) (n := 2) (q := (0, 10)) (fun _ => rfl) _ (by omega), ml_row hm (p := 136) (n := 2) (q := (0, 5)) (fun _ => rfl) _ (by omega)⟩
theorem ml_nm49 {I : sm_I} {L : sm_L} {R : sm_R} {l s : Nat} (hls : ml_ls l s) (hT : ml_TI l s I) (hm : en_mem ml_tb mlX (xLay, I, L, R)) : (I 107 20).toInt ≤ 49 := by
  have hs : s ≤ 1 := by unfold ml_ls at hls; omega
  have b := ml_cs hs hm
  have h := hT.2.2.1
  unfold ml_sum at h
  omega
/-- one more is told, and its name known -/
theorem ml_done {l s p : Nat} {I J3 K J : sm_I} {L L' : sm_L} {R : sm_R} {n : Int32} {mx : Int} (hls : ml_ls l s) (m3 : en_mem ml_tb mlX (xLay, J3, L, R)) (T3 : ml_TI l s J3) (p3 : ml_pS (ml_Dl l) I J3) (g3 : ml_pg I J3) (mK : en_mem ml_tb mlX (xLay, K, L', R)) (pK : ml_pS (ml_kn (J3 107 20).toNatClampNeg) J3 K) (nK : (K 107 20).toInt = (J3 107 20).toInt + 1) (hp : p = 118 ∨ p = 119 ∨ p = 122 ∨ p = 125 ∨ p = 136) (en : en_int ml_tb p s = some (0, mx)) (hn : n = K p s + 1) (h0 : 0 ≤ (J3 p s).toInt) (hb : (J3 p s).toInt + 1 ≤ mx) (hmx : mx ≤ 10) (e : J = sm_up K p s n) (hV : J 107 15 = 0 → mlV J s) : ml_ok l s R I J L' := by
  have oK : ∀ a b, ¬ ml_kn (J3 107 20).toNatClampNeg a b → ¬ (a = 107 ∧ (b = 11 ∨ b = 13 ∨ b = 14 ∨ b = 15 ∨ b = 16)) → K a b = J3 a b := pK.1
  unfold ml_kn at oK
  unfold ml_ls at hls
  have sK : K p s = J3 p s := oK p s (by omega) (by omega)
  have nn : n.toInt = (J3 p s).toInt + 1 := by rw [hn, sK]; exact ml_in1 (by omega)
  have hD : 116 ≤ p ∧ p ≤ 136 ∧ ¬ ml_hl l p s := by
    refine ⟨by omega, by omega, fun c => ?_⟩
    unfold ml_hl at c
    omega
  have pJ : ml_pS (ml_Dl l) J3 J := by
    refine ml_pS_tr (J := K) (ml_pS_mo pK (fun a b c => ?_)) (by rw [e]; exact ml_pS_up (Or.inr ⟨hD.1, hD.2.1, hD.2.2, fun c => by unfold ml_hm at c; omega⟩) (by omega))
    unfold ml_kn at c
    unfold ml_Dl ml_hl ml_hm
    omega
  refine ⟨?_, ml_pS_tr p3 pJ, ⟨?_, ?_, ?_, hV⟩, ml_pg_tr g3 pJ⟩
  · rw [e]
    refine ml_wt (l := l) (by omega) (by rw [oK 107 18 (by omega) (by omega)]; exact T3.1) hD (by omega) mK (fun q hq => ?_)
    rw [en] at hq
    rw [← Option.some.inj hq]
    show 0 ≤ n.toInt ∧ n.toInt ≤ mx
    omega
  · rw [e, en_up_ne _ _ _ _ (by omega), oK 107 18 (by omega) (by omega)]; exact T3.1
  · rw [e, en_up_ne _ _ _ _ (by omega), oK 107 19 (by omega) (by omega)]; exact T3.2.1
  · have t := T3.2.2.1
    have f : ∀ a, (a = 118 ∨ a = 119 ∨ a = 122 ∨ a = 125 ∨ a = 136) → (J a s).toInt = (J3 a s).toInt + (if a = p then 1 else 0) := by
      intro a ha
      by_cases c : a = p
      · subst c; rw [e, en_up_eq, if_pos rfl]; exact nn
      · rw [e, en_up_ne _ _ _ _ (by omega), oK a s (by omega) (by omega), if_neg c]; omega
    unfold ml_sum at t ⊢
    rw [f 118 (by omega), f 119 (by omega), f 122 (by omega), f 125 (by omega), f 136 (by omega), e, en_up_ne _ _ _ _ (by omega), nK]
    rcases hp with c | c | c | c | c <;> subst c <;> simp <;> omega
theorem ml_V3 {l s p : Nat} {J3 K J : sm_I} {L : sm_L} {R : sm_R} {n : Int32} (hls : ml_ls l s) (m3 : en_mem ml_tb mlX (xLay, J3, L, R)) (T3 : ml_TI l s J3) (pK : ml_pS (ml_kn (J3 107 20).toNatClampNeg) J3 K) (hp : p = 118 ∨ p = 119 ∨ p = 136) (e : J = sm_up K p s n) (c : J 107 15 = 0) : mlV J s := by
  have oK : ∀ a b, ¬ ml_kn (J3 107 20).toNatClampNeg a b → ¬ (a = 107 ∧ (b = 11 ∨ b = 13 ∨ b = 14 ∨ b = 15 ∨ b = 16)) → K a b = J3 a b := pK.1
  unfold ml_kn at oK
  have hs : s ≤ 1 := by unfold ml_ls at hls; omega
  rw [e, en_up_ne _ _ _ _ (by omega)] at c
  have c' : J3 107 15 = 0 := by
    by_cases c2 : J3 107 15 = 0
    · exact c2
    · exact absurd c (pK.2.1 c2)
  refine mlV_hl hs m3 (fun a b hab => ?_) (T3.2.2.2 c')
  unfold ml_hl at hab
  rw [e, en_up_ne _ _ _ _ (by omega), oK a b (by omega) (by omega)]
theorem mx_tellName {S : sm_C} {d : Nat} {Φ : sm_Z → Prop} {I : sm_I} {L : sm_L} {R : sm_R} {x1 : Int32} {l s : Nat} (hls : ml_ls l s) (hm : en_mem ml_tb mlX (xLay, I, L, R)) (hT : ml_TI l s I) (hx : (x1 = 0 ∧ (I 118 s).toInt ≤ 3) ∨ (x1 = 1 ∧ (I 119 s).toInt ≤ 5)) (h : ∀ (J : sm_I) (L' : sm_L), ml_ok l s R I J L' → Φ (none, (xLay, J, L', kM R))) : sm_wp sm_P S (d + 4) 197 0 [.ref 107, .int x1] [] (xLay, I, L, kM R) (0, 0) Φ := by
  have hs : s ≤ 1 := by unfold ml_ls at hls; omega
  refine u_X12_tellName_0 (mx_goesOn hm (fun J1 m1 p1 g1 => ⟨J1, L, R, rfl, mx_named m1 (fun r J2 r0 r1 m2 p2 => ⟨r, J2, L, R, rfl, mx_must m2 (fun J3 m3 p3 => ⟨J3, L, R, rfl, fun a => ?_, fun _ => ?_⟩)⟩)⟩))
  all_goals
    have pI : ml_pS ml_no I J3 := ml_pS_tr p1 (ml_pS_tr p2 p3)
    have T3 : ml_TI l s J3 := ml_TI_no hls hm pI hT
    have g3 : ml_pg I J3 := ml_pg_tr g1 (ml_pS_tr p2 p3)
  · obtain ⟨sn, sv⟩ := ml_sn hls T3
    have b3 := ml_cs hs m3
    have e118 : J3 118 s = I 118 s := ml_pS_g pI (by omega)
    have e119 : J3 119 s = I 119 s := ml_pS_g pI (by omega)
    have t0 : (0 : Int32).toInt = 0 := by decide
    have t1 : (1 : Int32).toInt = 1 := by decide
    rcases hx with ⟨ex, hx⟩ | ⟨ex, hx⟩
    · subst ex
      refine ⟨fun _ => ⟨sv, fun n24 e24 => ?_⟩, fun c => absurd rfl c⟩
      rw [sn] at e24
      refine mx_knows r0 r1 (by decide) (by rw [e24]; omega) (fun _ => by rw [e24, e118]; omega) (fun c => absurd c (by decide)) (ml_nm49 hls T3 m3) m3 (fun K L' mK pK nK => ⟨K, L', R, rfl, fun _ => ?_, fun c => absurd rfl c⟩)
      have k19 : K 107 19 = J3 107 19 := pK.1 107 19 (by unfold ml_kn; omega) (by omega)
      rw [k19]
      refine ⟨sv, fun n31 e31 => ⟨sv, fun J e => h J L' ?_⟩⟩
      rw [sn] at e31 e
      exact ml_done hls m3 T3 (ml_pS_no pI) g3 mK pK nK (Or.inl rfl) (mx := 4) (by unfold ml_ls at hls; rcases hls with ⟨-, c⟩ | ⟨-, c⟩ <;> subst c <;> rfl) e31 b3.1.1 (by rw [e118]; omega) (by omega) e (ml_V3 hls m3 T3 pK (Or.inl rfl) e)
    · subst ex
      refine ⟨fun c => absurd c (by decide), fun _ => ⟨sv, fun n24 e24 => ?_⟩⟩
      rw [sn] at e24
      refine mx_knows r0 r1 (by decide) (by rw [e24]; omega) (fun c => absurd c (by decide)) (fun _ => by rw [e24, e119]; omega) (ml_nm49 hls T3 m3) m3 (fun K L' mK pK nK => ⟨K, L', R, rfl, fun c => absurd c (by decide), fun _ => ?_⟩)
      have k19 : K 107 19 = J3 107 19 := pK.1 107 19 (by unfold ml_kn; omega) (by omega)
      rw [k19]
      refine ⟨sv, fun n31 e31 => ⟨sv, fun J e => h J L' ?_⟩⟩
      rw [sn] at e31 e
      exact ml_done hls m3 T3 (ml_pS_no pI) g3 mK pK nK (Or.inr (Or.inl rfl)) (mx := 6) (by unfold ml_ls at hls; rcases hls with ⟨-, c⟩ | ⟨-, c⟩ <;> subst c <;> rfl) e31 b3.2.1.1 (by rw [e119]; omega) (by omega) e (ml_V3 hls m3 T3 pK (Or.inr (Or.inl rfl)) e)
  · exact h J3 L ⟨m3, ml_pS_no pI, T3, g3⟩
