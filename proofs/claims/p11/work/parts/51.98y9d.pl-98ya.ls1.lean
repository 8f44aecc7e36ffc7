section
/-! THE LAW: levelOf of the class, with its levels (wip/pe/mkl2.py) -/
theorem lvl12 {S : sm_C} {d : Nat} {I : sm_I} {L : sm_L} {R : sm_R} {Φ : sm_Z → Prop} {x : Int32} (hI : lw_J I L R) (hq : R 0 9 = some 12) (h0 : x.toInt < 0 → Φ (some (.int (-1)), (xLay, I, L, kF12_74 R))) (h1 : ∀ (r : Int32) (J : sm_I) (L' : sm_L) (R' : sm_R), 0 ≤ x.toInt → XG 12 I R J L' R' → kG12_74 R' = R' → J 0 12 ≠ 0 → en_mem kl_tb2 klY (xLay, J, L', R') → (((KF 12 I).2.2.2.2.1 = true ∧ r = -3) ∨ ((KF 12 I).2.2.2.2.1 = false ∧ (((KF 12 I).2.2.2.1 ≤ x.toInt ∧ r = -1) ∨ (x.toInt < (KF 12 I).2.2.2.1 ∧ r.toInt = (kys 12 I).length)))) → Φ (some (.int r), (xLay, J, L', R'))) : sm_wp sm_P S (d + 6 + 1) 68 0 [.ref 0, .int x] [] (xLay, I, L, kF12_74 R) (0, 0) Φ := by
  have m := hI.1.1
  obtain ⟨q, hq', g1, g2, g3⟩ := hI.2.1
  have e : q = 12 := Option.some.inj (g1.symm.trans hq)
  subst e
  have eF : kF12_74 R = R := kF12_74_eq (w := (xLay, I, L, R)) m g1
  rw [eF] at h0 ⊢
  have A := klk_216 (Sc := S) (d + 6 + 1) (show 7 ≤ d + 6 + 1 by omega) [.ref 0, .int x] (xLay, I, L, R) ⟨⟨rfl, rfl⟩, ⟨rfl, en_crange.1, en_crange.2⟩, trivial⟩ (ky_up m hI.2.1) ml_pf0
  refine sm_wp_mono (sm_wp_and A (lvX12 (S := S) (d := d) (x := x) (Φ := fun z => en_mem kl_tb2 klY z.2 → Φ z) m g1 g2 g3 (fun c _ => h0 c) (fun r J L' R' x0 xv cs mm => ?_))) (fun z q => q.2 q.1.2.1)
  obtain ⟨y1, y2, y3, y4, y5, y6, y7, y8⟩ := xv
  refine h1 r J L' R' x0 ⟨y1, y2, y3, y4⟩ y6 y7 mm ?_
  rcases cs with c | ⟨v, c | ⟨c1, c2, c3⟩⟩
  · exact Or.inl c
  · exact Or.inr ⟨v, Or.inl c⟩
  · exact Or.inr ⟨v, Or.inr ⟨c1, c2⟩⟩
theorem lvl49 {S : sm_C} {d : Nat} {I : sm_I} {L : sm_L} {R : sm_R} {Φ : sm_Z → Prop} {x : Int32} (hI : lw_J I L R) (hq : R 0 9 = some 49) (h0 : x.toInt < 0 → Φ (some (.int (-1)), (xLay, I, L, kF49_74 R))) (h1 : ∀ (r : Int32) (J : sm_I) (L' : sm_L) (R' : sm_R), 0 ≤ x.toInt → XG 49 I R J L' R' → kG49_74 R' = R' → J 0 12 ≠ 0 → en_mem kl_tb2 klY (xLay, J, L', R') → (((KF 49 I).2.2.2.2.1 = true ∧ r = -3) ∨ ((KF 49 I).2.2.2.2.1 = false ∧ (((KF 49 I).2.2.2.1 ≤ x.toInt ∧ r = -1) ∨ (x.toInt < (KF 49 I).2.2.2.1 ∧ r.toInt = (kys 49 I).length)))) → Φ (some (.int r), (xLay, J, L', R'))) : sm_wp sm_P S (d + 6 + 1) 68 0 [.ref 0, .int x] [] (xLay, I, L, kF49_74 R) (0, 0) Φ := by
  have m := hI.1.1
  obtain ⟨q, hq', g1, g2, g3⟩ := hI.2.1
  have e : q = 49 := Option.some.inj (g1.symm.trans hq)
  subst e
  have eF : kF49_74 R = R := kF49_74_eq (w := (xLay, I, L, R)) m g1
  rw [eF] at h0 ⊢
  have A := klk_216 (Sc := S) (d + 6 + 1) (show 7 ≤ d + 6 + 1 by omega) [.ref 0, .int x] (xLay, I, L, R) ⟨⟨rfl, rfl⟩, ⟨rfl, en_crange.1, en_crange.2⟩, trivial⟩ (ky_up m hI.2.1) ml_pf0
  refine sm_wp_mono (sm_wp_and A (lvX49 (S := S) (d := d) (x := x) (Φ := fun z => en_mem kl_tb2 klY z.2 → Φ z) m g1 g2 g3 (fun c _ => h0 c) (fun r J L' R' x0 xv cs mm => ?_))) (fun z q => q.2 q.1.2.1)
  obtain ⟨y1, y2, y3, y4, y5, y6, y7, y8⟩ := xv
  refine h1 r J L' R' x0 ⟨y1, y2, y3, y4⟩ y6 y7 mm ?_
  rcases cs with c | ⟨v, c | ⟨c1, c2, c3⟩⟩
  · exact Or.inl c
  · exact Or.inr ⟨v, Or.inl c⟩
  · exact Or.inr ⟨v, Or.inr ⟨c1, c2⟩⟩
end
section
/-! THE LAW: choices of a WAY: helps (wip/pe/mkp5.py) -/
theorem slm_mono {set : Int32} {s m b : Nat} (sb : s ≤ b) {i j : Nat} (hij : i < j) (hj : j < (sL set s ++ mL b m).length) : (sL set s ++ mL b m).getD i 0 < (sL set s ++ mL b m).getD j 0 := by
  have hl : (sL set s ++ mL b m).length = (sL set s).length + m := by rw [List.length_append, mL_len]
  rw [hl] at hj
  have up : ∀ k, (sL set s).length ≤ k → k < (sL set s).length + m → (sL set s ++ mL b m).getD k 0 = b + (k - (sL set s).length) := fun k h1 h2 => by
    obtain ⟨t, rfl⟩ : ∃ t, k = (sL set s).length + t := ⟨k - (sL set s).length, by omega⟩
    rw [nG_r, mL_at b m t (by omega), Nat.add_sub_cancel_left]
  by_cases c : j < (sL set s).length
  · rw [nG_l (by omega), nG_l c]
    exact sL_mono set s i j hij c
  · rw [up j (by omega) hj]
    by_cases c2 : i < (sL set s).length
    · rw [nG_l c2]
      have : (sL set s).getD i 0 = (sL set s)[i] := by rw [List.getD_eq_getElem?_getD, List.getElem?_eq_getElem c2]; rfl
      have := sL_in set s _ (List.getElem_mem c2)
      omega
    · rw [up i (by omega) (by omega)]
      omega
theorem itL_un {set : Int32} {s m e a k : Nat} (s10 : s ≤ 10) (m45 : m ≤ 45) (hk : k < (itL set s m 0).length) (ha : (itL set s m 0).getD k 0 = a) : k < (itL set s m e).length ∧ (itL set s m e).getD k 0 = a ∧ (∀ j, j < (itL set s m e).length → (itL set s m e).getD j 0 = a → j = k) ∧ k < 55 ∧ (itL set s m e).length ≤ 55 + e ∧ ∀ j, j < (itL set s m e).length → (itL set s m e).getD j 0 < 60 + e := by
  have x := itL_in hk
  have e0 : itL set s m 0 = sL set s ++ mL 10 m := List.append_nil _
  have ee : itL set s m e = (sL set s ++ mL 10 m) ++ mL 60 e := rfl
  have len : (sL set s ++ mL 10 m).length ≤ s + m := by
    rw [List.length_append, mL_len]
    have := sL_len set s
    omega
  rw [ha] at x
  rw [e0] at hk ha
  rw [ee]
  have ll : ((sL set s ++ mL 10 m) ++ mL 60 e).length = (sL set s ++ mL 10 m).length + e := by rw [List.length_append, mL_len]
  have lo : ∀ j, j < (sL set s ++ mL 10 m).length → (sL set s ++ mL 10 m).getD j 0 < 55 := fun j hj => by
    have y := itL_in (set := set) (s := s) (m := m) (k := j) (by rw [e0]; exact hj)
    rw [e0] at y
    omega
  have hi : ∀ t, t < e → ((sL set s ++ mL 10 m) ++ mL 60 e).getD ((sL set s ++ mL 10 m).length + t) 0 = 60 + t := fun t ht => by rw [nG_r, mL_at 60 e t ht]
  refine ⟨by rw [ll]; omega, by rw [nG_l hk]; exact ha, fun j hj h => ?_, by omega, by rw [ll]; omega, fun j hj => ?_⟩
  · rw [ll] at hj
    by_cases c : j < (sL set s ++ mL 10 m).length
    · rw [nG_l c] at h
      rcases Nat.lt_trichotomy j k with q | q | q
      · have := slm_mono (set := set) (m := m) (b := 10) s10 q hk
        omega
      · exact q
      · have := slm_mono (set := set) (m := m) (b := 10) s10 q c
        omega
    · obtain ⟨t, rfl⟩ : ∃ t, j = (sL set s ++ mL 10 m).length + t := ⟨j - (sL set s ++ mL 10 m).length, by omega⟩
      rw [hi t (by omega)] at h
      omega
  · rw [ll] at hj
    by_cases c : j < (sL set s ++ mL 10 m).length
    · rw [nG_l c]
      have := lo j c
      omega
    · obtain ⟨t, rfl⟩ : ∃ t, j = (sL set s ++ mL 10 m).length + t := ⟨j - (sL set s ++ mL 10 m).length, by omega⟩
      rw [hi t (by omega)]
      omega
theorem rxs_mv {I : sm_I} {l m : Nat} (b : 0 ≤ (I 107 46).toInt ∧ (I 107 46).toInt ≤ 45) (hm : (m : Int) < (I 107 46).toInt) : ∃ i, i < (rxs I l).length ∧ (rxs I l).getD i 0 = 10 + m := by
  have nb := kl_nat b.1
  have mn : m < (I 107 46).toNatClampNeg := by omega
  refine ⟨(sL (rdb I (I 125 l).toNatClampNeg) (I 125 l).toNatClampNeg).length + m, ?_, ?_⟩
  · unfold rxs itL
    rw [List.length_append, List.length_append, mL_len]
    omega
  · unfold rxs itL
    rw [nG_l (by rw [List.length_append, mL_len]; omega), nG_r, mL_at 10 _ m mn]
/-- what a call with a WAY answers where there is no such WAY -/
def cGo (x : Int32) (F : ss) : Prop := 0 ≤ x.toInt ∧ F.2.2.2.2.1 = false ∧ x.toInt < F.2.2.2.1
def xlv (x : Int32) (F : ss) (r : Int32) : Prop := (x.toInt < 0 → r = -1) ∧ (0 ≤ x.toInt → F.2.2.2.2.1 = true → r = -3) ∧ (0 ≤ x.toInt → F.2.2.2.2.1 = false → F.2.2.2.1 ≤ x.toInt → r = -1)
theorem xlv_go {x : Int32} {F : ss} {r : Int32} (h : cGo x F) : xlv x F r := ⟨fun q => by have := h.1; omega, fun _ q => by rw [h.2.1] at q; exact absurd q (by decide), fun _ _ q => by have := h.2.2; omega⟩
def wyA (qt : Nat) (I : sm_I) (x y r : Int32) : Prop := ∀ k, k < (kys qt I).length → y = Int32.ofNat ((kys qt I).getD k 0) → r = Int32.ofNat ((KF qt I).2.2.2.2.2.2 x.toNatClampNeg k)
theorem lvq12 {S : sm_C} {d : Nat} {I : sm_I} {L : sm_L} {R : sm_R} {Φ : sm_Z → Prop} {x : Int32} (hI : lw_J I L R) (hq : R 0 9 = some 12) (hn : ∀ (r : Int32) (J : sm_I) (L' : sm_L) (R' : sm_R), XF I R J R' → kF12_74 R' = R' → ¬ cGo x (KF 12 I) → xlv x (KF 12 I) r → r.toInt < 0 → Φ (some (.int r), (xLay, J, L', R'))) (hy : ∀ (r : Int32) (J : sm_I) (L' : sm_L) (R' : sm_R), XG 12 I R J L' R' → kG12_74 R' = R' → kF12_74 R' = R' → J 0 12 ≠ 0 → en_mem kl_tb2 klY (xLay, J, L', R') → cGo x (KF 12 I) → r.toInt = (kys 12 I).length → Φ (some (.int r), (xLay, J, L', R'))) : sm_wp sm_P S (d + 6 + 1) 68 0 [.ref 0, .int x] [] (xLay, I, L, kF12_74 R) (0, 0) Φ := by
  have eF : kF12_74 R = R := kF12_74_eq (w := (xLay, I, L, R)) hI.1.1 hq
  refine lvl12 hI hq (fun c => hn _ I L _ ⟨by rw [eF], by rw [eF], fun _ _ _ => rfl⟩ (by rw [eF]; exact eF) (fun g => by have := g.1; omega) ⟨fun _ => rfl, fun q => by omega, fun q => by omega⟩ (by decide)) (fun r J L' R' x0 xg eG c12 mm cs => ?_)
  have eF' : kF12_74 R' = R' := by rw [← eG, kFG12]
  have xf : XF I R J R' := ⟨xg.1, xg.2.1, xg.2.2.1⟩
  rcases cs with ⟨s, e⟩ | ⟨s, ⟨c, e⟩ | ⟨c, e⟩⟩
  · exact hn r J L' R' xf eF' (fun g => by rw [g.2.1] at s; exact absurd s (by decide)) ⟨fun q => by omega, fun _ _ => e, fun _ q => by rw [s] at q; exact absurd q (by decide)⟩ (by rw [e]; decide)
  · exact hn r J L' R' xf eF' (fun g => by have := g.2.2; omega) ⟨fun q => by omega, fun _ q => by rw [s] at q; exact absurd q (by decide), fun _ _ _ => e⟩ (by rw [e]; decide)
  · exact hy r J L' R' xg eG eF' c12 mm ⟨x0, s, c⟩ e
theorem chK12 {S : sm_C} {d : Nat} {Φ : sm_Z → Prop} {I J : sm_I} {L' : sm_L} {R R' : sm_R} {x y : Int32} (hk : kW 12 I) (xg : XG 12 I R J L' R') (eG : kG12_74 R' = R') (c : cGo x (KF 12 I)) (h : ∀ r : Int32, wyA 12 I x y r → Φ (some (.int r), (xLay, J, L', R'))) : sm_wp sm_P S d 216 0 [.ref 45, .int x, .int y] [] (xLay, J, L', R') (0, 0) Φ := by
  have w := GT_wf (n := (I 12 2).toNatClampNeg + 1) (m := (kys 12 I).length) (B := kbaC 12 (kst I) id) (cc := fun i c => kcv 12 74 (kst I) id ((kys 12 I).getD i 0) c) (nc := fun j => kcd 12 (kst I) ((kys 12 I).getD j 0)) (tf := false)
  have f1 : (KF 12 I).2.2.2.1 ≤ 1000 := w.2.2.2.2.1.1
  obtain ⟨x0, -, xf⟩ := c
  have n := kl_nat x0
  have wv : ∀ k, k < (kys 12 I).length → (KF 12 I).2.2.2.2.2.2 x.toNatClampNeg k < kcd 12 (kst I) ((kys 12 I).getD k 0) := (w.2.2.1 x.toNatClampNeg (show x.toNatClampNeg < (KF 12 I).2.2.2.1 by omega)).1
  have bk : wbk (J 47 x.toNatClampNeg) (L' 48 x.toNatClampNeg) (gyw (kys 12 I) ((KF 12 I).2.2.2.2.2.2 x.toNatClampNeg) (kys 12 I).length) := xg.2.2.2.2.2.2 _ (by omega)
  have s10 : (I 12 3).toNatClampNeg ≤ 10 := by
    have := kl_nat hk.2.1.1
    have := hk.2.1.2
    omega
  have gy : ∀ k, k < (kys 12 I).length → gyw (kys 12 I) ((KF 12 I).2.2.2.2.2.2 x.toNatClampNeg) (kys 12 I).length ((kys 12 I).getD k 0) = (KF 12 I).2.2.2.2.2.2 x.toNatClampNeg k := fun k hk' => gyw_at _ hk' (fun j a b => by
    have : (kys 12 I).getD k 0 < (kys 12 I).getD j 0 := kitL_mono s10 a b
    omega)
  have h1000 : (1000 : Int32).toInt = 1000 := by decide
  have h100 : (100 : Int32).toInt = 100 := by decide
  rw [← eG] at h ⊢
  refine pg12_74_X1_choiceOf_0 ⟨fun q => ?_, fun _ => ⟨fun _ => ⟨fun a => ⟨kl_in x0 (by omega), h _ (fun k hk' e => ?_)⟩, fun a => ⟨kl_in x0 (by omega), h _ (fun k hk' e => ?_)⟩⟩, fun q => absurd (Int32.lt_iff_toInt_lt.mpr (by rw [h1000]; omega)) q⟩⟩
  · have := Int32.lt_iff_toInt_lt.mp q
    rw [kl_0] at this
    omega
  · have yin : (kys 12 I).getD k 0 < (I 12 3).toNatClampNeg ∨ (100 ≤ (kys 12 I).getD k 0 ∧ (kys 12 I).getD k 0 < 100 + (I 12 5).toNatClampNeg) := kitL_in hk'
    have v := wv k hk'
    have g := gy k hk'
    have a' := kl_le.mp a
    rcases g12_74_c4 (hk.2.2.2.2.2.2 _ yin) with ⟨b1, b2⟩ | ⟨b1, b2, b3⟩
    · rw [e, Int32.toInt_ofNat_of_lt (by omega), h100] at a'
      omega
    · obtain ⟨t, ht⟩ : ∃ t, (kys 12 I).getD k 0 = 100 + t := ⟨(kys 12 I).getD k 0 - 100, by omega⟩
      rw [ht] at g
      rw [e, ht, ← g]
      exact wbk_dm bk (by omega) (by rw [g]; omega)
  · have yin : (kys 12 I).getD k 0 < (I 12 3).toNatClampNeg ∨ (100 ≤ (kys 12 I).getD k 0 ∧ (kys 12 I).getD k 0 < 100 + (I 12 5).toNatClampNeg) := kitL_in hk'
    have v := wv k hk'
    have g := gy k hk'
    rcases g12_74_c4 (hk.2.2.2.2.2.2 _ yin) with ⟨b1, b2⟩ | ⟨b1, b2, b3⟩
    · rw [e, ← g]
      exact wbk_ds bk b1 (by rw [g]; omega)
    · exact absurd (kl_le.mpr (by rw [e, Int32.toInt_ofNat_of_lt (by omega), h100]; omega)) a
theorem lvq49 {S : sm_C} {d : Nat} {I : sm_I} {L : sm_L} {R : sm_R} {Φ : sm_Z → Prop} {x : Int32} (hI : lw_J I L R) (hq : R 0 9 = some 49) (hn : ∀ (r : Int32) (J : sm_I) (L' : sm_L) (R' : sm_R), XF I R J R' → kF49_74 R' = R' → ¬ cGo x (KF 49 I) → xlv x (KF 49 I) r → r.toInt < 0 → Φ (some (.int r), (xLay, J, L', R'))) (hy : ∀ (r : Int32) (J : sm_I) (L' : sm_L) (R' : sm_R), XG 49 I R J L' R' → kG49_74 R' = R' → kF49_74 R' = R' → J 0 12 ≠ 0 → en_mem kl_tb2 klY (xLay, J, L', R') → cGo x (KF 49 I) → r.toInt = (kys 49 I).length → Φ (some (.int r), (xLay, J, L', R'))) : sm_wp sm_P S (d + 6 + 1) 68 0 [.ref 0, .int x] [] (xLay, I, L, kF49_74 R) (0, 0) Φ := by
  have eF : kF49_74 R = R := kF49_74_eq (w := (xLay, I, L, R)) hI.1.1 hq
  refine lvl49 hI hq (fun c => hn _ I L _ ⟨by rw [eF], by rw [eF], fun _ _ _ => rfl⟩ (by rw [eF]; exact eF) (fun g => by have := g.1; omega) ⟨fun _ => rfl, fun q => by omega, fun q => by omega⟩ (by decide)) (fun r J L' R' x0 xg eG c12 mm cs => ?_)
  have eF' : kF49_74 R' = R' := by rw [← eG, kFG49]
  have xf : XF I R J R' := ⟨xg.1, xg.2.1, xg.2.2.1⟩
  rcases cs with ⟨s, e⟩ | ⟨s, ⟨c, e⟩ | ⟨c, e⟩⟩
  · exact hn r J L' R' xf eF' (fun g => by rw [g.2.1] at s; exact absurd s (by decide)) ⟨fun q => by omega, fun _ _ => e, fun _ q => by rw [s] at q; exact absurd q (by decide)⟩ (by rw [e]; decide)
  · exact hn r J L' R' xf eF' (fun g => by have := g.2.2; omega) ⟨fun q => by omega, fun _ q => by rw [s] at q; exact absurd q (by decide), fun _ _ _ => e⟩ (by rw [e]; decide)
  · exact hy r J L' R' xg eG eF' c12 mm ⟨x0, s, c⟩ e
theorem chK49 {S : sm_C} {d : Nat} {Φ : sm_Z → Prop} {I J : sm_I} {L' : sm_L} {R R' : sm_R} {x y : Int32} (hk : kW 49 I) (xg : XG 49 I R J L' R') (eG : kG49_74 R' = R') (c : cGo x (KF 49 I)) (h : ∀ r : Int32, wyA 49 I x y r → Φ (some (.int r), (xLay, J, L', R'))) : sm_wp sm_P S d 216 0 [.ref 45, .int x, .int y] [] (xLay, J, L', R') (0, 0) Φ := by
  have w := GT_wf (n := (I 49 2).toNatClampNeg + 1) (m := (kys 49 I).length) (B := kbaC 49 (kst I) id) (cc := fun i c => kcv 49 74 (kst I) id ((kys 49 I).getD i 0) c) (nc := fun j => kcd 49 (kst I) ((kys 49 I).getD j 0)) (tf := false)
  have f1 : (KF 49 I).2.2.2.1 ≤ 1000 := w.2.2.2.2.1.1
  obtain ⟨x0, -, xf⟩ := c
  have n := kl_nat x0
  have wv : ∀ k, k < (kys 49 I).length → (KF 49 I).2.2.2.2.2.2 x.toNatClampNeg k < kcd 49 (kst I) ((kys 49 I).getD k 0) := (w.2.2.1 x.toNatClampNeg (show x.toNatClampNeg < (KF 49 I).2.2.2.1 by omega)).1
  have bk : wbk (J 47 x.toNatClampNeg) (L' 48 x.toNatClampNeg) (gyw (kys 49 I) ((KF 49 I).2.2.2.2.2.2 x.toNatClampNeg) (kys 49 I).length) := xg.2.2.2.2.2.2 _ (by omega)
  have s10 : (I 49 3).toNatClampNeg ≤ 10 := by
    have := kl_nat hk.2.1.1
    have := hk.2.1.2
    omega
  have gy : ∀ k, k < (kys 49 I).length → gyw (kys 49 I) ((KF 49 I).2.2.2.2.2.2 x.toNatClampNeg) (kys 49 I).length ((kys 49 I).getD k 0) = (KF 49 I).2.2.2.2.2.2 x.toNatClampNeg k := fun k hk' => gyw_at _ hk' (fun j a b => by
    have : (kys 49 I).getD k 0 < (kys 49 I).getD j 0 := kitL_mono s10 a b
    omega)
  have h1000 : (1000 : Int32).toInt = 1000 := by decide
  have h100 : (100 : Int32).toInt = 100 := by decide
  rw [← eG] at h ⊢
  refine pg49_74_X1_choiceOf_0 ⟨fun q => ?_, fun _ => ⟨fun _ => ⟨fun a => ⟨kl_in x0 (by omega), h _ (fun k hk' e => ?_)⟩, fun a => ⟨kl_in x0 (by omega), h _ (fun k hk' e => ?_)⟩⟩, fun q => absurd (Int32.lt_iff_toInt_lt.mpr (by rw [h1000]; omega)) q⟩⟩
  · have := Int32.lt_iff_toInt_lt.mp q
    rw [kl_0] at this
    omega
  · have yin : (kys 49 I).getD k 0 < (I 49 3).toNatClampNeg ∨ (100 ≤ (kys 49 I).getD k 0 ∧ (kys 49 I).getD k 0 < 100 + (I 49 5).toNatClampNeg) := kitL_in hk'
    have v := wv k hk'
    have g := gy k hk'
    have a' := kl_le.mp a
    rcases g49_74_c4 (hk.2.2.2.2.2.2 _ yin) with ⟨b1, b2⟩ | ⟨b1, b2, b3⟩
    · rw [e, Int32.toInt_ofNat_of_lt (by omega), h100] at a'
      omega
    · obtain ⟨t, ht⟩ : ∃ t, (kys 49 I).getD k 0 = 100 + t := ⟨(kys 49 I).getD k 0 - 100, by omega⟩
      rw [ht] at g
      rw [e, ht, ← g]
      exact wbk_dm bk (by omega) (by rw [g]; omega)
  · have yin : (kys 49 I).getD k 0 < (I 49 3).toNatClampNeg ∨ (100 ≤ (kys 49 I).getD k 0 ∧ (kys 49 I).getD k 0 < 100 + (I 49 5).toNatClampNeg) := kitL_in hk'
    have v := wv k hk'
    have g := gy k hk'
    rcases g49_74_c4 (hk.2.2.2.2.2.2 _ yin) with ⟨b1, b2⟩ | ⟨b1, b2, b3⟩
    · rw [e, ← g]
      exact wbk_ds bk b1 (by rw [g]; omega)
    · exact absurd (kl_le.mpr (by rw [e, Int32.toInt_ofNat_of_lt (by omega), h100]; omega)) a
section
variable {S : sm_C} {I : sm_I} {L : sm_L} {R : sm_R} {r : Int32}
/-- the reference's scan for an ITEM -/
theorem rx_chO {d : Nat} {Φ : sm_Z → Prop} {J : sm_I} {xs : List Nat} {x y : Int32} {w k a : Nat} (hL : lM J xs) (len : xs.length ≤ 70) (ub : ∀ j, j < xs.length → xs.getD j 0 < 200) (hk : k < xs.length) (k55 : k < 55) (ha : xs.getD k 0 = a) (un : ∀ j, j < xs.length → xs.getD j 0 = a → j = k) (hx : x.toInt = w) (w1 : w < 1000) (hy : y.toInt = a) (h : Φ (some (.int (J 153 (55 * w + k))), (xLay, J, L, kM R))) : sm_wp sm_P S d 113 0 [.ref 107, .int x, .int y] [] (xLay, J, L, kM R) (0, 0) Φ := by
  have c55 : (55 : Int32).toInt = 55 := by decide
  have m1 : ((55 : Int32) * x).toInt = 55 * (w : Int) := ml_mu c55 hx (by omega) (by omega)
  have lp : ∀ (n j : Nat) (x3 x4 : Int32), x4.toInt = j → j + n = xs.length → (k < j → x3 = J 153 (55 * w + k)) → sm_wp sm_P S d 113 1 [.ref 107, .int x, .int y, .int x3, .int x4] [] (xLay, J, L, kM R) (0, 0) Φ := by
    intro n
    induction n with
    | zero =>
      intro j x3 x4 h4 hj h3
      refine pj_X12_choiceOf_1 ⟨fun _ => ?_, fun c => ?_⟩
      · rw [h3 (by omega)]; exact h
      · have c := kl_nle c
        rw [hL.1] at c
        omega
    | succ n ih =>
      intro j x3 x4 h4 hj h3
      have n4 := tk_nat h4
      have s1 := ml_in1 (x := x4) (by omega)
      have u := ub j (by omega)
      refine pj_X12_choiceOf_1 ⟨fun c => ?_, fun _ => ⟨kl_in (by omega) (by omega), fun c => ?_, fun c => ?_⟩⟩
      · have c := kl_le.mp c
        rw [hL.1] at c
        omega
      · rw [n4, hL.2 j (by omega)] at c
        have cc := congrArg Int32.toInt c
        rw [Int32.toInt_ofNat_of_lt (by omega), hy] at cc
        have jk := un j (by omega) (by omega)
        have t : ((55 : Int32) * x + x4).toInt = ((55 * w + j : Nat) : Int) := (ml_ad m1 h4 (by omega) (by omega)).trans (by omega)
        refine ⟨kl_in (by omega) (by omega), fun n1 e1 => ih (j + 1) _ _ (by omega) (by omega) (fun _ => ?_)⟩
        rw [e1, tk_nat t, jk]
      · have jk : j ≠ k := fun q => c (by
          rw [n4, hL.2 j (by omega), q, ha]
          exact en_ofI (by rw [hy, Int32.toInt_ofNat_of_lt (by rw [q, ha] at u; omega)]))
        exact ih (j + 1) _ _ (by omega) (by omega) (fun q => h3 (by omega))
  exact pj_X12_choiceOf_0 (lp xs.length 0 _ _ (by decide) (by omega) (fun q => absurd q (Nat.not_lt_zero _)))
theorem rx_Jm {d : Nat} {Φ : sm_Z → Prop} {I0 : sm_I} {L0 : sm_L} {R0 : sm_R} (hJ : lw_J I0 L0 R0) (mk : en_mem kl_tb2 klY (xLay, I, L, R)) (o : ∀ p j, 107 ≤ p → I p j = I0 p j ∧ R p j = R0 p j) {qt qi l : Nat} (hrf : rfE qt qi l I0 R0) (h : ∀ J, gofr I J → gor (rxs I l) (KF qt I0) J → en_mem ml_tb mlX (xLay, J, L, R) → Φ (none, (xLay, J, L, kM R))) : sm_wp sm_P S (d + 8) 135 0 [.ref 107] [] (xLay, I, L, kM R) (0, 0) Φ := by
  have mm : en_mem ml_tb mlX (xLay, I, L, R) := lw_mk (lw_pk (ky_dn mk)) hJ.1.2.1 o
  have e : kM R = R := ml_R mm
  rw [e] at h ⊢
  refine sm_wp_mono (sm_wp_and (mlh_17 (Sc := S) (d + 8) (show 8 ≤ d + 8 by omega) [.ref 107] (xLay, I, L, R) ⟨⟨rfl, rfl⟩, trivial⟩ mm ml_pf0) (rx_J (X := XwaysK) (d := d + 2) (Φ := fun z => ∃ J, z = (none, (xLay, J, L, R)) ∧ gofr I J ∧ gor (rxs I l) (KF qt I0) J) hJ mk o hrf (fun J f k => ⟨J, rfl, f, k⟩))) (fun z q => ?_)
  obtain ⟨⟨-, q2, -⟩, J, ez, f, k⟩ := q
  subst ez
  exact h J f k q2
theorem rx_asks {d : Nat} {Φ : sm_Z → Prop} {I0 : sm_I} {L0 : sm_L} {R0 : sm_R} {x : Int32} (hJ : lw_J I0 L0 R0) (mk : en_mem kl_tb2 klY (xLay, I, L, R)) (o : ∀ p j, 107 ≤ p → I p j = I0 p j ∧ R p j = R0 p j) {qt qi l : Nat} (hrf : rfE qt qi l I0 R0) (hn : ∀ (v : Int32) (J : sm_I), gofr I J → v ≠ 0 → ¬ cGo x (KF qt I0) → (∀ r, xlv x (KF qt I0) r → r = v) → Φ (some (.int v), (xLay, J, L, kM R))) (hy : ∀ J, gofr I J → gor (rxs I l) (KF qt I0) J → en_mem ml_tb mlX (xLay, J, L, R) → cGo x (KF qt I0) → Φ (some (.int 0), (xLay, J, L, kM R))) : sm_wp sm_P S (d + 8 + 1) 97 0 [.ref 107, .int x] [] (xLay, I, L, kM R) (0, 0) Φ := by
  refine pj_X12_asks_0 ⟨fun c => rx_Jm hJ mk o hrf (fun J f k mj => ⟨J, L, rfl, fun t => ⟨fun u => ?_, fun u => ?_⟩, fun t => ?_⟩), fun c => ?_⟩
  · have c' := kl_le.mp c
    rw [kl_0] at c'
    have u' := kl_le.mp u
    rw [k.2.2.1] at u'
    have s : (KF qt I0).2.2.2.2.1 = false := by
      cases v : (KF qt I0).2.2.2.2.1 with
      | false => rfl
      | true => rw [k.1, if_pos v] at t; exact absurd t (by decide)
    exact hn _ J f (by decide) (fun g => by have := g.2.2; omega) (fun r xl => xl.2.2 c' s u')
  · have c' := kl_le.mp c
    rw [kl_0] at c'
    have u' := kl_nle u
    rw [k.2.2.1] at u'
    have s : (KF qt I0).2.2.2.2.1 = false := by
      cases v : (KF qt I0).2.2.2.2.1 with
      | false => rfl
      | true => rw [k.1, if_pos v] at t; exact absurd t (by decide)
    exact hy J f k mj ⟨c', s, u'⟩
  · have c' := kl_le.mp c
    rw [kl_0] at c'
    have s : (KF qt I0).2.2.2.2.1 = true := by
      cases v : (KF qt I0).2.2.2.2.1 with
      | true => rfl
      | false => rw [k.1, if_neg (by rw [v]; decide)] at t; exact absurd rfl t
    exact hn _ J f (by decide) (fun g => by rw [g.2.1] at s; exact absurd s (by decide)) (fun r xl => xl.2.1 c' s)
  · have c' := kl_nle c
    rw [kl_0] at c'
    exact hn _ I (fun _ _ _ => rfl) (by decide) (fun g => by have := g.1; omega) (fun r xl => xl.1 c')
/-- the reference's list again, and its scan there -/
theorem rx_ls {d : Nat} {Φ : sm_Z → Prop} {J : sm_I} {l : Nat} (fr : ∀ p j, (p = 107 ∧ (j = 18 ∨ j = 46 ∨ j = 54)) ∨ ((118 ≤ p ∧ p ≤ 142) ∧ p ≠ 138) ∨ (144 ≤ p ∧ p ≤ 147) → J p j = I p j) (hl : (I 107 18).toInt = l) (l1 : l ≤ 1) (b : 0 ≤ (I 125 l).toInt ∧ (I 125 l).toInt ≤ 10) (b46 : 0 ≤ (I 107 46).toInt ∧ (I 107 46).toInt ≤ 45) (b67 : 0 ≤ (J 107 67).toInt ∧ (J 107 67).toInt ≤ 10) (h : ∀ J2, chl J J2 → (∀ (d : Nat) (x y : Int32) (w k a : Nat) (Ψ : sm_Z → Prop), k < (rxs I l).length → (rxs I l).getD k 0 = a → x.toInt = w → w < 1000 → y.toInt = a → Ψ (some (.int (J2 153 (55 * w + k))), (xLay, J2, L, kM R)) → sm_wp sm_P S d 113 0 [.ref 107, .int x, .int y] [] (xLay, J2, L, kM R) (0, 0) Ψ) → Φ (none, (xLay, J2, L, kM R))) : sm_wp sm_P S d 208 0 [.ref 107] [] (xLay, J, L, kM R) (0, 0) (fun z => ∃ (r : Int32) (I7 : sm_I) (L8 : sm_L), z = (some (.int r), (xLay, I7, L8, (kM R))) ∧ sm_wp sm_P S d 160 0 [.ref 107, .int r] [] (xLay, I7, L8, (kM R)) (0, 0) Φ) := by
  have nb := kl_nat b.1
  have nm := kl_nat b46.1
  have ne := kl_nat b67.1
  have e137 : J 137 = I 137 := funext (fun j => fr 137 j (by omega))
  have hl' : (J 107 18).toInt = l := by rw [fr 107 18 (by omega)]; exact hl
  have hs : (J 125 l).toInt = (I 125 l).toNatClampNeg := by rw [fr 125 l (by omega)]; exact nb.symm
  refine rx_undoubted (s := (I 125 l).toNatClampNeg) hl' l1 hs (by omega) ⟨_, J, L, rfl, ?_⟩
  rw [e137]
  refine rx_lists (l := l) (s := (I 125 l).toNatClampNeg) (m := (I 107 46).toNatClampNeg) (e := (J 107 67).toNatClampNeg) hl' l1 hs (by omega) (by rw [fr 107 46 (by omega)]; exact nm.symm) (by omega) ne.symm (by omega) (fun J2 c2 m2 => h J2 c2 (fun d x y w k a Ψ hk ha hx w1 hy hh => ?_))
  obtain ⟨u1, u2, u3, u4, u5, u6⟩ := itL_un (set := rdb I (I 125 l).toNatClampNeg) (e := (J 107 67).toNatClampNeg) (show (I 125 l).toNatClampNeg ≤ 10 by omega) (show (I 107 46).toNatClampNeg ≤ 45 by omega) hk ha
  exact rx_chO m2 (by show (itL (rdb I (I 125 l).toNatClampNeg) _ _ _).length ≤ 70; omega) (fun j hj => by have := u6 j hj; show (itL (rdb I (I 125 l).toNatClampNeg) _ _ _).getD j 0 < 200; omega) u1 u4 u2 u3 hx w1 hy hh
end
end
section
/-! THE LAW: pairs out of what was gone through: choice (wip/pe/mkp5.py) -/
section
variable {S : sm_C} {I : sm_I} {L : sm_L} {R : sm_R} {r : Int32}
end
end
section
/-! THE LAW: pairs out of what was gone through: goes (wip/pe/mkp5.py) -/
section
variable {S : sm_C} {I : sm_I} {L : sm_L} {R : sm_R} {r : Int32}
def XgoesK (x y : Int32) (I : sm_I) (_ : sm_L) (R : sm_R) (r : Int32) (I1 : sm_I) (_ : sm_L) (R1 : sm_R) : Prop := ∃ qt, R 0 9 = some qt ∧ XF I R I1 R1 ∧ (¬ (0 ≤ y.toInt ∧ y.toInt < (I qt 5).toInt) → r = -1) ∧ (0 ≤ y.toInt → y.toInt < (I qt 5).toInt → xlv x (KF qt I) r ∧ (cGo x (KF qt I) → wyA qt I x ((100 : Int32) + y) r))
theorem bk_goes {x y : Int32} (hI : lw_J I L R) : sm_wp sm_P S (58 + 1) 51 0 [.ref 0, .int x, .int y] [] (xLay, I, L, R) (0, 0) (fun z => ∃ (r : Int32) (I2 : sm_I) (L2 : sm_L) (R2 : sm_R), z = (some (.int r), (xLay, I2, L2, R2)) ∧ XgoesK x y I L R r I2 L2 R2) := by
  have m := hI.1.1
  obtain ⟨qt, hq, g1, hk, -⟩ := hI.2.1
  have eP : kP qt R = R := kP_eq (w := (xLay, I, L, R)) m g1
  rcases hq with e | e <;> subst e
  · have eF : kF12_74 R = R := kF12_74_eq (w := (xLay, I, L, R)) m g1
    have xf : XF I R I (kF12_74 R) := ⟨by rw [eF], by rw [eF], fun _ _ _ => rfl⟩
    have g := ph12_X11_goes_0 (S := S) (d := 51 + 6 + 1) (I := I) (L := L) (R := R) (x1 := x) (x2 := y) (Φ := fun z => ∃ (r : Int32) (I2 : sm_I) (L2 : sm_L) (R2 : sm_R), z = (some (.int r), (xLay, I2, L2, R2)) ∧ XgoesK x y I L R r I2 L2 R2) ⟨fun c => ⟨_, I, L, _, rfl, 12, g1, xf, fun _ => rfl, fun a b => ?_⟩, fun c => ⟨fun c2 => lvq12 hI g1 (fun r J L' R' xf' eF' nc xl r0 => ⟨r, J, L', R', by rw [eF'], fun q => ?_, fun _ => ⟨r, J, L', _, rfl, 12, g1, by rw [eF']; exact xf', fun n => ?_, fun _ _ => ⟨xl, fun c => absurd c nc⟩⟩⟩) (fun r J L' R' xg eG eF' c12 mj cg er => ⟨r, J, L', R', by rw [eF'], fun _ => ?_, fun q => ?_⟩), fun c2 => ⟨_, I, L, _, rfl, 12, g1, xf, fun _ => rfl, fun a b => ?_⟩⟩⟩
    · rw [eF] at g
      exact g
    · have c := Int32.lt_iff_toInt_lt.mp c
      rw [kl_0] at c
      omega
    · exact absurd (kl_le.mp q) (by rw [kl_0]; omega)
    · exact absurd ⟨by
        rcases Int.lt_or_le y.toInt 0 with u | u
        · exact absurd (Int32.lt_iff_toInt_lt.mpr (by rw [kl_0]; exact u)) c
        · exact u, Int32.lt_iff_toInt_lt.mp c2⟩ n
    · rw [eF']
      exact chK12 hk xg eG cg (fun r hr => ⟨r, J, L', R', by rw [eF'], r, J, L', _, rfl, 12, g1, by rw [eF']; exact ⟨xg.1, xg.2.1, xg.2.2.1⟩, fun n => absurd ⟨by
        rcases Int.lt_or_le y.toInt 0 with u | u
        · exact absurd (Int32.lt_iff_toInt_lt.mpr (by rw [kl_0]; exact u)) c
        · exact u, Int32.lt_iff_toInt_lt.mp c2⟩ n, fun _ _ => ⟨xlv_go cg, fun _ => hr⟩⟩)
    · exact absurd (kl_le.mpr (by rw [kl_0, er]; omega)) q
    · exact absurd (Int32.lt_iff_toInt_lt.mpr b) c2
  · have eF : kF49_74 R = R := kF49_74_eq (w := (xLay, I, L, R)) m g1
    have xf : XF I R I (kF49_74 R) := ⟨by rw [eF], by rw [eF], fun _ _ _ => rfl⟩
    have g := ph49_X11_goes_0 (S := S) (d := 51 + 6 + 1) (I := I) (L := L) (R := R) (x1 := x) (x2 := y) (Φ := fun z => ∃ (r : Int32) (I2 : sm_I) (L2 : sm_L) (R2 : sm_R), z = (some (.int r), (xLay, I2, L2, R2)) ∧ XgoesK x y I L R r I2 L2 R2) ⟨fun c => ⟨_, I, L, _, rfl, 49, g1, xf, fun _ => rfl, fun a b => ?_⟩, fun c => ⟨fun c2 => lvq49 hI g1 (fun r J L' R' xf' eF' nc xl r0 => ⟨r, J, L', R', by rw [eF'], fun q => ?_, fun _ => ⟨r, J, L', _, rfl, 49, g1, by rw [eF']; exact xf', fun n => ?_, fun _ _ => ⟨xl, fun c => absurd c nc⟩⟩⟩) (fun r J L' R' xg eG eF' c12 mj cg er => ⟨r, J, L', R', by rw [eF'], fun _ => ?_, fun q => ?_⟩), fun c2 => ⟨_, I, L, _, rfl, 49, g1, xf, fun _ => rfl, fun a b => ?_⟩⟩⟩
    · rw [eF] at g
      exact g
    · have c := Int32.lt_iff_toInt_lt.mp c
      rw [kl_0] at c
      omega
    · exact absurd (kl_le.mp q) (by rw [kl_0]; omega)
    · exact absurd ⟨by
        rcases Int.lt_or_le y.toInt 0 with u | u
        · exact absurd (Int32.lt_iff_toInt_lt.mpr (by rw [kl_0]; exact u)) c
        · exact u, Int32.lt_iff_toInt_lt.mp c2⟩ n
    · rw [eF']
      exact chK49 hk xg eG cg (fun r hr => ⟨r, J, L', R', by rw [eF'], r, J, L', _, rfl, 49, g1, by rw [eF']; exact ⟨xg.1, xg.2.1, xg.2.2.1⟩, fun n => absurd ⟨by
        rcases Int.lt_or_le y.toInt 0 with u | u
        · exact absurd (Int32.lt_iff_toInt_lt.mpr (by rw [kl_0]; exact u)) c
        · exact u, Int32.lt_iff_toInt_lt.mp c2⟩ n, fun _ _ => ⟨xlv_go cg, fun _ => hr⟩⟩)
    · exact absurd (kl_le.mpr (by rw [kl_0, er]; omega)) q
    · exact absurd (Int32.lt_iff_toInt_lt.mpr b) c2
theorem bm_goes {x y : Int32} (hI : MJ (XgoesK x y) r I L R) : sm_wp sm_P S (58 + 1) 134 0 [.ref 107, .int x, .int y] [] (xLay, I, L, R) (0, 0) (fun z => ∃ (r' : Int32) (I2 : sm_I) (L2 : sm_L) (R2 : sm_R), z = (some (.int r'), (xLay, I2, L2, R2)) ∧ r = r' ∧ ((∀ p j, p < 107 → I2 p j = I p j ∧ R2 p j = R p j) → LJ I2 R2)) := by
  obtain ⟨I0, L0, R0, hJ, mk, o, q, e09, xf, X0, X1⟩ := hI
  have mm : en_mem ml_tb mlX (xLay, I, L, R) := lw_mk (lw_pk (ky_dn mk)) hJ.1.2.1 o
  have e : kM R = R := ml_R mm
  obtain ⟨-, n0, tp, hd, qt, qi, l, hrf, htd⟩ := hJ.1
  have eq : q = qt := Option.some.inj (e09.symm.trans hrf.2.2.1)
  subst eq
  have hq : q = 12 ∨ q = 49 := by have := hrf.1; omega
  obtain ⟨c0, c1, c2, c3, c4, -⟩ := q_cnt hq htd
  have c5 : I0 q 5 = I0 107 46 := htd.2.2.1
  have hl : (I 107 18).toInt = l := by rw [(o 107 18 (by omega)).1]; exact hrf.2.2.2.2
  have l1 := hrf.2.1
  have hb := (ml_cs l1 mm).2.2.2.1
  have b46 : 0 ≤ (I 107 46).toInt ∧ (I 107 46).toInt ≤ 45 := mm.2.1 107 46 (0, 45) (by decide +kernel)
  have e3 : (I0 q 3).toInt = (I 125 l).toInt := by rw [c3, (o 125 l (by omega)).1]
  have e5 : (I0 q 5).toInt = (I 107 46).toInt := by rw [c5, (o 107 46 (by omega)).1]
  have hb0 : 0 ≤ (I0 125 l).toInt ∧ (I0 125 l).toInt ≤ 10 := by rw [← (o 125 l (by omega)).1]; exact hb
  have b460 : 0 ≤ (I0 107 46).toInt ∧ (I0 107 46).toInt ≤ 45 := by rw [← (o 107 46 (by omega)).1]; exact b46
  obtain ⟨il, ia⟩ := it_at hJ.1 hrf
  have xi : rxs I l = rxs I0 l := rx_it o l
  have f1 : (KF q I0).2.2.2.1 ≤ 1000 := GT_wf.2.2.2.2.1.1
  have lj : ∀ {I2 : sm_I} {R2 : sm_R}, (∀ p j, lkM p j → I2 p j = I p j) → (∀ p j, p < 107 → I2 p j = I p j ∧ R2 p j = R p j) → LJ I2 R2 := fun g f => LJ_f hJ o xf g f
  have st : ∀ p j, lkM p j → I p j = I p j := fun _ _ _ => rfl
  have m1 : ((I 107 46) - (1 : Int32)).toInt = (I 107 46).toInt - 1 := by
    rw [Int32.toInt_sub, show (1 : Int32).toInt = 1 from by decide]; exact en_bmod (by omega) (by omega) (Or.inl rfl)
  have g := pj_X12_goes_0 (S := S) (d := 49 + 8 + 1) (I := I) (L := L) (R := R) (x1 := x) (x2 := y) (Φ := fun z => ∃ (r' : Int32) (I2 : sm_I) (L2 : sm_L) (R2 : sm_R), z = (some (.int r'), (xLay, I2, L2, R2)) ∧ r = r' ∧ ((∀ p j, p < 107 → I2 p j = I p j ∧ R2 p j = R p j) → LJ I2 R2)) (yp_in (fun n => ⟨_, I, L, rfl, fun _ => ⟨_, I, L, _, rfl, X0 (fun w => n ⟨by rw [kl_0]; exact w.1, by rw [m1]; omega⟩), lj st⟩, fun n => absurd rfl n⟩) (fun a b => ⟨_, I, L, rfl, fun n => absurd n (by decide), fun _ => rx_asks hJ mk o hrf (fun v J f v0 nc xl => ⟨v, J, L, rfl, fun q => absurd q v0, fun _ => ⟨_, J, L, _, rfl, xl _ (X1 (by rw [kl_0] at a; exact a) (by rw [m1] at b; omega)).1, lj (gofr_lk f)⟩⟩) (fun J f k mj c => ⟨_, J, L, rfl, fun _ I7 e7 => ?_, fun n => absurd rfl n⟩)⟩))
  · rw [e] at g
    exact g
  · rw [kl_0] at a
    rw [m1] at b
    have n := kl_nat a
    have nx := kl_nat c.1
    have cf := c.2.2
    have o7 : ∀ p j, ¬ (p = 107 ∧ j = 67) → I7 p j = J p j := fun p j q => by rw [e7, en_up_ne _ _ _ _ (by omega)]
    have f7 : gofr I I7 := fun p j q => (o7 p j (by omega)).trans (f p j q)
    obtain ⟨i, i1, i2⟩ := rxs_mv (I := I0) (l := l) (m := y.toNatClampNeg) b460 (by rw [← (o 107 46 (by omega)).1]; omega)
    have h10 : ((10 : Int32) + y).toInt = ((10 + y.toNatClampNeg : Nat) : Int) := (ml_ad (show (10 : Int32).toInt = 10 from by decide) n.symm (by omega) (by omega)).trans (by omega)
    have h100 : ((100 : Int32) + y).toInt = ((10 + y.toNatClampNeg + 90 : Nat) : Int) := (ml_ad (show (100 : Int32).toInt = 100 from by decide) n.symm (by omega) (by omega)).trans (by omega)
    have w := (X1 a (by omega)).2 c i (by omega) (by
      rw [ia i i1, i2]
      unfold cdm
      rw [if_neg (by omega)]
      exact en_ofI (by rw [Int32.toInt_ofNat_of_lt (by omega), h100]))
    refine rx_ls (I := I) (l := l) (fun p j q => f7 p j (by omega)) hl l1 hb b46 (by rw [e7, en_up_eq]; decide) (fun J2 c2 sc => ⟨J2, L, rfl, sc _ x _ x.toNatClampNeg i (10 + y.toNatClampNeg) _ (by rw [xi]; exact i1) (by rw [xi]; exact i2) nx.symm (by omega) h10 ⟨_, J2, L, rfl, _, J2, L, _, rfl, ?_, lj (fun p j q => (c2 p j (by unfold lkM at q; omega) (by unfold lkM at q; omega)).trans (gofr_lk f7 p j q))⟩⟩)
    rw [w, c2 153 _ (by omega) (by omega), o7 153 _ (by omega)]
    exact (k.2.2.2.2 x.toNatClampNeg i (by omega) (by rw [xi]; exact i1)).symm
end
end
section
/-! THE LAW: pairs out of what was gone through: forced (wip/pe/mkp5.py) -/
section
variable {S : sm_C} {I : sm_I} {L : sm_L} {R : sm_R} {r : Int32}
end
end
section
/-! THE LAW: at the start nothing is gone through -/
theorem lw_s1 {I : sm_I} {L : sm_L} {R : sm_R} (h : lw_I I L R) (z : sz (xLay, I, L, R)) : lw_J I L R := by
  have iz : ∀ {x : Int32}, x.toInt = 0 → x = 0 := fun e => en_ofI (by rw [e]; decide)
  have r : ∀ p n v, (p, n, v) ∈ sz_rows → ∀ j, j < n → (I p j).toInt = v := fun p n v h j hj => z.1 (p, n, v) h j hj
  have f : ∀ p j v, (p, j, v) ∈ sz_flds → (I p j).toInt = v := fun p j v h => z.2.1 (p, j, v) h
  refine ⟨h, GG_of h (fun qt qi l hrf => ⟨Or.inl (iz (f 0 12 0 (by decide))), Or.inl (iz (f 107 70 0 (by decide))), fun s c i h1 _ _ => ?_, fun k hk => ?_, fun q hq => ?_, fun k hk => ?_⟩)⟩
  · rw [r 125 2 0 (by decide) l (by have := hrf.2.1; omega)] at h1; omega
  · rw [r 134 2 0 (by decide) l (by have := hrf.2.1; omega)] at hk; omega
  · rw [r 136 2 0 (by decide) l (by have := hrf.2.1; omega)] at hq; omega
  · rw [f 107 54 0 (by decide)] at hk; omega
theorem klw_211 {Sc : sm_C} : ∀ (d : Nat), klc_211.2.2.2.2.2 ≤ d → ∀ (vs : List Value) (w : sm_W), en_pvs klc_211.2.1 vs → en_mem kl_tb klX w → sm_wp sm_P Sc d klc_211.1 0 vs [] w (0, 0) (fun z => z.2.2.2.1 = w.2.2.1) := by
  intro d hd vs w hv hm
  obtain ⟨lay, I, L, R⟩ := w
  obtain ⟨vs1, rfl, hv1⟩ := kl_vr (q := 0) rfl hv
  obtain ⟨x1, vs2, rfl, b1, hv2⟩ := kl_vi hv1
  obtain rfl := kl_v0 hv2
  obtain rfl : lay = xLay := hm.2.2.2.2.1
  show sm_wp sm_P Sc d 30 0 _ [] (xLay, I, L, R) (0, 0) _
  exact k0_back_0 ⟨fun _ => rfl, fun _ => ⟨fun _ _ _ => rfl, fun _ => rfl⟩⟩
theorem klk_211 {Sc : sm_C} : en_hold kl_tb2 klY sm_P Sc klc_211 := by
  intro d hd vs w hv hm hp
  have m := ky_dn hm
  have A := klh_211 (Sc := Sc) d hd vs w hv m hp
  have B := klw_211 (Sc := Sc) d hd vs w hv m
  refine sm_wp_mono (sm_wp_and A B) (fun z q => ?_)
  obtain ⟨⟨q1, q2, q3⟩, q4⟩ := q
  have nw : ∀ a b, ¬ (a = 0 ∧ b ≠ 9 ∧ b ≠ 12) → en_wok klc_211.2.2.2.2.1 a b = false := fun a b c => by
    by_cases e : a = 0
    · subst e
      rcases (by omega : b = 9 ∨ b = 12) with e | e <;> subst e <;> decide
    · cases u : en_wok klc_211.2.2.2.2.1 a b with
      | false => rfl
      | true =>
        obtain ⟨q, g1, g2⟩ := List.any_eq_true.mp u
        have g3 : q = (0, [10]) := List.mem_singleton.mp g1
        subst g3
        exact absurd (Nat.eq_of_beq_eq_true (Bool.and_eq_true_iff.mp g2).1).symm e
  exact ⟨q1, ky_up q2 (GK_cg (fun a b k => (q3.2 a b (nw a b (by omega))).1) (fun j => by rw [q4]) (q3.2 0 9 (nw 0 9 (by decide))).2 (q3.2 74 4 (nw 74 4 (by decide))).2 (ky_gk hm)), q3⟩
end
