/-! THE LAW: doubt, more, fewer on both sides, with what was gone through (made of base2/98y1) -/
theorem chI_70 {I : sm_I} : chI I 107 70 = 0 := by
  unfold chI
  rw [en_up_ne _ _ _ _ (by omega), en_up_eq]
theorem stI_12 {I : sm_I} : stI I 0 12 = 0 := by
  unfold stI
  rw [en_up_ne _ _ _ _ (by omega), en_up_ne _ _ _ _ (by omega), en_up_ne _ _ _ _ (by omega), en_up_ne _ _ _ _ (by omega), en_up_eq]
theorem ze_doubt {x y : Int32} {I0 I : sm_I} (eI : I = stI (dbK x y I0)) (o : ∀ p j, 107 ≤ p → I p j = I0 p j) : ZE I0 (chI (dbM x y I)) := by
  have dm : ∀ p j, p ≠ 137 → p ≠ 160 → dbM x y I p j = I p j := fun p j a b => by
    unfold dbM
    split
    · rw [en_up_ne _ _ _ _ (by omega)]
    · rw [en_up_ne _ _ _ _ (by omega), en_up_ne _ _ _ _ (by omega)]
  refine Or.inr ⟨by rw [chI_ne (by omega), dm _ _ (by omega) (by omega), eI]; exact stI_12, chI_70, by rw [chI_ne (by omega), dm _ _ (by omega) (by omega)]; exact o _ _ (by omega), fun l _ _ t => TW_cg (fun p j q => ?_) t⟩
  rw [chI_ne (by omega), dm p j (by omega) (by omega)]; exact o p j (by omega)
theorem ze_fewer {I0 I : sm_I} {v : Int32} (eI : I = stI (sm_up I0 37 1 v)) (o : ∀ p j, 107 ≤ p → I p j = I0 p j) (c : 0 < (I 107 54).toInt) : ZE I0 (chI (sm_up I 107 54 (I 107 54 - 1))) := by
  have s1 : (I 107 54 - 1).toInt = (I 107 54).toInt - 1 := by
    have u := Int32.toInt_lt (I 107 54); rw [Int32.toInt_sub, kl_1]; exact en_bmod (by omega) (by omega) (Or.inl rfl)
  have r : ∀ p j, ¬ (p = 107 ∧ (j = 54 ∨ j = 70 ∨ j = 79)) → 107 ≤ p → chI (sm_up I 107 54 (I 107 54 - 1)) p j = I0 p j := fun p j a b => by
    rw [chI_ne (by omega), en_up_ne _ _ _ _ (by omega)]; exact o p j b
  refine Or.inr ⟨by rw [chI_ne (by omega), en_up_ne _ _ _ _ (by omega), eI]; exact stI_12, chI_70, r _ _ (by omega) (by omega), fun l _ _ t => ?_⟩
  have e54 : chI (sm_up I 107 54 (I 107 54 - 1)) 107 54 = I 107 54 - 1 := by rw [chI_ne (by omega), en_up_eq]
  obtain ⟨t1, t2, t3, t4⟩ := TW_cg (J := fun p j => if p = 107 ∧ j = 54 then I0 p j else chI (sm_up I 107 54 (I 107 54 - 1)) p j) (fun p j q => by
    by_cases u : p = 107 ∧ j = 54
    · show (if p = 107 ∧ j = 54 then I0 p j else chI (sm_up I 107 54 (I 107 54 - 1)) p j) = _
      rw [if_pos u]
    · show (if p = 107 ∧ j = 54 then I0 p j else chI (sm_up I 107 54 (I 107 54 - 1)) p j) = _
      rw [if_neg u]; exact r p j (by omega) (by omega)) t
  refine ⟨t1, t2, t3, fun k hk => t4 k ?_⟩
  rw [e54, s1] at hk
  show (k : Int) < (I0 107 54).toInt
  rw [← o 107 54 (by omega)]
  omega
theorem ze_more {x y a b : Int32} {I0 I : sm_I} (eI : I = stI (mrK x y a b I0)) (o : ∀ p j, 107 ≤ p → I p j = I0 p j) {l : Nat} (hl : (I0 107 18).toInt = (l : Nat)) (b122 : 0 ≤ (I 122 l).toInt ∧ (I 122 l).toInt ≤ 10) (b54 : 0 ≤ (I 107 54).toInt) (ok : mrok (I 122 l).toInt (I 107 54).toInt x y a b) : ZE I0 (chI (mrM x y a b I)) := by
  obtain ⟨⟨o1, o2⟩, ⟨o3, o4⟩, o5⟩ := ok
  have nb := kl_nat b54
  have nt := kl_nat b122.1
  have r : ∀ p j, ¬ (p = 107 ∧ (j = 54 ∨ j = 70 ∨ j = 79)) → ¬ (144 ≤ p ∧ p ≤ 147) → chI (mrM x y a b I) p j = I p j := fun p j c d => by
    rw [chI_ne (by omega)]
    unfold mrM
    rw [en_up_ne _ _ _ _ (by omega), en_up_ne _ _ _ _ (by omega), en_up_ne _ _ _ _ (by omega), en_up_ne _ _ _ _ (by omega), en_up_ne _ _ _ _ (by omega)]
  refine Or.inr ⟨by rw [r _ _ (by omega) (by omega), eI]; exact stI_12, chI_70, (r _ _ (by omega) (by omega)).trans (o _ _ (by omega)), fun l' hl' _ t => ?_⟩
  have el : l' = l := by omega
  subst el
  have e54 : chI (mrM x y a b I) 107 54 = I 107 54 + 1 := by
    rw [chI_ne (by omega)]
    exact en_up_eq _ _ _ _
  have tI : TW l' I := TW_cg (fun p j q => o p j (by omega)) t
  obtain ⟨t1, t2, t3, -⟩ := TW_cg (J := fun p j => if (p = 107 ∧ j = 54) ∨ (144 ≤ p ∧ p ≤ 147) then I p j else chI (mrM x y a b I) p j) (fun p j q => by
    by_cases u : (p = 107 ∧ j = 54) ∨ (144 ≤ p ∧ p ≤ 147)
    · show (if (p = 107 ∧ j = 54) ∨ (144 ≤ p ∧ p ≤ 147) then I p j else chI (mrM x y a b I) p j) = _
      rw [if_pos u]
    · show (if (p = 107 ∧ j = 54) ∨ (144 ≤ p ∧ p ≤ 147) then I p j else chI (mrM x y a b I) p j) = _
      rw [if_neg u]; exact r p j (by omega) (by omega)) tI
  refine ⟨t1, t2, t3, fun k hk => ?_⟩
  rw [e54, ml_in1 (by omega)] at hk
  have e122 : chI (mrM x y a b I) 122 l' = I 122 l' := r _ _ (by omega) (by omega)
  have rw4 : ∀ p v, (p = 144 ∧ v = x) ∨ (p = 145 ∧ v = y) ∨ (p = 146 ∧ v = a) ∨ (p = 147 ∧ v = b) → chI (mrM x y a b I) p k = if k = (I 107 54).toNatClampNeg then v else I p k := fun p v hp => by
    rw [chI_ne (by omega)]
    unfold mrM
    by_cases ci : k = (I 107 54).toNatClampNeg
    · rw [if_pos ci, ← ci]
      rcases hp with ⟨e1, e2⟩ | ⟨e1, e2⟩ | ⟨e1, e2⟩ | ⟨e1, e2⟩ <;> subst e1 <;> subst e2 <;> simp [sm_up]
    · rw [if_neg ci, en_up_ne _ _ _ _ (by omega), en_up_ne _ _ _ _ (by omega), en_up_ne _ _ _ _ (by omega), en_up_ne _ _ _ _ (by omega), en_up_ne _ _ _ _ (by omega)]
  unfold mook
  rw [e122, rw4 144 x (Or.inl ⟨rfl, rfl⟩), rw4 145 y (Or.inr (Or.inl ⟨rfl, rfl⟩)), rw4 146 a (Or.inr (Or.inr (Or.inl ⟨rfl, rfl⟩))), rw4 147 b (Or.inr (Or.inr (Or.inr ⟨rfl, rfl⟩)))]
  by_cases ci : k = (I 107 54).toNatClampNeg
  · simp only [if_pos ci]
    refine ⟨⟨o1.1, by omega⟩, ?_, o3, o4⟩
    rcases o2 with e | e
    · rw [e, show (-1 : Int32).toInt = -1 from by decide]; omega
    · omega
  · simp only [if_neg ci]
    exact tI.2.2.2 k (by omega)
section
variable {S : sm_C} {I : sm_I} {L : sm_L} {R : sm_R} {r : Int32}
theorem bs_doubt {x y : Int32} (hy : y = 0 ∨ y = 1) (I0 : sm_I) (L0 : sm_L) (R0 : sm_R) (hI0 : lw_I I0 L0 R0) (mk : en_mem kl_tb klX (xLay, I, L, R)) (o : ∀ p j, 107 ≤ p → I p j = I0 p j ∧ R p j = R0 p j) (X : XdoubtK x y I0 L0 R0 r I L R) : sm_wp sm_P S (57 + 2) 120 0 [.ref 107, .int x, .int y] [] (xLay, I, L, R) (0, 0) (fun z => ∃ (r' : Int32) (I2 : sm_I) (L2 : sm_L) (R2 : sm_R), z = (some (.int r'), (xLay, I2, L2, R2)) ∧ r = r' ∧ (R 0 9 = R0 0 9 ∧ R 74 4 = R0 74 4) ∧ ZE I0 I2 ∧ ((∀ p j, p < 107 → I2 p j = I p j ∧ R2 p j = R p j) → LJ I2 R2)) := by
  have mm := lw_mk (lw_pk mk) hI0.2.1 o
  obtain ⟨eR, X⟩ := X
  have o1 : ∀ p j, 107 ≤ p → I p j = I0 p j := fun p j q => (o p j q).1
  have eR2 : R 0 9 = R0 0 9 ∧ R 74 4 = R0 74 4 := by rw [eR]; exact ⟨rfl, rfl⟩
  obtain ⟨m0, n0, k⟩ := hI0
  obtain ⟨tp, hd, qt, qi, l, hrf, htd⟩ := k
  have X := X qt hrf.2.2.1
  have hq : qt = 12 ∨ qt = 49 := by have := hrf.1; omega
  obtain ⟨-, -, -, c3, -, c6⟩ := q_cnt hq htd
  have l1 := hrf.2.1
  have b := (q_b l1 mm).2
  have e125 : I 125 l = I0 125 l := (o 125 l (by omega)).1
  have hl : (I 107 18).toInt = l := by rw [(o 107 18 (by omega)).1]; exact hrf.2.2.2.2
  have ok : dbok I0 qt x ↔ (0 ≤ x.toInt ∧ x.toInt < (I 125 l).toInt ∧ I 126 (10 * l + x.toNatClampNeg) = 0) := by
    unfold dbok
    rw [c3, c6, e125, (o 126 _ (by omega)).1]
    rw [e125] at b
    constructor
    · rintro ⟨a1, a2, a3⟩
      have nx := kl_nat a1
      have nn := kl_nat (i := I0 125 l) (by omega)
      exact ⟨a1, a2, (sb_say (f := fun i => I0 126 (10 * l + i)) (n := (I0 125 l).toNatClampNeg) (k := x.toNatClampNeg) (y := x) (by omega) (by omega) (by omega)).mp a3⟩
    · rintro ⟨a1, a2, a3⟩
      have nx := kl_nat a1
      have nn := kl_nat (i := I0 125 l) (by omega)
      exact ⟨a1, a2, (sb_say (f := fun i => I0 126 (10 * l + i)) (n := (I0 125 l).toNatClampNeg) (k := x.toNatClampNeg) (y := x) (by omega) (by omega) (by omega)).mpr a3⟩
  have e : kM R = R := ml_R mm
  have g := yp_doubt (S := S) (d := 57) (L := L) (R := R) (x := x) (y := y) (Φ := fun z => ∃ (r' : Int32) (I2 : sm_I) (L2 : sm_L) (R2 : sm_R), z = (some (.int r'), (xLay, I2, L2, R2)) ∧ r = r' ∧ (R 0 9 = R0 0 9 ∧ R 74 4 = R0 74 4) ∧ ZE I0 I2 ∧ ((∀ p j, p < 107 → I2 p j = I p j ∧ R2 p j = R p j) → LJ I2 R2)) hl l1 b (fun c => ?_) (fun a1 a2 a3 => ?_)
  · rw [e] at g
    exact g
  · rcases X with ⟨x1, -, -⟩ | ⟨-, er, eI⟩
    · exact absurd (ok.mp x1) c
    · subst eI
      exact ⟨_, I, L, _, rfl, er, eR2, Or.inl (fun _ _ => rfl), fun _ => by rw [e, eR]; exact ⟨tp, hd, qt, qi, l, hrf, htd⟩⟩
  · rcases X with ⟨x1, er, eI⟩ | ⟨x1, -, -⟩
    rotate_left
    · exact absurd (ok.mpr ⟨a1, a2, a3⟩) x1
    refine ⟨_, _, L, _, rfl, er, eR2, ze_doubt eI o1, fun _ => ?_⟩
    rw [e, eR]
    have nx := kl_nat a1
    have dk : ∀ p j, ¬ (p = 37 ∧ j = 0) → p ≠ 39 → dbK x y I0 p j = I0 p j := fun p j a b => by
      unfold dbK
      split
      · rw [en_up_ne _ _ _ _ a]
      · rw [en_up_ne _ _ _ _ (by omega), en_up_ne _ _ _ _ a]
    have dm : ∀ p j, p ≠ 137 → p ≠ 160 → dbM x y I p j = I p j := fun p j a b => by
      unfold dbM
      split
      · rw [en_up_ne _ _ _ _ (by omega)]
      · rw [en_up_ne _ _ _ _ (by omega), en_up_ne _ _ _ _ (by omega)]
    have g : ∀ p j, ¬ (p = 37 ∧ j = 0) → p ≠ 39 → p ≠ 137 → p ≠ 160 → ¬ (p = 107 ∧ (j = 70 ∨ j = 79)) → ¬ ((p = 0 ∧ (j = 12 ∨ j = 13)) ∨ (p = 98 ∧ (j = 8 ∨ j = 9)) ∨ (p = 103 ∧ j = 5)) → chI (dbM x y I) p j = I0 p j := fun p j a b c d f f2 => by
      rw [chI_ne f, dm p j c d, eI, stI_ne f2, dk p j a b]
    obtain ⟨h1, h2, h3, h4, h5⟩ := hd
    refine ⟨tpE_cg (I := I0) (fun p j q => g p j (by omega) (by omega) (by omega) (by omega) (by omega) (by omega)) tp, ⟨fun k hk => ?_, fun k hk => ?_, ?_, fun i hi hj => ?_, fun k hk => ?_⟩, qt, qi, l, ⟨hrf.1, hrf.2.1, hrf.2.2.1, hrf.2.2.2.1, ?_⟩, tdE_cg (I := I0) hq (fun p j q => g p j (by omega) (by omega) (by omega) (by omega) (by omega) (by omega)) htd⟩
    · have w1 : chI (dbM x y I) 37 0 = dbK x y I0 37 0 := by rw [chI_ne (by omega), dm _ _ (by omega) (by omega), eI, stI_ne (by omega)]
      have w2 : chI (dbM x y I) 137 k = dbM x y I 137 k := by rw [chI_ne (by omega)]
      have b1 : (I0 125 l).toInt ≤ 10 := by rw [← e125]; exact b.2
      have a2' : x.toInt < 10 := by omega
      have hx : x.toInt = (x.toNatClampNeg : Int) := nx.symm
      have i137 : I 137 k = I0 137 k := (o 137 k (by omega)).1
      rw [w1, w2]
      rcases hy with hy | hy
      · subst hy
        unfold dbK dbM
        rw [if_pos rfl, if_pos rfl, en_up_eq, q_an hx (by omega) (by omega), h1 k hk]
        by_cases c : k = x.toNatClampNeg
        · rw [← c, en_up_eq]; simp; decide
        · rw [en_up_ne _ _ _ _ (by omega), i137]; simp [c]
      · subst hy
        unfold dbK dbM
        rw [if_neg (by decide), if_neg (by decide), en_up_ne _ _ _ _ (by omega), en_up_eq, q_or hx (by omega) (by omega), h1 k hk, en_up_ne _ _ _ _ (by omega)]
        by_cases c : k = x.toNatClampNeg
        · rw [← c, en_up_eq]; simp; decide
        · rw [en_up_ne _ _ _ _ (by omega), i137]; simp [c]
    · rw [g 38 k (by omega) (by omega) (by omega) (by omega) (by omega) (by omega), g 138 k (by omega) (by omega) (by omega) (by omega) (by omega) (by omega)]; exact h2 k hk
    · rw [g 37 1 (by omega) (by omega) (by omega) (by omega) (by omega) (by omega), g 107 54 (by omega) (by omega) (by omega) (by omega) (by omega) (by omega)]; exact h3
    · rw [g 37 1 (by omega) (by omega) (by omega) (by omega) (by omega) (by omega)] at hj
      rw [g 41 i (by omega) (by omega) (by omega) (by omega) (by omega) (by omega), g 42 i (by omega) (by omega) (by omega) (by omega) (by omega) (by omega), g 43 i (by omega) (by omega) (by omega) (by omega) (by omega) (by omega), g 44 i (by omega) (by omega) (by omega) (by omega) (by omega) (by omega), g 144 i (by omega) (by omega) (by omega) (by omega) (by omega) (by omega), g 145 i (by omega) (by omega) (by omega) (by omega) (by omega) (by omega), g 146 i (by omega) (by omega) (by omega) (by omega) (by omega) (by omega), g 147 i (by omega) (by omega) (by omega) (by omega) (by omega) (by omega)]
      exact h4 i hi hj
    · have w1 : chI (dbM x y I) 39 k = dbK x y I0 39 k := by rw [chI_ne (by omega), dm _ _ (by omega) (by omega), eI, stI_ne (by omega)]
      have w2 : chI (dbM x y I) 160 k = dbM x y I 160 k := by rw [chI_ne (by omega)]
      have i160 : I 160 k = I0 160 k := (o 160 k (by omega)).1
      rw [w1, w2]
      unfold dbK dbM
      by_cases c0 : y = 0
      · rw [if_pos c0, if_pos c0, en_up_ne _ _ _ _ (by omega), en_up_ne _ _ _ _ (by omega), i160]; exact h5 k hk
      · rw [if_neg c0, if_neg c0]
        by_cases c : k = x.toNatClampNeg
        · rw [← c, en_up_eq, en_up_eq]
        · rw [en_up_ne _ _ _ _ (by omega), en_up_ne _ _ _ _ (by omega), en_up_ne _ _ _ _ (by omega), en_up_ne _ _ _ _ (by omega), i160]; exact h5 k hk
    · rw [g 107 18 (by omega) (by omega) (by omega) (by omega) (by omega) (by omega)]; exact hrf.2.2.2.2
theorem bs_more {x y a b : Int32} (I0 : sm_I) (L0 : sm_L) (R0 : sm_R) (hI0 : lw_I I0 L0 R0) (mk : en_mem kl_tb klX (xLay, I, L, R)) (o : ∀ p j, 107 ≤ p → I p j = I0 p j ∧ R p j = R0 p j) (X : XmoreK x y a b I0 L0 R0 r I L R) : sm_wp sm_P S (57 + 2) 163 0 [.ref 107, .int x, .int y, .int a, .int b] [] (xLay, I, L, R) (0, 0) (fun z => ∃ (r' : Int32) (I2 : sm_I) (L2 : sm_L) (R2 : sm_R), z = (some (.int r'), (xLay, I2, L2, R2)) ∧ r = r' ∧ (R 0 9 = R0 0 9 ∧ R 74 4 = R0 74 4) ∧ ZE I0 I2 ∧ ((∀ p j, p < 107 → I2 p j = I p j ∧ R2 p j = R p j) → LJ I2 R2)) := by
  have mm := lw_mk (lw_pk mk) hI0.2.1 o
  obtain ⟨eR, X⟩ := X
  have o1 : ∀ p j, 107 ≤ p → I p j = I0 p j := fun p j q => (o p j q).1
  have eR2 : R 0 9 = R0 0 9 ∧ R 74 4 = R0 74 4 := by rw [eR]; exact ⟨rfl, rfl⟩
  obtain ⟨m0, n0, k⟩ := hI0
  obtain ⟨tp, hd, qt, qi, l, hrf, htd⟩ := k
  have X := X qt hrf.2.2.1
  have hq : qt = 12 ∨ qt = 49 := by have := hrf.1; omega
  obtain ⟨-, -, c2, -, -, -⟩ := q_cnt hq htd
  have l1 := hrf.2.1
  have bb := (q_b l1 mm).1
  have e122 : I 122 l = I0 122 l := (o 122 l (by omega)).1
  have hl : (I 107 18).toInt = l := by rw [(o 107 18 (by omega)).1]; exact hrf.2.2.2.2
  obtain ⟨h1, h2, h3, h4, h5⟩ := hd
  have e54 : I 107 54 = I0 107 54 := (o 107 54 (by omega)).1
  have mn : I0 37 1 = I 107 54 := by rw [e54]; exact h3
  have kb := q_k m0
  have nb := kl_nat kb.1
  rw [c2, ← e122, mn] at X
  have e : kM R = R := ml_R mm
  have g := yp_more (S := S) (d := 57) (L := L) (R := R) (x := x) (y := y) (a := a) (b := b) (Φ := fun z => ∃ (r' : Int32) (I2 : sm_I) (L2 : sm_L) (R2 : sm_R), z = (some (.int r'), (xLay, I2, L2, R2)) ∧ r = r' ∧ (R 0 9 = R0 0 9 ∧ R 74 4 = R0 74 4) ∧ ZE I0 I2 ∧ ((∀ p j, p < 107 → I2 p j = I p j ∧ R2 p j = R p j) → LJ I2 R2)) hl l1 bb (q_m mm) (fun c => ?_) (fun a1 => ?_)
  · rw [e] at g
    exact g
  · rcases X with ⟨x1, -, -⟩ | ⟨-, er, eI⟩
    · exact absurd x1 c
    · subst eI
      exact ⟨_, I, L, _, rfl, er, eR2, Or.inl (fun _ _ => rfl), fun _ => by rw [e, eR]; exact ⟨tp, ⟨h1, h2, h3, h4, h5⟩, qt, qi, l, hrf, htd⟩⟩
  · rcases X with ⟨x1, er, eI⟩ | ⟨x1, -, -⟩
    rotate_left
    · exact absurd a1 x1
    refine ⟨_, _, L, _, rfl, er, eR2, ze_more eI o1 (by rw [← o1 107 18 (by omega)]; exact hl) bb (q_m mm).1 a1, fun _ => ?_⟩
    rw [e, eR]
    have m6 : (I 107 54).toInt < 6 := a1.2.2
    have nI : (I 107 54).toNatClampNeg = (I0 37 1).toNatClampNeg := by rw [mn]
    have dk : ∀ p j, ¬ (p = 37 ∧ j = 1) → ¬ (41 ≤ p ∧ p ≤ 44) → mrK x y a b I0 p j = I0 p j := fun p j c d => by
      unfold mrK
      rw [en_up_ne _ _ _ _ c, en_up_ne _ _ _ _ (by omega), en_up_ne _ _ _ _ (by omega), en_up_ne _ _ _ _ (by omega), en_up_ne _ _ _ _ (by omega)]
    have dm : ∀ p j, ¬ (p = 107 ∧ j = 54) → ¬ (144 ≤ p ∧ p ≤ 147) → mrM x y a b I p j = I p j := fun p j c d => by
      unfold mrM
      rw [en_up_ne _ _ _ _ c, en_up_ne _ _ _ _ (by omega), en_up_ne _ _ _ _ (by omega), en_up_ne _ _ _ _ (by omega), en_up_ne _ _ _ _ (by omega)]
    have st : ∀ p j, ¬ (p = 107 ∧ (j = 70 ∨ j = 79)) → ¬ ((p = 0 ∧ (j = 12 ∨ j = 13)) ∨ (p = 98 ∧ (j = 8 ∨ j = 9)) ∨ (p = 103 ∧ j = 5)) → chI (mrM x y a b I) p j = mrM x y a b I p j ∧ I p j = mrK x y a b I0 p j := fun p j c d => ⟨chI_ne c, by rw [eI, stI_ne d]⟩
    have g : ∀ p j, ¬ (p = 107 ∧ (j = 54 ∨ j = 70 ∨ j = 79)) → ¬ ((p = 0 ∧ (j = 12 ∨ j = 13)) ∨ (p = 98 ∧ (j = 8 ∨ j = 9)) ∨ (p = 103 ∧ j = 5)) → ¬ (p = 37 ∧ j = 1) → ¬ (41 ≤ p ∧ p ≤ 44) → ¬ (144 ≤ p ∧ p ≤ 147) → chI (mrM x y a b I) p j = I0 p j := fun p j c d c1 c2 c3 => by
      rw [(st p j (by omega) d).1, dm p j (by omega) c3, (st p j (by omega) d).2, dk p j c1 c2]
    have w1 : chI (mrM x y a b I) 37 1 = I0 37 1 + 1 := by
      rw [(st 37 1 (by omega) (by omega)).1, dm 37 1 (by omega) (by omega), (st 37 1 (by omega) (by omega)).2]
      exact en_up_eq _ _ _ _
    have w2 : chI (mrM x y a b I) 107 54 = I 107 54 + 1 := by
      rw [(st 107 54 (by omega) (by omega)).1]
      exact en_up_eq _ _ _ _
    refine ⟨tpE_cg (I := I0) (fun p j q => g p j (by omega) (by omega) (by omega) (by omega) (by omega)) tp, ⟨fun k hk => ?_, fun k hk => ?_, ?_, fun i hi hj => ?_, fun k hk => ?_⟩, qt, qi, l, ⟨hrf.1, hrf.2.1, hrf.2.2.1, hrf.2.2.2.1, ?_⟩, tdE_cg (I := I0) hq (fun p j q => g p j (by omega) (by omega) (by omega) (by omega) (by omega)) htd⟩
    · rw [g 37 0 (by omega) (by omega) (by omega) (by omega) (by omega), g 137 k (by omega) (by omega) (by omega) (by omega) (by omega)]; exact h1 k hk
    · rw [g 38 k (by omega) (by omega) (by omega) (by omega) (by omega), g 138 k (by omega) (by omega) (by omega) (by omega) (by omega)]; exact h2 k hk
    · rw [w1, w2, mn]
    · rw [w1, ml_in1 (x := I0 37 1) (by omega)] at hj
      have k1 : ∀ p v, (p = 41 ∧ v = x) ∨ (p = 42 ∧ v = y) ∨ (p = 43 ∧ v = a) ∨ (p = 44 ∧ v = b) → chI (mrM x y a b I) p i = if i = (I0 37 1).toNatClampNeg then v else I0 p i := fun p v hp => by
        rw [(st p i (by omega) (by omega)).1, dm p i (by omega) (by omega), (st p i (by omega) (by omega)).2]
        unfold mrK
        by_cases ci : i = (I0 37 1).toNatClampNeg
        · rw [if_pos ci, ← ci]
          rcases hp with ⟨e1, e2⟩ | ⟨e1, e2⟩ | ⟨e1, e2⟩ | ⟨e1, e2⟩ <;> subst e1 <;> subst e2 <;> simp [sm_up]
        · rw [if_neg ci, en_up_ne _ _ _ _ (by omega), en_up_ne _ _ _ _ (by omega), en_up_ne _ _ _ _ (by omega), en_up_ne _ _ _ _ (by omega), en_up_ne _ _ _ _ (by omega)]
      have k2 : ∀ p v, (p = 144 ∧ v = x) ∨ (p = 145 ∧ v = y) ∨ (p = 146 ∧ v = a) ∨ (p = 147 ∧ v = b) → chI (mrM x y a b I) p i = if i = (I0 37 1).toNatClampNeg then v else I0 p i := fun p v hp => by
        rw [(st p i (by omega) (by omega)).1]
        have oi : I p i = I0 p i := (o p i (by omega)).1
        unfold mrM
        rw [nI]
        by_cases ci : i = (I0 37 1).toNatClampNeg
        · rw [if_pos ci, ← ci]
          rcases hp with ⟨e1, e2⟩ | ⟨e1, e2⟩ | ⟨e1, e2⟩ | ⟨e1, e2⟩ <;> subst e1 <;> subst e2 <;> simp [sm_up]
        · rw [if_neg ci, en_up_ne _ _ _ _ (by omega), en_up_ne _ _ _ _ (by omega), en_up_ne _ _ _ _ (by omega), en_up_ne _ _ _ _ (by omega), en_up_ne _ _ _ _ (by omega), oi]
      rw [k1 41 x (Or.inl ⟨rfl, rfl⟩), k1 42 y (Or.inr (Or.inl ⟨rfl, rfl⟩)), k1 43 a (Or.inr (Or.inr (Or.inl ⟨rfl, rfl⟩))), k1 44 b (Or.inr (Or.inr (Or.inr ⟨rfl, rfl⟩))), k2 144 x (Or.inl ⟨rfl, rfl⟩), k2 145 y (Or.inr (Or.inl ⟨rfl, rfl⟩)), k2 146 a (Or.inr (Or.inr (Or.inl ⟨rfl, rfl⟩))), k2 147 b (Or.inr (Or.inr (Or.inr ⟨rfl, rfl⟩)))]
      by_cases ci : i = (I0 37 1).toNatClampNeg
      · simp only [if_pos ci, and_self]
      · simp only [if_neg ci]
        exact h4 i hi (by omega)
    · rw [g 39 k (by omega) (by omega) (by omega) (by omega) (by omega), g 160 k (by omega) (by omega) (by omega) (by omega) (by omega)]; exact h5 k hk
    · rw [g 107 18 (by omega) (by omega) (by omega) (by omega) (by omega)]; exact hrf.2.2.2.2
theorem bs_fewer (I0 : sm_I) (L0 : sm_L) (R0 : sm_R) (hI0 : lw_I I0 L0 R0) (mk : en_mem kl_tb klX (xLay, I, L, R)) (o : ∀ p j, 107 ≤ p → I p j = I0 p j ∧ R p j = R0 p j) (X : XfewerK I0 L0 R0 r I L R) : sm_wp sm_P S (58 + 1) 125 0 [.ref 107] [] (xLay, I, L, R) (0, 0) (fun z => ∃ (r' : Int32) (I2 : sm_I) (L2 : sm_L) (R2 : sm_R), z = (some (.int r'), (xLay, I2, L2, R2)) ∧ r = r' ∧ (R 0 9 = R0 0 9 ∧ R 74 4 = R0 74 4) ∧ ZE I0 I2 ∧ ((∀ p j, p < 107 → I2 p j = I p j ∧ R2 p j = R p j) → LJ I2 R2)) := by
  have mm := lw_mk (lw_pk mk) hI0.2.1 o
  obtain ⟨eR, X⟩ := X
  have o1 : ∀ p j, 107 ≤ p → I p j = I0 p j := fun p j q => (o p j q).1
  have eR2 : R 0 9 = R0 0 9 ∧ R 74 4 = R0 74 4 := by rw [eR]; exact ⟨rfl, rfl⟩
  obtain ⟨m0, n0, k⟩ := hI0
  obtain ⟨tp, hd, qt, qi, l, hrf, htd⟩ := k
  have hq : qt = 12 ∨ qt = 49 := by have := hrf.1; omega
  obtain ⟨h1, h2, h3, h4, h5⟩ := hd
  have e54 : I 107 54 = I0 107 54 := (o 107 54 (by omega)).1
  have mn : I0 37 1 = I 107 54 := by rw [e54]; exact h3
  have kb := q_k m0
  have e : kM R = R := ml_R mm
  have g := yp_fewer (S := S) (d := 58) (L := L) (R := R) (Φ := fun z => ∃ (r' : Int32) (I2 : sm_I) (L2 : sm_L) (R2 : sm_R), z = (some (.int r'), (xLay, I2, L2, R2)) ∧ r = r' ∧ (R 0 9 = R0 0 9 ∧ R 74 4 = R0 74 4) ∧ ZE I0 I2 ∧ ((∀ p j, p < 107 → I2 p j = I p j ∧ R2 p j = R p j) → LJ I2 R2)) (q_m mm).1 (fun c => ?_) (fun c => ?_)
  · rw [e] at g
    exact g
  · rcases X with ⟨x1, -, -⟩ | ⟨-, er, eI⟩
    · rw [mn] at x1
      omega
    · subst eI
      exact ⟨_, I, L, _, rfl, er, eR2, Or.inl (fun _ _ => rfl), fun _ => by rw [e, eR]; exact ⟨tp, ⟨h1, h2, h3, h4, h5⟩, qt, qi, l, hrf, htd⟩⟩
  · rcases X with ⟨x1, er, eI⟩ | ⟨x1, -, -⟩
    rotate_left
    · rw [mn] at x1
      omega
    refine ⟨_, _, L, _, rfl, by rw [er, mn], eR2, ze_fewer eI o1 c, fun _ => ?_⟩
    rw [e, eR]
    have g : ∀ p j, ¬ (p = 107 ∧ (j = 54 ∨ j = 70 ∨ j = 79)) → ¬ ((p = 0 ∧ (j = 12 ∨ j = 13)) ∨ (p = 98 ∧ (j = 8 ∨ j = 9)) ∨ (p = 103 ∧ j = 5)) → ¬ (p = 37 ∧ j = 1) → chI (sm_up I 107 54 (I 107 54 - 1)) p j = I0 p j := fun p j c d c1 => by
      rw [chI_ne (by omega), en_up_ne _ _ _ _ (by omega), eI, stI_ne d, en_up_ne _ _ _ _ c1]
    have w1 : chI (sm_up I 107 54 (I 107 54 - 1)) 37 1 = I0 37 1 - 1 := by
      rw [chI_ne (by omega), en_up_ne _ _ _ _ (by omega), eI, stI_ne (by omega), en_up_eq]
    have w2 : chI (sm_up I 107 54 (I 107 54 - 1)) 107 54 = I 107 54 - 1 := by
      rw [chI_ne (by omega), en_up_eq]
    have s1 : (I0 37 1 - 1).toInt = (I0 37 1).toInt - 1 := by
      rw [Int32.toInt_sub, kl_1]; exact en_bmod (by omega) (by omega) (Or.inl rfl)
    refine ⟨tpE_cg (I := I0) (fun p j q => g p j (by omega) (by omega) (by omega)) tp, ⟨fun k hk => ?_, fun k hk => ?_, ?_, fun i hi hj => ?_, fun k hk => ?_⟩, qt, qi, l, ⟨hrf.1, hrf.2.1, hrf.2.2.1, hrf.2.2.2.1, ?_⟩, tdE_cg (I := I0) hq (fun p j q => g p j (by omega) (by omega) (by omega)) htd⟩
    · rw [g 37 0 (by omega) (by omega) (by omega), g 137 k (by omega) (by omega) (by omega)]; exact h1 k hk
    · rw [g 38 k (by omega) (by omega) (by omega), g 138 k (by omega) (by omega) (by omega)]; exact h2 k hk
    · rw [w1, w2, mn]
    · rw [w1, s1] at hj
      rw [g 41 i (by omega) (by omega) (by omega), g 42 i (by omega) (by omega) (by omega), g 43 i (by omega) (by omega) (by omega), g 44 i (by omega) (by omega) (by omega), g 144 i (by omega) (by omega) (by omega), g 145 i (by omega) (by omega) (by omega), g 146 i (by omega) (by omega) (by omega), g 147 i (by omega) (by omega) (by omega)]
      exact h4 i hi (by omega)
    · rw [g 39 k (by omega) (by omega) (by omega), g 160 k (by omega) (by omega) (by omega)]; exact h5 k hk
    · rw [g 107 18 (by omega) (by omega) (by omega)]; exact hrf.2.2.2.2
end
