/-! the reference's meets, exact -/
section
variable {S : sm_C} {d : Nat} {Φ : sm_Z → Prop} {L : sm_L} {R : sm_R}
/-- the rows of MOVES hold this list -/
def mvM (l : Nat) (I0 I : sm_I) (w : List (Nat × Nat)) : Prop := (I 107 46).toInt = ((w.length : Nat) : Int) ∧ (∀ j, j < w.length → I 140 j = Int32.ofNat (w.getD j (0, 0)).1 ∧ I 141 j = Int32.ofNat (w.getD j (0, 0)).2 ∧ I 142 j = I0 139 (6 * (I0 124 (10 * l + (w.getD j (0, 0)).1)).toNatClampNeg + (I0 124 (10 * l + (w.getD j (0, 0)).2)).toNatClampNeg)) ∧ ∀ p j, ¬ (p = 107 ∧ j = 46) → p ≠ 140 → p ≠ 141 → p ≠ 142 → I p j = I0 p j
def mcM (l : Nat) (I : sm_I) : Nat → Nat → Bool := mvc (fun a => I 123 (10 * l + a)) (fun a => I 124 (10 * l + a))
theorem ym_3 {I0 : sm_I} {l T a : Nat} (hl : (I0 107 18).toInt = l) (l1 : l ≤ 1) (hT : (I0 122 l).toInt = T) (T10 : T ≤ 10) (ha : a < T) (bp : ∀ i, i < T → I0 123 (10 * l + i) ≠ -1 → 0 ≤ (I0 124 (10 * l + i)).toInt ∧ (I0 124 (10 * l + i)).toInt ≤ 5) (h : ∀ (J : sm_I) (x1 : Int32), x1.toInt = a → mvM l I0 J (mall (mcM l I0) T (a + 1)) → sm_wp sm_P S d 161 1 [.ref 107, .int (x1 + (1 : Int32))] [] (xLay, J, L, kM R) (0, 0) Φ) : ∀ (m b : Nat) (I : sm_I) (x1 x2 : Int32), x1.toInt = a → x2.toInt = b → a < b → b + m = T → mvM l I0 I (mall (mcM l I0) T a ++ mrow (mcM l I0) a b) → sm_wp sm_P S d 161 3 [.ref 107, .int x1, .int x2] [] (xLay, I, L, kM R) (0, 0) Φ := by
  intro m
  induction m with
  | zero =>
    intro b I x1 x2 h1 h2 hab hm hI
    have e : b = T := by omega
    subst e
    have e18 : I 107 18 = I0 107 18 := hI.2.2 107 18 (by omega) (by decide) (by decide) (by decide)
    have e122 : I 122 l = I0 122 l := hI.2.2 122 l (by omega) (by decide) (by decide) (by decide)
    have nl : (I 107 18).toNatClampNeg = l := tk_nat (by rw [e18]; exact hl)
    refine u_X12_meets_3 ⟨kl_in (by rw [e18]; omega) (by rw [e18]; omega), fun _ => h I x1 h1 hI, fun q => ?_⟩
    have q := kl_nle q
    rw [nl, e122] at q
    omega
  | succ m ih =>
    intro b I x1 x2 h1 h2 hab hm hI
    have s2 := ml_in1 (x := x2) (by omega)
    obtain ⟨hc, hr, o⟩ := hI
    have e18 : I 107 18 = I0 107 18 := o 107 18 (by omega) (by decide) (by decide) (by decide)
    have e122 : I 122 l = I0 122 l := o 122 l (by omega) (by decide) (by decide) (by decide)
    have nl : (I 107 18).toNatClampNeg = l := tk_nat (by rw [e18]; exact hl)
    have hl' : (I 107 18).toInt = l := by rw [e18]; exact hl
    have len := mv_45 (c := mcM l I0) T10 hab (by omega : b < T)
    have q1 : ((10 : Int32) * (I 107 18)).toInt = 10 * (l : Int) := ml_mu (by decide) hl' (by omega) (by omega)
    have o3 : ∀ j, I 123 j = I0 123 j := fun j => o 123 j (by omega) (by decide) (by decide) (by decide)
    have o4 : ∀ j, I 124 j = I0 124 j := fun j => o 124 j (by omega) (by decide) (by decide) (by decide)
    have o9 : ∀ j, I 139 j = I0 139 j := fun j => o 139 j (by omega) (by decide) (by decide) (by decide)
    have skip : mcM l I0 a b = false → sm_wp sm_P S d 161 3 [.ref 107, .int x1, .int (x2 + (1 : Int32))] [] (xLay, I, L, kM R) (0, 0) Φ := fun q => by
      refine ih (b + 1) I x1 _ h1 (by omega) (by omega) (by omega) ?_
      rw [mrow_s hab, q, if_neg (by decide), List.append_nil]
      exact ⟨hc, hr, o⟩
    refine u_X12_meets_3 ⟨kl_in (by omega) (by omega), fun q => ?_, fun _ n1 e1 n2 e2 => ?_⟩
    · have q := kl_le.mp q
      rw [nl, e122] at q
      omega
    have p1 : n1.toInt = ((10 * l + a : Nat) : Int) := by rw [e1, ml_ad q1 h1 (by omega) (by omega)]; omega
    have p2 : n2.toInt = ((10 * l + b : Nat) : Int) := by rw [e2, ml_ad q1 h2 (by omega) (by omega)]; omega
    have v1 : vp_in n1 20 := kl_in (by omega) (by omega)
    have v2 : vp_in n2 20 := kl_in (by omega) (by omega)
    have m1 := tk_nat p1
    have m2 := tk_nat p2
    rw [m1, m2, o3, o3, o4, o4]
    refine ⟨v1, fun c1 => skip ?_, fun c1 => ⟨v1, v2, fun c2 => ⟨v1, v2, fun c3 => skip ?_, fun c3 => ?_⟩, fun c2 => skip ?_⟩⟩
    · unfold mcM mvc
      simp [c1]
    · unfold mcM mvc
      simp [c3]
    · have yes : mcM l I0 a b = true := by
        unfold mcM mvc
        simp only [decide_eq_false c1, decide_eq_true c2, decide_eq_false c3]
        rfl
      have ba := bp a ha c1
      have bb := bp b (by omega) (fun q => c1 (c2.trans q))
      have na := kl_nat ba.1
      have nb := kl_nat bb.1
      have vc : vp_in (I 107 46) 45 := kl_in (by omega) (by omega)
      have nc := tk_nat hc
      refine ⟨vc, fun I3 e3 => ?_⟩
      have g3 : I3 107 46 = I 107 46 := by rw [e3, en_up_ne _ _ _ _ (by omega)]
      rw [g3]
      refine ⟨vc, fun I4 e4 => ⟨v1, v2, fun n5 e5 => ?_⟩⟩
      have g4 : I4 107 46 = I 107 46 := by rw [e4, en_up_ne _ _ _ _ (by omega), g3]
      have k4 : ∀ p j, p ≠ 140 → p ≠ 141 → I4 p j = I p j := fun p j a b => by rw [e4, en_up_ne _ _ _ _ (by omega), e3, en_up_ne _ _ _ _ (by omega)]
      rw [k4 124 _ (by decide) (by decide), k4 124 _ (by decide) (by decide), o4, o4] at e5
      have q6 : ((6 : Int32) * (I0 124 (10 * l + a))).toInt = 6 * (I0 124 (10 * l + a)).toInt := ml_mu (by decide) rfl (by omega) (by omega)
      have q5 : n5.toInt = ((6 * (I0 124 (10 * l + a)).toNatClampNeg + (I0 124 (10 * l + b)).toNatClampNeg : Nat) : Int) := by rw [e5, ml_ad q6 rfl (by omega) (by omega)]; omega
      have m5 := tk_nat q5
      rw [g4]
      refine ⟨kl_in (by omega) (by omega), vc, fun I6 e6 I7 e7 => ?_⟩
      rw [m5, k4 139 _ (by decide) (by decide), o9] at e6
      have g6 : I6 107 46 = I 107 46 := by rw [e6, en_up_ne _ _ _ _ (by omega), g4]
      rw [g6] at e7
      rw [nc] at e3 e6
      rw [nc] at e4
      have k7 : ∀ p j, ¬ (p = 107 ∧ j = 46) → p ≠ 140 → p ≠ 141 → p ≠ 142 → I7 p j = I0 p j := fun p j a b c d => by
        rw [e7, en_up_ne _ _ _ _ a, e6, en_up_ne _ _ _ _ (by omega), k4 p j b c, o p j a b c d]
      have s1 := ml_in1 (x := I 107 46) (by omega)
      refine ih (b + 1) I7 x1 _ h1 (by omega) (by omega) (by omega) ⟨?_, fun j hj => ?_, k7⟩
      · rw [mrow_s hab, yes, if_pos rfl, ← List.append_assoc, List.length_append]
        rw [e7, en_up_eq, s1, hc]
        rfl
      · rw [mrow_s hab, yes, if_pos rfl, ← List.append_assoc] at hj ⊢
        rw [List.length_append] at hj
        have hj : j < (mall (mcM l I0) T a ++ mrow (mcM l I0) a b).length + 1 := hj
        by_cases e : j < (mall (mcM l I0) T a ++ mrow (mcM l I0) a b).length
        · rw [gD_l e]
          obtain ⟨r1, r2, r3⟩ := hr j e
          refine ⟨?_, ?_, ?_⟩
          · rw [e7, en_up_ne _ _ _ _ (by omega), e6, en_up_ne _ _ _ _ (by omega), e4, en_up_ne _ _ _ _ (by omega), e3, en_up_ne _ _ _ _ (by omega)]; exact r1
          · rw [e7, en_up_ne _ _ _ _ (by omega), e6, en_up_ne _ _ _ _ (by omega), e4, en_up_ne _ _ _ _ (by omega), e3, en_up_ne _ _ _ _ (by omega)]; exact r2
          · rw [e7, en_up_ne _ _ _ _ (by omega), e6, en_up_ne _ _ _ _ (by omega), e4, en_up_ne _ _ _ _ (by omega), e3, en_up_ne _ _ _ _ (by omega)]; exact r3
        · have e : j = (mall (mcM l I0) T a ++ mrow (mcM l I0) a b).length := by omega
          rw [e, gD_n]
          have ex1 : x1 = Int32.ofNat a := en_ofI (by rw [h1, Int32.toInt_ofNat_of_lt (by omega)])
          have ex2 : x2 = Int32.ofNat b := en_ofI (by rw [h2, Int32.toInt_ofNat_of_lt (by omega)])
          refine ⟨?_, ?_, ?_⟩
          · rw [e7, en_up_ne _ _ _ _ (by omega), e6, en_up_ne _ _ _ _ (by omega), e4, en_up_ne _ _ _ _ (by omega), e3, en_up_eq, ex1]
          · rw [e7, en_up_ne _ _ _ _ (by omega), e6, en_up_ne _ _ _ _ (by omega), e4, en_up_eq, ex2]
          · rw [e7, en_up_ne _ _ _ _ (by omega), e6, en_up_eq]
    · unfold mcM mvc
      simp [c2]
theorem ym_1 {I0 : sm_I} {l T : Nat} (hl : (I0 107 18).toInt = l) (l1 : l ≤ 1) (hT : (I0 122 l).toInt = T) (T10 : T ≤ 10) (bp : ∀ i, i < T → I0 123 (10 * l + i) ≠ -1 → 0 ≤ (I0 124 (10 * l + i)).toInt ∧ (I0 124 (10 * l + i)).toInt ≤ 5) (h : ∀ J : sm_I, mvM l I0 J (mall (mcM l I0) T T) → Φ (none, (xLay, J, L, kM R))) : ∀ (m a : Nat) (I : sm_I) (x1 : Int32), x1.toInt = a → a + m = T → mvM l I0 I (mall (mcM l I0) T a) → sm_wp sm_P S d 161 1 [.ref 107, .int x1] [] (xLay, I, L, kM R) (0, 0) Φ := by
  intro m
  induction m with
  | zero =>
    intro a I x1 h1 hm hI
    have e : a = T := by omega
    subst e
    have e18 : I 107 18 = I0 107 18 := hI.2.2 107 18 (by omega) (by decide) (by decide) (by decide)
    have e122 : I 122 l = I0 122 l := hI.2.2 122 l (by omega) (by decide) (by decide) (by decide)
    have nl : (I 107 18).toNatClampNeg = l := tk_nat (by rw [e18]; exact hl)
    refine u_X12_meets_1 ⟨kl_in (by rw [e18]; omega) (by rw [e18]; omega), fun _ => h I hI, fun q => ?_⟩
    have q := kl_nle q
    rw [nl, e122] at q
    omega
  | succ m ih =>
    intro a I x1 h1 hm hI
    have s1 := ml_in1 (x := x1) (by omega)
    have e18 : I 107 18 = I0 107 18 := hI.2.2 107 18 (by omega) (by decide) (by decide) (by decide)
    have e122 : I 122 l = I0 122 l := hI.2.2 122 l (by omega) (by decide) (by decide) (by decide)
    have nl : (I 107 18).toNatClampNeg = l := tk_nat (by rw [e18]; exact hl)
    refine u_X12_meets_1 ⟨kl_in (by rw [e18]; omega) (by rw [e18]; omega), fun q => ?_, fun _ => ym_3 (I0 := I0) (a := a) hl l1 hT T10 (by omega) bp (fun J x1 h1 hJ => ih (a + 1) J _ ?_ (by omega) hJ) (T - (a + 1)) (a + 1) I x1 _ h1 (by omega) (by omega) (by omega) (by rw [mrow_0 (a + 1) (Nat.le_refl _), List.append_nil]; exact hI)⟩
    · have q := kl_le.mp q
      rw [nl, e122] at q
      omega
    · have s := ml_in1 (x := x1) (by omega)
      omega
theorem y_meets {I : sm_I} {l T : Nat} (hl : (I 107 18).toInt = l) (l1 : l ≤ 1) (hT : (I 122 l).toInt = T) (T10 : T ≤ 10) (bp : ∀ i, i < T → I 123 (10 * l + i) ≠ -1 → 0 ≤ (I 124 (10 * l + i)).toInt ∧ (I 124 (10 * l + i)).toInt ≤ 5) (h : ∀ J : sm_I, mvM l I J (mall (mcM l I) T T) → Φ (none, (xLay, J, L, kM R))) : sm_wp sm_P S d 161 0 [.ref 107] [] (xLay, I, L, kM R) (0, 0) Φ := u_X12_meets_0 (ym_1 (I0 := I) hl l1 hT T10 bp h T 0 _ 0 (by decide) (by omega) ⟨by rw [en_up_eq]; rfl, fun j hj => absurd hj (Nat.not_lt_zero j), fun p j a _ _ _ => by rw [en_up_ne _ _ _ _ a]⟩)
end
