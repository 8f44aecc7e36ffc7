/-! the class's findMoves with into = 49, exact (wip/pe/mkmv.py) -/
section
variable {S : sm_C} {d : Nat} {Φ : sm_Z → Prop} {L : sm_L} {R : sm_R}
def mv49 (I0 I : sm_I) (w : List (Nat × Nat)) : Prop := (I 49 5).toInt = ((w.length : Nat) : Int) ∧ (∀ j, j < w.length → I 71 j = Int32.ofNat (w.getD j (0, 0)).1 ∧ I 72 j = Int32.ofNat (w.getD j (0, 0)).2 ∧ I 73 j = I0 50 (6 * (I0 52 (w.getD j (0, 0)).1).toNatClampNeg + (I0 52 (w.getD j (0, 0)).2).toNatClampNeg)) ∧ ∀ p j, ¬ (p = 49 ∧ j = 5) → p ≠ 71 → p ≠ 72 → p ≠ 73 → I p j = I0 p j
def mc49 (I : sm_I) : Nat → Nat → Bool := mvc (I 51) (I 52)
theorem km49_3 {I0 : sm_I} {T a : Nat} (hT : (I0 49 2).toInt = T) (T10 : T ≤ 10) (ha : a < T) (bp : ∀ i, i < T → I0 51 i ≠ -1 → 0 ≤ (I0 52 i).toInt ∧ (I0 52 i).toInt ≤ 5) (h : ∀ (J : sm_I) (x1 : Int32), x1.toInt = a → mv49 I0 J (mall (mc49 I0) T (a + 1)) → sm_wp sm_P S (d + 1) 17 1 [.ref 49, .int (x1 + (1 : Int32))] [] (xLay, J, L, kQ49 R) (0, 0) Φ) : ∀ (m b : Nat) (I : sm_I) (x1 x2 : Int32), x1.toInt = a → x2.toInt = b → a < b → b + m = T → mv49 I0 I (mall (mc49 I0) T a ++ mrow (mc49 I0) a b) → sm_wp sm_P S (d + 1) 17 3 [.ref 49, .int x1, .int x2] [] (xLay, I, L, kQ49 R) (0, 0) Φ := by
  intro m
  induction m with
  | zero =>
    intro b I x1 x2 h1 h2 hab hm hI
    have e : b = T := by omega
    subst e
    have e2 : I 49 2 = I0 49 2 := hI.2.2 49 2 (by omega) (by decide) (by decide) (by decide)
    refine s49_X10_findMoves_3 ⟨fun _ => h I x1 h1 hI, fun q => ?_⟩
    have q := kl_nle q
    rw [e2] at q
    omega
  | succ m ih =>
    intro b I x1 x2 h1 h2 hab hm hI
    have s2 := ml_in1 (x := x2) (by omega)
    obtain ⟨hc, hr, o⟩ := hI
    have e2 : I 49 2 = I0 49 2 := o 49 2 (by omega) (by decide) (by decide) (by decide)
    have len := mv_45 (c := mc49 I0) T10 hab (by omega : b < T)
    have o3 : ∀ j, I 51 j = I0 51 j := fun j => o 51 j (by omega) (by decide) (by decide) (by decide)
    have o4 : ∀ j, I 52 j = I0 52 j := fun j => o 52 j (by omega) (by decide) (by decide) (by decide)
    have o9 : ∀ j, I 50 j = I0 50 j := fun j => o 50 j (by omega) (by decide) (by decide) (by decide)
    have skip : mc49 I0 a b = false → sm_wp sm_P S (d + 1) 17 12 [.ref 49, .int x1, .int x2] [] (xLay, I, L, kQ49 R) (0, 0) Φ := fun q => by
      refine s49_X10_findMoves_12 (ih (b + 1) I x1 _ h1 (by omega) (by omega) (by omega) ?_)
      rw [mrow_s hab, q, if_neg (by decide), List.append_nil]
      exact ⟨hc, hr, o⟩
    have v1 : vp_in x1 10 := kl_in (by omega) (by omega)
    have v2 : vp_in x2 10 := kl_in (by omega) (by omega)
    have m1 := tk_nat h1
    have m2 := tk_nat h2
    have no : mc49 I0 a b = false → sm_wp sm_P S (d + 1) 17 8 [.ref 49, .int x1, .int x2] [.int (0 : Int32)] (xLay, I, L, kQ49 R) (0, 0) Φ := fun q => s49_X10_findMoves_8 ⟨fun _ => skip q, fun z => absurd rfl z⟩
    refine s49_X10_findMoves_3 ⟨fun q => ?_, fun _ => ⟨v1, ?_⟩⟩
    · have q := kl_le.mp q
      rw [e2] at q
      omega
    rw [m1, m2, o3, o3]
    refine ⟨fun c1 => no ?_, fun c1 => ⟨v1, v2, fun c2 => ?_, fun c2 => no ?_⟩⟩
    · unfold mc49 mvc
      simp [c1]
    rotate_left
    · unfold mc49 mvc
      simp [c2]
    refine s49_X10_findMoves_8 ⟨fun z => absurd z (by decide), fun _ => ⟨v1, v2, ?_⟩⟩
    rw [m1, m2, o4, o4]
    refine ⟨fun c3 => skip ?_, fun c3 => ⟨fun q => ?_, fun _ => ?_⟩⟩
    · unfold mc49 mvc
      simp [c3]
    · have q := kl_le.mp q
      rw [hc, (by decide : (45 : Int32).toInt = 45)] at q
      omega
    have yes : mc49 I0 a b = true := by
      unfold mc49 mvc
      simp only [decide_eq_false c1, decide_eq_true c2, decide_eq_false c3]
      rfl
    have ba := bp a ha c1
    have bb := bp b (by omega) (fun q => c1 (c2.trans q))
    have na := kl_nat ba.1
    have nb := kl_nat bb.1
    have vc : vp_in (I 49 5) 45 := kl_in (by omega) (by omega)
    have nc := tk_nat hc
    refine ⟨vc, fun I1 e1 => ?_⟩
    have g1 : I1 49 5 = I 49 5 := by rw [e1, en_up_ne _ _ _ _ (by omega)]
    rw [g1]
    refine ⟨vc, fun I2 e3 => ⟨v1, v2, ?_⟩⟩
    have k2 : ∀ p j, p ≠ 71 → p ≠ 72 → I2 p j = I p j := fun p j a b => by rw [e3, en_up_ne _ _ _ _ (by omega), e1, en_up_ne _ _ _ _ (by omega)]
    rw [k2 52 _ (by decide) (by decide), k2 52 _ (by decide) (by decide), o4, o4, k2 49 5 (by decide) (by decide)]
    refine w49_wb (a := (I0 52 a).toNatClampNeg) (b := (I0 52 b).toNatClampNeg) na.symm nb.symm (by omega) (by omega) ⟨_, I2, L, rfl, vc, fun I6 e6 I7 e7 => ?_⟩
    rw [k2 50 _ (by decide) (by decide), o9] at e6
    have g6 : I6 49 5 = I 49 5 := by rw [e6, en_up_ne _ _ _ _ (by omega), k2 49 5 (by decide) (by decide)]
    rw [g6] at e7
    rw [nc] at e1 e3 e6
    have k7 : ∀ p j, ¬ (p = 49 ∧ j = 5) → p ≠ 71 → p ≠ 72 → p ≠ 73 → I7 p j = I0 p j := fun p j a b c d => by
      rw [e7, en_up_ne _ _ _ _ a, e6, en_up_ne _ _ _ _ (by omega), k2 p j b c, o p j a b c d]
    have s1 := ml_in1 (x := I 49 5) (by omega)
    refine s49_X10_findMoves_12 (ih (b + 1) I7 x1 _ h1 (by omega) (by omega) (by omega) ⟨?_, fun j hj => ?_, k7⟩)
    · rw [mrow_s hab, yes, if_pos rfl, ← List.append_assoc, List.length_append]
      rw [e7, en_up_eq, s1, hc]
      rfl
    · rw [mrow_s hab, yes, if_pos rfl, ← List.append_assoc] at hj ⊢
      rw [List.length_append] at hj
      have hj : j < (mall (mc49 I0) T a ++ mrow (mc49 I0) a b).length + 1 := hj
      by_cases e : j < (mall (mc49 I0) T a ++ mrow (mc49 I0) a b).length
      · rw [gD_l e]
        obtain ⟨r1, r2, r3⟩ := hr j e
        refine ⟨?_, ?_, ?_⟩
        · rw [e7, en_up_ne _ _ _ _ (by omega), e6, en_up_ne _ _ _ _ (by omega), e3, en_up_ne _ _ _ _ (by omega), e1, en_up_ne _ _ _ _ (by omega)]; exact r1
        · rw [e7, en_up_ne _ _ _ _ (by omega), e6, en_up_ne _ _ _ _ (by omega), e3, en_up_ne _ _ _ _ (by omega), e1, en_up_ne _ _ _ _ (by omega)]; exact r2
        · rw [e7, en_up_ne _ _ _ _ (by omega), e6, en_up_ne _ _ _ _ (by omega), e3, en_up_ne _ _ _ _ (by omega), e1, en_up_ne _ _ _ _ (by omega)]; exact r3
      · have e : j = (mall (mc49 I0) T a ++ mrow (mc49 I0) a b).length := by omega
        rw [e, gD_n]
        have ex1 : x1 = Int32.ofNat a := en_ofI (by rw [h1, Int32.toInt_ofNat_of_lt (by omega)])
        have ex2 : x2 = Int32.ofNat b := en_ofI (by rw [h2, Int32.toInt_ofNat_of_lt (by omega)])
        refine ⟨?_, ?_, ?_⟩
        · rw [e7, en_up_ne _ _ _ _ (by omega), e6, en_up_ne _ _ _ _ (by omega), e3, en_up_ne _ _ _ _ (by omega), e1, en_up_eq, ex1]
        · rw [e7, en_up_ne _ _ _ _ (by omega), e6, en_up_ne _ _ _ _ (by omega), e3, en_up_eq, ex2]
        · rw [e7, en_up_ne _ _ _ _ (by omega), e6, en_up_eq]
theorem km49_1 {I0 : sm_I} {T : Nat} (hT : (I0 49 2).toInt = T) (T10 : T ≤ 10) (bp : ∀ i, i < T → I0 51 i ≠ -1 → 0 ≤ (I0 52 i).toInt ∧ (I0 52 i).toInt ≤ 5) (h : ∀ J : sm_I, mv49 I0 J (mall (mc49 I0) T T) → Φ (none, (xLay, J, L, kQ49 R))) : ∀ (m a : Nat) (I : sm_I) (x1 : Int32), x1.toInt = a → a + m = T → mv49 I0 I (mall (mc49 I0) T a) → sm_wp sm_P S (d + 1) 17 1 [.ref 49, .int x1] [] (xLay, I, L, kQ49 R) (0, 0) Φ := by
  intro m
  induction m with
  | zero =>
    intro a I x1 h1 hm hI
    have e : a = T := by omega
    subst e
    have e2 : I 49 2 = I0 49 2 := hI.2.2 49 2 (by omega) (by decide) (by decide) (by decide)
    refine s49_X10_findMoves_1 ⟨fun _ => h I hI, fun q => ?_⟩
    have q := kl_nle q
    rw [e2] at q
    omega
  | succ m ih =>
    intro a I x1 h1 hm hI
    have s1 := ml_in1 (x := x1) (by omega)
    have e2 : I 49 2 = I0 49 2 := hI.2.2 49 2 (by omega) (by decide) (by decide) (by decide)
    refine s49_X10_findMoves_1 ⟨fun q => ?_, fun _ => km49_3 (I0 := I0) (a := a) hT T10 (by omega) bp (fun J x1 h1 hJ => ih (a + 1) J _ ?_ (by omega) hJ) (T - (a + 1)) (a + 1) I x1 _ h1 (by omega) (by omega) (by omega) (by rw [mrow_0 (a + 1) (Nat.le_refl _), List.append_nil]; exact hI)⟩
    · have q := kl_le.mp q
      rw [e2] at q
      omega
    · have s := ml_in1 (x := x1) (by omega)
      omega
theorem k49_moves {I : sm_I} {T : Nat} (hT : (I 49 2).toInt = T) (T10 : T ≤ 10) (bp : ∀ i, i < T → I 51 i ≠ -1 → 0 ≤ (I 52 i).toInt ∧ (I 52 i).toInt ≤ 5) (h : ∀ J : sm_I, mv49 I J (mall (mc49 I) T T) → Φ (none, (xLay, J, L, kQ49 R))) : sm_wp sm_P S (d + 1) 17 0 [.ref 49] [] (xLay, I, L, kQ49 R) (0, 0) Φ := s49_X10_findMoves_0 (km49_1 (I0 := I) hT T10 bp h T 0 _ 0 (by decide) (by omega) ⟨by rw [en_up_eq]; rfl, fun j hj => absurd hj (Nat.not_lt_zero j), fun p j a _ _ _ => by rw [en_up_ne _ _ _ _ a]⟩)
end
