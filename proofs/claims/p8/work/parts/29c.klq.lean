/-! more for the nets -/
def kl_bl (P M S A B : Nat) (I I' : sm_I) : Prop := ∀ c j, c ≠ M → c ≠ S → c ≠ A → c ≠ B → ¬ (c = P ∧ (j = 4 ∨ j = 5)) → I' c j = I c j
/-! the net 75: loose and blank -/
theorem n75_loose {S : sm_C} {d : Nat} {Φ : sm_Z → Prop} {I : sm_I} {L : sm_L} {R : sm_R} {x1 x2 x3 x4 : Int32} (hw : (I 75 4).toInt ≤ 11) (h : ∀ I' : sm_I, kl_bl 75 76 77 78 79 I I' → I' 75 4 = I 75 4 → I' 75 5 = I 75 5 → (∀ c, c ≠ 77 → c ≠ 78 → c ≠ 79 → I' c = I c) → (∀ t, I' 77 t = I 77 t ∨ (0 ≤ (I' 77 t).toInt ∧ (I' 77 t).toInt < (I 75 4).toInt)) → Φ (none, (xLay, I', L, kR 75 R))) : sm_wp sm_P S (d + 1) 254 0 [.ref 75, .int x1, .int x2, .int x3, .int x4] [] (xLay, I, L, kR 75 R) (0, 0) Φ := by
  have no : Φ (none, (xLay, I, L, kR 75 R)) := h I (fun _ _ _ _ _ _ _ => rfl) rfl rfl (fun _ _ _ _ => rfl) (fun _ => Or.inl rfl)
  refine k75_loose_0 (n75_node (fun r hr => ⟨r, I, L, rfl, fun _ => no, fun h1 => n75_node (fun r2 hr2 => ⟨r2, I, L, rfl, fun _ => no, fun h2 => ?_⟩)⟩))
  obtain ⟨a0, a1⟩ := hr.resolve_left h1
  obtain ⟨b0, b1⟩ := hr2.resolve_left h2
  have v : vp_in x1 11 := kl_in a0 (by omega)
  refine ⟨v, fun I7 e7 => ⟨v, fun I8 e8 => ⟨v, fun I9 e9 => ?_⟩⟩⟩
  have f7 : ∀ c, c ≠ 77 → I7 c = I c := fun c hc => by rw [e7]; unfold sm_up; simp [hc]
  have f8 : ∀ c, c ≠ 78 → I8 c = I7 c := fun c hc => by rw [e8]; unfold sm_up; simp [hc]
  have f9 : ∀ c, c ≠ 79 → I9 c = I8 c := fun c hc => by rw [e9]; unfold sm_up; simp [hc]
  have g : ∀ c, c ≠ 77 → c ≠ 78 → c ≠ 79 → I9 c = I c := fun c h1 h2 h3 => by rw [f9 c h3, f8 c h2, f7 c h1]
  refine h I9 (fun c j h1 h2 h3 h4 _ => by rw [g c h2 h3 h4]) (by rw [g 75 (by decide) (by decide) (by decide)]) (by rw [g 75 (by decide) (by decide) (by decide)]) g (fun t => ?_)
  rw [f9 77 (by decide), f8 77 (by decide), e7]
  unfold sm_up
  by_cases e : t = x1.toNatClampNeg
  · right; simp only [e, if_true]; exact ⟨b0, b1⟩
  · left; simp [e]
theorem n75_bl6 {S : sm_C} {d : Nat} {Φ : sm_Z → Prop} {L : sm_L} {R : sm_R} {x2 : Int32} : ∀ (k : Nat) (I : sm_I) (x3 : Int32), kl_nb I 75 → 0 ≤ x2.toInt → x2.toInt < (I 75 4).toInt → 0 ≤ x3.toInt → (I 75 4).toInt - x3.toInt ≤ k → (∀ I' : sm_I, kl_only 76 I I' → sm_wp sm_P S d 247 4 [.ref 75, .int (x2 + 1)] [] (xLay, I', L, kR 75 R) (0, 0) Φ) → sm_wp sm_P S d 247 6 [.ref 75, .int x2, .int x3] [] (xLay, I, L, kR 75 R) (0, 0) Φ := by
  intro k
  induction k with
  | zero =>
    intro I x3 hn a0 a1 h0 hk h
    refine k75_blank_6 ⟨fun _ => h _ kl_only_rf, fun h1 => ?_⟩
    have := kl_nle h1
    omega
  | succ k ih =>
    intro I x3 hn a0 a1 h0 hk h
    refine k75_blank_6 ⟨fun _ => h _ kl_only_rf, fun h1 => ?_⟩
    have h1 := kl_nle h1
    have e := kl_inc h0 h1
    have r := kl_row a0 a1
    have q := kl_sq hn.1 hn.2.1
    have m : (x2 * I 75 4).toInt = x2.toInt * (I 75 4).toInt := kl_mul (by omega) (by omega)
    have v : vp_in (x2 * I 75 4 + x3) 7381 := (kl_ix2 (r := x2 * I 75 4) (y := x3) (N := I 75 4) (n := 7381) (by omega) (by omega) (by decide) h0 h1).2
    have go : ∀ (x : Int32) (I1 : sm_I), I1 = sm_up I 76 (x2 * I 75 4 + x3).toNatClampNeg x → sm_wp sm_P S d 247 6 [.ref 75, .int x2, .int (x3 + 1)] [] (xLay, I1, L, kR 75 R) (0, 0) Φ := by
      intro x I1 e1
      have o : kl_only 76 I I1 := by rw [e1]; exact kl_only_up
      have o4 : I1 75 4 = I 75 4 := o 75 4 (by decide)
      exact ih I1 (x3 + 1) (kl_only_nb o (by decide) hn) a0 (by rw [o4]; exact a1) (by omega) (by rw [o4]; omega) (fun I' o' => h I' (kl_only_tr o o'))
    exact ⟨fun _ => ⟨v, go _⟩, fun _ => ⟨fun _ => ⟨v, go _⟩, fun _ => ⟨v, go _⟩⟩⟩
theorem n75_bl4 {S : sm_C} {d : Nat} {Φ : sm_Z → Prop} {L : sm_L} {R : sm_R} : ∀ (k : Nat) (I : sm_I) (x2 : Int32), kl_nb I 75 → (I 75 4).toInt ≤ 11 → 0 ≤ x2.toInt → (I 75 4).toInt - x2.toInt ≤ k → (∀ t : Nat, (t : Int) < x2.toInt → 0 ≤ (I 77 t).toInt ∧ (I 77 t).toInt < (I 75 4).toInt) → (∀ t : Nat, t < 11 → 0 ≤ (I 77 t).toInt ∧ (I 77 t).toInt ≤ 11 - 1) → (∀ I' : sm_I, kl_bl 75 76 77 78 79 I I' → kl_nb I' 75 → (I' 75 4).toInt ≤ 11 → (∀ t : Nat, (t : Int) < (I' 75 4).toInt → 0 ≤ (I' 77 t).toInt ∧ (I' 77 t).toInt < (I' 75 4).toInt) → (∀ t : Nat, t < 11 → 0 ≤ (I' 77 t).toInt ∧ (I' 77 t).toInt ≤ 11 - 1) → Φ (none, (xLay, I', L, kR 75 R))) → sm_wp sm_P S d 247 4 [.ref 75, .int x2] [] (xLay, I, L, kR 75 R) (0, 0) Φ := by
  intro k
  induction k with
  | zero =>
    intro I x2 hn hw h0 hk h1 h2 h
    refine k75_blank_4 ⟨fun _ => h I (fun _ _ _ _ _ _ _ => rfl) hn hw (fun t ht => h1 t (by omega)) h2, fun q => ?_⟩
    have := kl_nle q
    omega
  | succ k ih =>
    intro I x2 hn hw h0 hk h1 h2 h
    refine k75_blank_4 ⟨fun q => h I (fun _ _ _ _ _ _ _ => rfl) hn hw (fun t ht => h1 t (by have := kl_le.mp q; omega)) h2, fun q => ?_⟩
    have q := kl_nle q
    have e := kl_inc h0 q
    have n2 := kl_nat h0
    have v : vp_in x2 11 := kl_in h0 (by omega)
    refine ⟨v, fun I1 e1 => ⟨v, fun I2 e2 => ⟨v, fun I3 e3 => ?_⟩⟩⟩
    have f1 : ∀ c, c ≠ 77 → I1 c = I c := fun c hc => by rw [e1]; unfold sm_up; simp [hc]
    have f2 : ∀ c, c ≠ 78 → I2 c = I1 c := fun c hc => by rw [e2]; unfold sm_up; simp [hc]
    have f3 : ∀ c, c ≠ 79 → I3 c = I2 c := fun c hc => by rw [e3]; unfold sm_up; simp [hc]
    have g : ∀ c, c ≠ 77 → c ≠ 78 → c ≠ 79 → I3 c = I c := fun c h1 h2 h3 => by rw [f3 c h3, f2 c h2, f1 c h1]
    have gP : I3 75 = I 75 := g 75 (by decide) (by decide) (by decide)
    have gS : ∀ t, I3 77 t = if t = x2.toNatClampNeg then x2 else I 77 t := fun t => by
      rw [f3 77 (by decide), f2 77 (by decide), e1]; unfold sm_up; simp
    have n3 : kl_nb I3 75 := by unfold kl_nb; rw [gP]; exact hn
    refine n75_bl6 (I 75 4).toInt.toNat I3 0 n3 h0 (by rw [gP]; exact q) (by rw [kl_0]; omega) (by rw [gP, kl_0]; omega) (fun I4 o => ?_)
    have oP : I4 75 4 = I 75 4 := by rw [o 75 4 (by decide), gP]
    have oS : ∀ t, I4 77 t = if t = x2.toNatClampNeg then x2 else I 77 t := fun t => by rw [o 77 t (by decide)]; exact gS t
    refine ih I4 (x2 + 1) (kl_only_nb o (by decide) n3) (by rw [oP]; exact hw) (by omega) (by rw [oP]; omega) (fun t ht => ?_) (fun t ht => ?_) (fun I' b => h I' (fun c j c1 c2 c3 c4 c5 => ?_))
    · rw [oS, oP]
      by_cases et : t = x2.toNatClampNeg
      · rw [if_pos et]; omega
      · rw [if_neg et]; exact h1 t (by omega)
    · rw [oS]
      by_cases et : t = x2.toNatClampNeg
      · rw [if_pos et]; omega
      · rw [if_neg et]; exact h2 t ht
    · rw [b c j c1 c2 c3 c4 c5, o c j c1, g c c2 c3 c4]
theorem n75_blank {S : sm_C} {d : Nat} {Φ : sm_Z → Prop} {I : sm_I} {L : sm_L} {R : sm_R} {x1 : Int32} (h2 : ∀ t : Nat, t < 11 → 0 ≤ (I 77 t).toInt ∧ (I 77 t).toInt ≤ 11 - 1) (h0 : Φ (none, (xLay, I, L, kR 75 R))) (h : ∀ I' : sm_I, kl_bl 75 76 77 78 79 I I' → kl_nb I' 75 → (I' 75 4).toInt ≤ 11 → (∀ t : Nat, (t : Int) < (I' 75 4).toInt → 0 ≤ (I' 77 t).toInt ∧ (I' 77 t).toInt < (I' 75 4).toInt) → (∀ t : Nat, t < 11 → 0 ≤ (I' 77 t).toInt ∧ (I' 77 t).toInt ≤ 11 - 1) → Φ (none, (xLay, I', L, kR 75 R))) : sm_wp sm_P S d 247 0 [.ref 75, .int x1] [] (xLay, I, L, kR 75 R) (0, 0) Φ := by
  refine k75_blank_0 ⟨fun _ => h0, fun a => ⟨fun b I1 e1 => ?_, fun _ => h0⟩⟩
  have a := kl_nlt a
  rw [kl_1] at a
  have b := kl_le.mp b
  have eW : (Int32.ofNat 11).toInt = 11 := by decide
  rw [eW] at b
  have q := kl_sq a (show x1.toInt ≤ 12 by omega)
  have m : (x1 * x1).toInt = x1.toInt * x1.toInt := kl_mul (by omega) (by omega)
  have g4 : I1 75 4 = x1 := by rw [e1]; simp [sm_up]
  have g5 : I1 75 5 = x1 * x1 := by rw [e1]; simp [sm_up]
  have gS : I1 77 = I 77 := by rw [e1]; simp [sm_up]
  have gO : ∀ c j, ¬ (c = 75 ∧ (j = 4 ∨ j = 5)) → I1 c j = I c j := by
    intro c j hc
    rw [e1]
    rw [en_up_ne _ _ _ _ (fun q => hc ⟨q.1, Or.inr q.2⟩), en_up_ne _ _ _ _ (fun q => hc ⟨q.1, Or.inl q.2⟩)]
  have n1 : kl_nb I1 75 := ⟨by rw [g4]; exact a, by rw [g4]; omega, by rw [g4, g5]; exact m⟩
  refine n75_bl4 (I1 75 4).toInt.toNat I1 0 n1 (by rw [g4]; exact b) (by rw [kl_0]; omega) (by rw [kl_0]; omega) (fun t ht => by rw [kl_0] at ht; omega) (fun t ht => by rw [gS]; exact h2 t ht) (fun I' c => h I' (fun x j c1 c2 c3 c4 c5 => ?_))
  rw [c x j c1 c2 c3 c4 c5, gO x j c5]
/-! the net 83: loose and blank -/
theorem n83_loose {S : sm_C} {d : Nat} {Φ : sm_Z → Prop} {I : sm_I} {L : sm_L} {R : sm_R} {x1 x2 x3 x4 : Int32} (hw : (I 83 4).toInt ≤ 11) (h : ∀ I' : sm_I, kl_bl 83 84 85 86 87 I I' → I' 83 4 = I 83 4 → I' 83 5 = I 83 5 → (∀ c, c ≠ 85 → c ≠ 86 → c ≠ 87 → I' c = I c) → (∀ t, I' 85 t = I 85 t ∨ (0 ≤ (I' 85 t).toInt ∧ (I' 85 t).toInt < (I 83 4).toInt)) → Φ (none, (xLay, I', L, kR 83 R))) : sm_wp sm_P S (d + 1) 254 0 [.ref 83, .int x1, .int x2, .int x3, .int x4] [] (xLay, I, L, kR 83 R) (0, 0) Φ := by
  have no : Φ (none, (xLay, I, L, kR 83 R)) := h I (fun _ _ _ _ _ _ _ => rfl) rfl rfl (fun _ _ _ _ => rfl) (fun _ => Or.inl rfl)
  refine k83_loose_0 (n83_node (fun r hr => ⟨r, I, L, rfl, fun _ => no, fun h1 => n83_node (fun r2 hr2 => ⟨r2, I, L, rfl, fun _ => no, fun h2 => ?_⟩)⟩))
  obtain ⟨a0, a1⟩ := hr.resolve_left h1
  obtain ⟨b0, b1⟩ := hr2.resolve_left h2
  have v : vp_in x1 11 := kl_in a0 (by omega)
  refine ⟨v, fun I7 e7 => ⟨v, fun I8 e8 => ⟨v, fun I9 e9 => ?_⟩⟩⟩
  have f7 : ∀ c, c ≠ 85 → I7 c = I c := fun c hc => by rw [e7]; unfold sm_up; simp [hc]
  have f8 : ∀ c, c ≠ 86 → I8 c = I7 c := fun c hc => by rw [e8]; unfold sm_up; simp [hc]
  have f9 : ∀ c, c ≠ 87 → I9 c = I8 c := fun c hc => by rw [e9]; unfold sm_up; simp [hc]
  have g : ∀ c, c ≠ 85 → c ≠ 86 → c ≠ 87 → I9 c = I c := fun c h1 h2 h3 => by rw [f9 c h3, f8 c h2, f7 c h1]
  refine h I9 (fun c j h1 h2 h3 h4 _ => by rw [g c h2 h3 h4]) (by rw [g 83 (by decide) (by decide) (by decide)]) (by rw [g 83 (by decide) (by decide) (by decide)]) g (fun t => ?_)
  rw [f9 85 (by decide), f8 85 (by decide), e7]
  unfold sm_up
  by_cases e : t = x1.toNatClampNeg
  · right; simp only [e, if_true]; exact ⟨b0, b1⟩
  · left; simp [e]
theorem n83_bl6 {S : sm_C} {d : Nat} {Φ : sm_Z → Prop} {L : sm_L} {R : sm_R} {x2 : Int32} : ∀ (k : Nat) (I : sm_I) (x3 : Int32), kl_nb I 83 → 0 ≤ x2.toInt → x2.toInt < (I 83 4).toInt → 0 ≤ x3.toInt → (I 83 4).toInt - x3.toInt ≤ k → (∀ I' : sm_I, kl_only 84 I I' → sm_wp sm_P S d 247 4 [.ref 83, .int (x2 + 1)] [] (xLay, I', L, kR 83 R) (0, 0) Φ) → sm_wp sm_P S d 247 6 [.ref 83, .int x2, .int x3] [] (xLay, I, L, kR 83 R) (0, 0) Φ := by
  intro k
  induction k with
  | zero =>
    intro I x3 hn a0 a1 h0 hk h
    refine k83_blank_6 ⟨fun _ => h _ kl_only_rf, fun h1 => ?_⟩
    have := kl_nle h1
    omega
  | succ k ih =>
    intro I x3 hn a0 a1 h0 hk h
    refine k83_blank_6 ⟨fun _ => h _ kl_only_rf, fun h1 => ?_⟩
    have h1 := kl_nle h1
    have e := kl_inc h0 h1
    have r := kl_row a0 a1
    have q := kl_sq hn.1 hn.2.1
    have m : (x2 * I 83 4).toInt = x2.toInt * (I 83 4).toInt := kl_mul (by omega) (by omega)
    have v : vp_in (x2 * I 83 4 + x3) 6776 := (kl_ix2 (r := x2 * I 83 4) (y := x3) (N := I 83 4) (n := 6776) (by omega) (by omega) (by decide) h0 h1).2
    have go : ∀ (x : Int32) (I1 : sm_I), I1 = sm_up I 84 (x2 * I 83 4 + x3).toNatClampNeg x → sm_wp sm_P S d 247 6 [.ref 83, .int x2, .int (x3 + 1)] [] (xLay, I1, L, kR 83 R) (0, 0) Φ := by
      intro x I1 e1
      have o : kl_only 84 I I1 := by rw [e1]; exact kl_only_up
      have o4 : I1 83 4 = I 83 4 := o 83 4 (by decide)
      exact ih I1 (x3 + 1) (kl_only_nb o (by decide) hn) a0 (by rw [o4]; exact a1) (by omega) (by rw [o4]; omega) (fun I' o' => h I' (kl_only_tr o o'))
    exact ⟨fun _ => ⟨v, go _⟩, fun _ => ⟨fun _ => ⟨v, go _⟩, fun _ => ⟨v, go _⟩⟩⟩
theorem n83_bl4 {S : sm_C} {d : Nat} {Φ : sm_Z → Prop} {L : sm_L} {R : sm_R} : ∀ (k : Nat) (I : sm_I) (x2 : Int32), kl_nb I 83 → (I 83 4).toInt ≤ 11 → 0 ≤ x2.toInt → (I 83 4).toInt - x2.toInt ≤ k → (∀ t : Nat, (t : Int) < x2.toInt → 0 ≤ (I 85 t).toInt ∧ (I 85 t).toInt < (I 83 4).toInt) → (∀ t : Nat, t < 11 → 0 ≤ (I 85 t).toInt ∧ (I 85 t).toInt ≤ 11 - 1) → (∀ I' : sm_I, kl_bl 83 84 85 86 87 I I' → kl_nb I' 83 → (I' 83 4).toInt ≤ 11 → (∀ t : Nat, (t : Int) < (I' 83 4).toInt → 0 ≤ (I' 85 t).toInt ∧ (I' 85 t).toInt < (I' 83 4).toInt) → (∀ t : Nat, t < 11 → 0 ≤ (I' 85 t).toInt ∧ (I' 85 t).toInt ≤ 11 - 1) → Φ (none, (xLay, I', L, kR 83 R))) → sm_wp sm_P S d 247 4 [.ref 83, .int x2] [] (xLay, I, L, kR 83 R) (0, 0) Φ := by
  intro k
  induction k with
  | zero =>
    intro I x2 hn hw h0 hk h1 h2 h
    refine k83_blank_4 ⟨fun _ => h I (fun _ _ _ _ _ _ _ => rfl) hn hw (fun t ht => h1 t (by omega)) h2, fun q => ?_⟩
    have := kl_nle q
    omega
  | succ k ih =>
    intro I x2 hn hw h0 hk h1 h2 h
    refine k83_blank_4 ⟨fun q => h I (fun _ _ _ _ _ _ _ => rfl) hn hw (fun t ht => h1 t (by have := kl_le.mp q; omega)) h2, fun q => ?_⟩
    have q := kl_nle q
    have e := kl_inc h0 q
    have n2 := kl_nat h0
    have v : vp_in x2 11 := kl_in h0 (by omega)
    refine ⟨v, fun I1 e1 => ⟨v, fun I2 e2 => ⟨v, fun I3 e3 => ?_⟩⟩⟩
    have f1 : ∀ c, c ≠ 85 → I1 c = I c := fun c hc => by rw [e1]; unfold sm_up; simp [hc]
    have f2 : ∀ c, c ≠ 86 → I2 c = I1 c := fun c hc => by rw [e2]; unfold sm_up; simp [hc]
    have f3 : ∀ c, c ≠ 87 → I3 c = I2 c := fun c hc => by rw [e3]; unfold sm_up; simp [hc]
    have g : ∀ c, c ≠ 85 → c ≠ 86 → c ≠ 87 → I3 c = I c := fun c h1 h2 h3 => by rw [f3 c h3, f2 c h2, f1 c h1]
    have gP : I3 83 = I 83 := g 83 (by decide) (by decide) (by decide)
    have gS : ∀ t, I3 85 t = if t = x2.toNatClampNeg then x2 else I 85 t := fun t => by
      rw [f3 85 (by decide), f2 85 (by decide), e1]; unfold sm_up; simp
    have n3 : kl_nb I3 83 := by unfold kl_nb; rw [gP]; exact hn
    refine n83_bl6 (I 83 4).toInt.toNat I3 0 n3 h0 (by rw [gP]; exact q) (by rw [kl_0]; omega) (by rw [gP, kl_0]; omega) (fun I4 o => ?_)
    have oP : I4 83 4 = I 83 4 := by rw [o 83 4 (by decide), gP]
    have oS : ∀ t, I4 85 t = if t = x2.toNatClampNeg then x2 else I 85 t := fun t => by rw [o 85 t (by decide)]; exact gS t
    refine ih I4 (x2 + 1) (kl_only_nb o (by decide) n3) (by rw [oP]; exact hw) (by omega) (by rw [oP]; omega) (fun t ht => ?_) (fun t ht => ?_) (fun I' b => h I' (fun c j c1 c2 c3 c4 c5 => ?_))
    · rw [oS, oP]
      by_cases et : t = x2.toNatClampNeg
      · rw [if_pos et]; omega
      · rw [if_neg et]; exact h1 t (by omega)
    · rw [oS]
      by_cases et : t = x2.toNatClampNeg
      · rw [if_pos et]; omega
      · rw [if_neg et]; exact h2 t ht
    · rw [b c j c1 c2 c3 c4 c5, o c j c1, g c c2 c3 c4]
theorem n83_blank {S : sm_C} {d : Nat} {Φ : sm_Z → Prop} {I : sm_I} {L : sm_L} {R : sm_R} {x1 : Int32} (h2 : ∀ t : Nat, t < 11 → 0 ≤ (I 85 t).toInt ∧ (I 85 t).toInt ≤ 11 - 1) (h0 : Φ (none, (xLay, I, L, kR 83 R))) (h : ∀ I' : sm_I, kl_bl 83 84 85 86 87 I I' → kl_nb I' 83 → (I' 83 4).toInt ≤ 11 → (∀ t : Nat, (t : Int) < (I' 83 4).toInt → 0 ≤ (I' 85 t).toInt ∧ (I' 85 t).toInt < (I' 83 4).toInt) → (∀ t : Nat, t < 11 → 0 ≤ (I' 85 t).toInt ∧ (I' 85 t).toInt ≤ 11 - 1) → Φ (none, (xLay, I', L, kR 83 R))) : sm_wp sm_P S d 247 0 [.ref 83, .int x1] [] (xLay, I, L, kR 83 R) (0, 0) Φ := by
  refine k83_blank_0 ⟨fun _ => h0, fun a => ⟨fun b I1 e1 => ?_, fun _ => h0⟩⟩
  have a := kl_nlt a
  rw [kl_1] at a
  have b := kl_le.mp b
  have eW : (Int32.ofNat 11).toInt = 11 := by decide
  rw [eW] at b
  have q := kl_sq a (show x1.toInt ≤ 12 by omega)
  have m : (x1 * x1).toInt = x1.toInt * x1.toInt := kl_mul (by omega) (by omega)
  have g4 : I1 83 4 = x1 := by rw [e1]; simp [sm_up]
  have g5 : I1 83 5 = x1 * x1 := by rw [e1]; simp [sm_up]
  have gS : I1 85 = I 85 := by rw [e1]; simp [sm_up]
  have gO : ∀ c j, ¬ (c = 83 ∧ (j = 4 ∨ j = 5)) → I1 c j = I c j := by
    intro c j hc
    rw [e1]
    rw [en_up_ne _ _ _ _ (fun q => hc ⟨q.1, Or.inr q.2⟩), en_up_ne _ _ _ _ (fun q => hc ⟨q.1, Or.inl q.2⟩)]
  have n1 : kl_nb I1 83 := ⟨by rw [g4]; exact a, by rw [g4]; omega, by rw [g4, g5]; exact m⟩
  refine n83_bl4 (I1 83 4).toInt.toNat I1 0 n1 (by rw [g4]; exact b) (by rw [kl_0]; omega) (by rw [kl_0]; omega) (fun t ht => by rw [kl_0] at ht; omega) (fun t ht => by rw [gS]; exact h2 t ht) (fun I' c => h I' (fun x j c1 c2 c3 c4 c5 => ?_))
  rw [c x j c1 c2 c3 c4 c5, gO x j c5]
/-! the net 91: loose and blank -/
theorem n91_loose {S : sm_C} {d : Nat} {Φ : sm_Z → Prop} {I : sm_I} {L : sm_L} {R : sm_R} {x1 x2 x3 x4 : Int32} (hw : (I 91 4).toInt ≤ 12) (h : ∀ I' : sm_I, kl_bl 91 92 93 94 95 I I' → I' 91 4 = I 91 4 → I' 91 5 = I 91 5 → (∀ c, c ≠ 93 → c ≠ 94 → c ≠ 95 → I' c = I c) → (∀ t, I' 93 t = I 93 t ∨ (0 ≤ (I' 93 t).toInt ∧ (I' 93 t).toInt < (I 91 4).toInt)) → Φ (none, (xLay, I', L, kR 91 R))) : sm_wp sm_P S (d + 1) 254 0 [.ref 91, .int x1, .int x2, .int x3, .int x4] [] (xLay, I, L, kR 91 R) (0, 0) Φ := by
  have no : Φ (none, (xLay, I, L, kR 91 R)) := h I (fun _ _ _ _ _ _ _ => rfl) rfl rfl (fun _ _ _ _ => rfl) (fun _ => Or.inl rfl)
  refine k91_loose_0 (n91_node (fun r hr => ⟨r, I, L, rfl, fun _ => no, fun h1 => n91_node (fun r2 hr2 => ⟨r2, I, L, rfl, fun _ => no, fun h2 => ?_⟩)⟩))
  obtain ⟨a0, a1⟩ := hr.resolve_left h1
  obtain ⟨b0, b1⟩ := hr2.resolve_left h2
  have v : vp_in x1 12 := kl_in a0 (by omega)
  refine ⟨v, fun I7 e7 => ⟨v, fun I8 e8 => ⟨v, fun I9 e9 => ?_⟩⟩⟩
  have f7 : ∀ c, c ≠ 93 → I7 c = I c := fun c hc => by rw [e7]; unfold sm_up; simp [hc]
  have f8 : ∀ c, c ≠ 94 → I8 c = I7 c := fun c hc => by rw [e8]; unfold sm_up; simp [hc]
  have f9 : ∀ c, c ≠ 95 → I9 c = I8 c := fun c hc => by rw [e9]; unfold sm_up; simp [hc]
  have g : ∀ c, c ≠ 93 → c ≠ 94 → c ≠ 95 → I9 c = I c := fun c h1 h2 h3 => by rw [f9 c h3, f8 c h2, f7 c h1]
  refine h I9 (fun c j h1 h2 h3 h4 _ => by rw [g c h2 h3 h4]) (by rw [g 91 (by decide) (by decide) (by decide)]) (by rw [g 91 (by decide) (by decide) (by decide)]) g (fun t => ?_)
  rw [f9 93 (by decide), f8 93 (by decide), e7]
  unfold sm_up
  by_cases e : t = x1.toNatClampNeg
  · right; simp only [e, if_true]; exact ⟨b0, b1⟩
  · left; simp [e]
theorem n91_bl6 {S : sm_C} {d : Nat} {Φ : sm_Z → Prop} {L : sm_L} {R : sm_R} {x2 : Int32} : ∀ (k : Nat) (I : sm_I) (x3 : Int32), kl_nb I 91 → 0 ≤ x2.toInt → x2.toInt < (I 91 4).toInt → 0 ≤ x3.toInt → (I 91 4).toInt - x3.toInt ≤ k → (∀ I' : sm_I, kl_only 92 I I' → sm_wp sm_P S d 247 4 [.ref 91, .int (x2 + 1)] [] (xLay, I', L, kR 91 R) (0, 0) Φ) → sm_wp sm_P S d 247 6 [.ref 91, .int x2, .int x3] [] (xLay, I, L, kR 91 R) (0, 0) Φ := by
  intro k
  induction k with
  | zero =>
    intro I x3 hn a0 a1 h0 hk h
    refine k91_blank_6 ⟨fun _ => h _ kl_only_rf, fun h1 => ?_⟩
    have := kl_nle h1
    omega
  | succ k ih =>
    intro I x3 hn a0 a1 h0 hk h
    refine k91_blank_6 ⟨fun _ => h _ kl_only_rf, fun h1 => ?_⟩
    have h1 := kl_nle h1
    have e := kl_inc h0 h1
    have r := kl_row a0 a1
    have q := kl_sq hn.1 hn.2.1
    have m : (x2 * I 91 4).toInt = x2.toInt * (I 91 4).toInt := kl_mul (by omega) (by omega)
    have v : vp_in (x2 * I 91 4 + x3) 9504 := (kl_ix2 (r := x2 * I 91 4) (y := x3) (N := I 91 4) (n := 9504) (by omega) (by omega) (by decide) h0 h1).2
    have go : ∀ (x : Int32) (I1 : sm_I), I1 = sm_up I 92 (x2 * I 91 4 + x3).toNatClampNeg x → sm_wp sm_P S d 247 6 [.ref 91, .int x2, .int (x3 + 1)] [] (xLay, I1, L, kR 91 R) (0, 0) Φ := by
      intro x I1 e1
      have o : kl_only 92 I I1 := by rw [e1]; exact kl_only_up
      have o4 : I1 91 4 = I 91 4 := o 91 4 (by decide)
      exact ih I1 (x3 + 1) (kl_only_nb o (by decide) hn) a0 (by rw [o4]; exact a1) (by omega) (by rw [o4]; omega) (fun I' o' => h I' (kl_only_tr o o'))
    exact ⟨fun _ => ⟨v, go _⟩, fun _ => ⟨fun _ => ⟨v, go _⟩, fun _ => ⟨v, go _⟩⟩⟩
theorem n91_bl4 {S : sm_C} {d : Nat} {Φ : sm_Z → Prop} {L : sm_L} {R : sm_R} : ∀ (k : Nat) (I : sm_I) (x2 : Int32), kl_nb I 91 → (I 91 4).toInt ≤ 12 → 0 ≤ x2.toInt → (I 91 4).toInt - x2.toInt ≤ k → (∀ t : Nat, (t : Int) < x2.toInt → 0 ≤ (I 93 t).toInt ∧ (I 93 t).toInt < (I 91 4).toInt) → (∀ t : Nat, t < 12 → 0 ≤ (I 93 t).toInt ∧ (I 93 t).toInt ≤ 12 - 1) → (∀ I' : sm_I, kl_bl 91 92 93 94 95 I I' → kl_nb I' 91 → (I' 91 4).toInt ≤ 12 → (∀ t : Nat, (t : Int) < (I' 91 4).toInt → 0 ≤ (I' 93 t).toInt ∧ (I' 93 t).toInt < (I' 91 4).toInt) → (∀ t : Nat, t < 12 → 0 ≤ (I' 93 t).toInt ∧ (I' 93 t).toInt ≤ 12 - 1) → Φ (none, (xLay, I', L, kR 91 R))) → sm_wp sm_P S d 247 4 [.ref 91, .int x2] [] (xLay, I, L, kR 91 R) (0, 0) Φ := by
  intro k
  induction k with
  | zero =>
    intro I x2 hn hw h0 hk h1 h2 h
    refine k91_blank_4 ⟨fun _ => h I (fun _ _ _ _ _ _ _ => rfl) hn hw (fun t ht => h1 t (by omega)) h2, fun q => ?_⟩
    have := kl_nle q
    omega
  | succ k ih =>
    intro I x2 hn hw h0 hk h1 h2 h
    refine k91_blank_4 ⟨fun q => h I (fun _ _ _ _ _ _ _ => rfl) hn hw (fun t ht => h1 t (by have := kl_le.mp q; omega)) h2, fun q => ?_⟩
    have q := kl_nle q
    have e := kl_inc h0 q
    have n2 := kl_nat h0
    have v : vp_in x2 12 := kl_in h0 (by omega)
    refine ⟨v, fun I1 e1 => ⟨v, fun I2 e2 => ⟨v, fun I3 e3 => ?_⟩⟩⟩
    have f1 : ∀ c, c ≠ 93 → I1 c = I c := fun c hc => by rw [e1]; unfold sm_up; simp [hc]
    have f2 : ∀ c, c ≠ 94 → I2 c = I1 c := fun c hc => by rw [e2]; unfold sm_up; simp [hc]
    have f3 : ∀ c, c ≠ 95 → I3 c = I2 c := fun c hc => by rw [e3]; unfold sm_up; simp [hc]
    have g : ∀ c, c ≠ 93 → c ≠ 94 → c ≠ 95 → I3 c = I c := fun c h1 h2 h3 => by rw [f3 c h3, f2 c h2, f1 c h1]
    have gP : I3 91 = I 91 := g 91 (by decide) (by decide) (by decide)
    have gS : ∀ t, I3 93 t = if t = x2.toNatClampNeg then x2 else I 93 t := fun t => by
      rw [f3 93 (by decide), f2 93 (by decide), e1]; unfold sm_up; simp
    have n3 : kl_nb I3 91 := by unfold kl_nb; rw [gP]; exact hn
    refine n91_bl6 (I 91 4).toInt.toNat I3 0 n3 h0 (by rw [gP]; exact q) (by rw [kl_0]; omega) (by rw [gP, kl_0]; omega) (fun I4 o => ?_)
    have oP : I4 91 4 = I 91 4 := by rw [o 91 4 (by decide), gP]
    have oS : ∀ t, I4 93 t = if t = x2.toNatClampNeg then x2 else I 93 t := fun t => by rw [o 93 t (by decide)]; exact gS t
    refine ih I4 (x2 + 1) (kl_only_nb o (by decide) n3) (by rw [oP]; exact hw) (by omega) (by rw [oP]; omega) (fun t ht => ?_) (fun t ht => ?_) (fun I' b => h I' (fun c j c1 c2 c3 c4 c5 => ?_))
    · rw [oS, oP]
      by_cases et : t = x2.toNatClampNeg
      · rw [if_pos et]; omega
      · rw [if_neg et]; exact h1 t (by omega)
    · rw [oS]
      by_cases et : t = x2.toNatClampNeg
      · rw [if_pos et]; omega
      · rw [if_neg et]; exact h2 t ht
    · rw [b c j c1 c2 c3 c4 c5, o c j c1, g c c2 c3 c4]
theorem n91_blank {S : sm_C} {d : Nat} {Φ : sm_Z → Prop} {I : sm_I} {L : sm_L} {R : sm_R} {x1 : Int32} (h2 : ∀ t : Nat, t < 12 → 0 ≤ (I 93 t).toInt ∧ (I 93 t).toInt ≤ 12 - 1) (h0 : Φ (none, (xLay, I, L, kR 91 R))) (h : ∀ I' : sm_I, kl_bl 91 92 93 94 95 I I' → kl_nb I' 91 → (I' 91 4).toInt ≤ 12 → (∀ t : Nat, (t : Int) < (I' 91 4).toInt → 0 ≤ (I' 93 t).toInt ∧ (I' 93 t).toInt < (I' 91 4).toInt) → (∀ t : Nat, t < 12 → 0 ≤ (I' 93 t).toInt ∧ (I' 93 t).toInt ≤ 12 - 1) → Φ (none, (xLay, I', L, kR 91 R))) : sm_wp sm_P S d 247 0 [.ref 91, .int x1] [] (xLay, I, L, kR 91 R) (0, 0) Φ := by
  refine k91_blank_0 ⟨fun _ => h0, fun a => ⟨fun b I1 e1 => ?_, fun _ => h0⟩⟩
  have a := kl_nlt a
  rw [kl_1] at a
  have b := kl_le.mp b
  have eW : (Int32.ofNat 12).toInt = 12 := by decide
  rw [eW] at b
  have q := kl_sq a (show x1.toInt ≤ 12 by omega)
  have m : (x1 * x1).toInt = x1.toInt * x1.toInt := kl_mul (by omega) (by omega)
  have g4 : I1 91 4 = x1 := by rw [e1]; simp [sm_up]
  have g5 : I1 91 5 = x1 * x1 := by rw [e1]; simp [sm_up]
  have gS : I1 93 = I 93 := by rw [e1]; simp [sm_up]
  have gO : ∀ c j, ¬ (c = 91 ∧ (j = 4 ∨ j = 5)) → I1 c j = I c j := by
    intro c j hc
    rw [e1]
    rw [en_up_ne _ _ _ _ (fun q => hc ⟨q.1, Or.inr q.2⟩), en_up_ne _ _ _ _ (fun q => hc ⟨q.1, Or.inl q.2⟩)]
  have n1 : kl_nb I1 91 := ⟨by rw [g4]; exact a, by rw [g4]; omega, by rw [g4, g5]; exact m⟩
  refine n91_bl4 (I1 91 4).toInt.toNat I1 0 n1 (by rw [g4]; exact b) (by rw [kl_0]; omega) (by rw [kl_0]; omega) (fun t ht => by rw [kl_0] at ht; omega) (fun t ht => by rw [gS]; exact h2 t ht) (fun I' c => h I' (fun x j c1 c2 c3 c4 c5 => ?_))
  rw [c x j c1 c2 c3 c4 c5, gO x j c5]
