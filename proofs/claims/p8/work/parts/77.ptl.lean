/-! the counts are cleared, and the whole syntax fault of the class -/
theorem t8_J7_fill_53178_0 {S : sm_C} {d : Nat} {Φ : sm_Z → Prop} {I : sm_I} {L : sm_L} {R : sm_R} {q : Nat} {x1 : Int32} (h : sm_wp sm_P S d 306 1 [.ref 8, .int x1, .int (0 : Int32), .int (Int32.ofNat 15)] [] (xLay, I, L, (kT q R)) (0, 0) Φ) : sm_wp sm_P S d 306 0 [.ref 8, .int x1] [] (xLay, I, L, (kT q R)) (0, 0) Φ := sm_wp_step (h)
theorem t8_J7_fill_53178_1 {S : sm_C} {d : Nat} {Φ : sm_Z → Prop} {I : sm_I} {L : sm_L} {R : sm_R} {q : Nat} {x1 : Int32} {x2 : Int32} {x3 : Int32} (h : ((x3 ≤ x2 → Φ (none, (xLay, I, L, (kT q R)))) ∧ (¬ x3 ≤ x2 → (vp_in x2 15) ∧ ∀ I1 : sm_I, I1 = (sm_up I 8 x2.toNatClampNeg x1) → sm_wp sm_P S d 306 1 [.ref 8, .int x1, .int (x2 + (1 : Int32)), .int x3] [] (xLay, I1, L, (kT q R)) (0, 0) Φ))) : sm_wp sm_P S d 306 1 [.ref 8, .int x1, .int x2, .int x3] [] (xLay, I, L, (kT q R)) (0, 0) Φ := sm_wp_step (⟨fun q2 => ((h).1 q2), fun q2 => ⟨(((h).2 q2)).1, ((((h).2 q2)).2 _ rfl)⟩⟩)
theorem ks_fill8 {S : sm_C} {d q : Nat} {Φ : sm_Z → Prop} {I0 : sm_I} {L : sm_L} {R : sm_R} {x1 : Int32} (h : ∀ J : sm_I, (∀ j, j < 15 → J 8 j = x1) → (∀ a j, a ≠ 8 → J a j = I0 a j) → Φ (none, (xLay, J, L, kT q R))) : ∀ (m i : Nat) (I : sm_I) (x2 : Int32), x2.toInt = i → i + m = 15 → (∀ j, j < i → I 8 j = x1) → (∀ a j, a ≠ 8 → I a j = I0 a j) → sm_wp sm_P S d 306 1 [.ref 8, .int x1, .int x2, .int (Int32.ofNat 15)] [] (xLay, I, L, kT q R) (0, 0) Φ := by
  have c15 : (Int32.ofNat 15).toInt = 15 := by decide
  intro m
  induction m with
  | zero =>
    intro i I x2 hx hm h1 h2
    refine t8_J7_fill_53178_1 ⟨fun _ => h I (fun j hj => h1 j (by omega)) h2, fun a => ?_⟩
    have := kl_nle a
    omega
  | succ m ih =>
    intro i I x2 hx hm h1 h2
    have nn := tk_nat hx
    have s := ml_in1 (x := x2) (by omega)
    refine t8_J7_fill_53178_1 ⟨fun a => ?_, fun _ => ⟨kl_in (by omega) (by omega), fun I1 e1 => ?_⟩⟩
    · have := kl_le.mp a
      omega
    · rw [nn] at e1
      refine ih (i + 1) I1 _ (by omega) (by omega) (fun j hj => ?_) (fun a j ha => ?_)
      · by_cases c : j = i
        · subst c; rw [e1, en_up_eq]
        · rw [e1, en_up_ne _ _ _ _ (by omega)]; exact h1 j (by omega)
      · rw [e1, en_up_ne _ _ _ _ (by omega)]; exact h2 a j ha
/-- the class's syntax fault: the grammar's first one -/
theorem ks_syn {S : sm_C} {d q : Nat} {Φ : sm_Z → Prop} {I : sm_I} {L : sm_L} {R : sm_R} {K : Nat → Int32} {c : Nat} (hc : (I 3 3).toInt = c) (c5 : c ≤ 501) (hK : ∀ i, i ≤ c → i ≤ 500 → I 4 i = K i) (hE : c ≤ 500 → K c = 21) (hN : ∀ i, i < c → K i ≠ 21) (h : ∀ (r : Int32) (J : sm_I), (∀ a j, a ≠ 7 → a ≠ 8 → ¬ (a = 2 ∧ j = 11) → J a j = I a j) → (SY K 501 0 0 gc0 = none → r = 0) → (∀ f j, SY K 501 0 0 gc0 = some (f, j) → r = f ∧ f ≠ 0 ∧ J 2 11 = I 5 j ∧ j ≤ 500) → Φ (some (.int r), (xLay, J, L, kT q R))) : sm_wp sm_P S (d + 2) 277 0 [.ref 2] [] (xLay, I, L, kT q R) (0, 0) Φ := by
  refine t_X7_syntaxFault_0 (t_X3_clear_0 (t8_J7_fill_53178_0 (ks_fill8 (I0 := I) (fun J h1 h2 => ⟨J, L, rfl, _, L, rfl, ?_⟩) 15 0 I 0 (by decide) (by decide) (fun j hj => absurd hj (Nat.not_lt_zero j)) (fun _ _ _ => rfl))))
  have fr : gfr I (sm_up J 7 1 (0 : Int32)) := fun a j a1 a2 => by rw [en_up_ne _ _ _ _ (by omega)]; exact h2 a j a2
  refine ks_syn1 (I0 := I) (K := K) (c := c) hc c5 hK hE hN h 501 0 _ 0 0 gc0 (by decide) (by decide) (by decide) (by omega) ⟨?_, fun j hj => ?_, fun z => absurd rfl z⟩ fr rfl
  · rw [en_up_eq]; rfl
  · rw [en_up_ne _ _ _ _ (by omega), h1 j hj]
    exact ⟨rfl, Nat.zero_le _⟩
/-- the rows that the scanner leaves are the stream's kinds -/
theorem tk_rK {b : Nat → Int32} {n c : Nat} {J : sm_I} {K : sm_L} (c5 : c ≤ 501) (hr : tk_rows b n c J K) (h21 : J 4 c = 21) (he : c ≤ 500 → tk_at b n c = n) : (∀ i, i ≤ c → i ≤ 500 → J 4 i = tk_K b n i) ∧ (c ≤ 500 → tk_K b n c = 21) := by
  have e : c ≤ 500 → tk_K b n c = 21 := fun q => by
    unfold tk_K; rw [he q, if_neg (by omega)]
  refine ⟨fun i hi h5 => ?_, e⟩
  rcases Nat.lt_or_ge i c with q | q
  · have := hr i q
    unfold tk_K; rw [if_pos this.1]; exact this.2.1
  · have : i = c := by omega
    subst this
    rw [h21, e (by omega)]
