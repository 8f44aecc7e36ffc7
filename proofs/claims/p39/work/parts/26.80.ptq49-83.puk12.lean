section
/-! more conditions, into = 49 (wip/pe/symq2.py) -/
theorem s49v18_X11_valueAt_0 {S : sm_C} {d : Nat} {Φ : sm_Z → Prop} {I : sm_I} {L : sm_L} {R : sm_R} {x1 : Int32} {x2 : Int32} (h : ((x1 < 0 → Φ (some (.int x2), (xLay, I, L, (kQ49 R)))) ∧ (¬ x1 < 0 → (((Int32.ofNat 10) ≤ x1 → Φ (some (.int x2), (xLay, I, L, (kQ49 R)))) ∧ (¬ (Int32.ofNat 10) ≤ x1 → (vp_in x1 10) ∧ Φ (some (.int (I 55 x1.toNatClampNeg)), (xLay, I, L, (kQ49 R)))))))) : sm_wp sm_P S d 89 0 [.ref 55, .int x1, .int x2] [] (xLay, I, L, (kQ49 R)) (0, 0) Φ := sm_wp_step (⟨fun q2 => ((h).1 q2), fun q2 => ⟨fun q1 => ((((h).2 q2)).1 q1), fun q1 => ⟨(((((h).2 q2)).2 q1)).1, (((((h).2 q2)).2 q1)).2⟩⟩⟩)
theorem s49v22_X11_valueAt_0 {S : sm_C} {d : Nat} {Φ : sm_Z → Prop} {I : sm_I} {L : sm_L} {R : sm_R} {x1 : Int32} {x2 : Int32} (h : ((x1 < 0 → Φ (some (.int x2), (xLay, I, L, (kQ49 R)))) ∧ (¬ x1 < 0 → (((Int32.ofNat 10) ≤ x1 → Φ (some (.int x2), (xLay, I, L, (kQ49 R)))) ∧ (¬ (Int32.ofNat 10) ≤ x1 → (vp_in x1 10) ∧ Φ (some (.int (I 59 x1.toNatClampNeg)), (xLay, I, L, (kQ49 R)))))))) : sm_wp sm_P S d 89 0 [.ref 59, .int x1, .int x2] [] (xLay, I, L, (kQ49 R)) (0, 0) Φ := sm_wp_step (⟨fun q2 => ((h).1 q2), fun q2 => ⟨fun q1 => ((((h).2 q2)).1 q1), fun q1 => ⟨(((((h).2 q2)).2 q1)).1, (((((h).2 q2)).2 q1)).2⟩⟩⟩)
theorem s49c16_X8_hasRow_0 {S : sm_C} {d : Nat} {Φ : sm_Z → Prop} {I : sm_I} {L : sm_L} {R : sm_R} {x1 : Int32} (h : ((x1 < 0 → Φ (some (.int (0 : Int32)), (xLay, I, L, (kQ49 R)))) ∧ (¬ x1 < 0 → (((Int32.ofNat 10) ≤ x1 → Φ (some (.int (0 : Int32)), (xLay, I, L, (kQ49 R)))) ∧ (¬ (Int32.ofNat 10) ≤ x1 → Φ (some (.int (1 : Int32)), (xLay, I, L, (kQ49 R)))))))) : sm_wp sm_P S d 287 0 [.ref 53, .int x1] [] (xLay, I, L, (kQ49 R)) (0, 0) Φ := sm_wp_step (⟨fun q2 => ⟨Or.inl rfl, ((h).1 q2)⟩, fun q2 => ⟨fun q1 => ⟨Or.inl rfl, ((((h).2 q2)).1 q1)⟩, fun q1 => ⟨Or.inr rfl, ((((h).2 q2)).2 q1)⟩⟩⟩)
theorem s49c16_X8_put_0 {S : sm_C} {d : Nat} {Φ : sm_Z → Prop} {I : sm_I} {L : sm_L} {R : sm_R} {x1 : Int32} {x2 : Int32} {x3 : Int32} (h : sm_wp sm_P S d 287 0 [.ref 53, .int x1] [] (xLay, I, L, (kQ49 R)) (0, 0) (fun z => ∃ (r3 : Int32) (I1 : sm_I) (L2 : sm_L), z = (some (.int r3), (xLay, I1, L2, (kQ49 R))) ∧ ((r3 = 0 → Φ (none, (xLay, I1, L2, (kQ49 R)))) ∧ (¬ r3 = 0 → (vp_in x1 10) ∧ ∀ I4 : sm_I, I4 = (sm_up I1 54 x1.toNatClampNeg x2) → (vp_in x1 10) ∧ ∀ I5 : sm_I, I5 = (sm_up I4 55 x1.toNatClampNeg x3) → Φ (none, (xLay, I5, L2, (kQ49 R))))))) : sm_wp sm_P S (d + 1) 294 0 [.ref 53, .int x1, .int x2, .int x3] [] (xLay, I, L, (kQ49 R)) (0, 0) Φ := sm_wp_step (sm_ci0 (h) (fun r3 I1 L2 q7 => ⟨fun q6 => ((q7).1 q6), fun q6 => ⟨(((q7).2 q6)).1, ⟨(((((q7).2 q6)).2 _ rfl)).1, ((((((q7).2 q6)).2 _ rfl)).2 _ rfl)⟩⟩⟩))
theorem s49c16_X8_bound_0 {S : sm_C} {d : Nat} {Φ : sm_Z → Prop} {I : sm_I} {L : sm_L} {R : sm_R} {x1 : Int32} {x2 : Int32} {x3 : Int32} (h : sm_wp sm_P S d 287 0 [.ref 53, .int x1] [] (xLay, I, L, (kQ49 R)) (0, 0) (fun z => ∃ (r3 : Int32) (I1 : sm_I) (L2 : sm_L), z = (some (.int r3), (xLay, I1, L2, (kQ49 R))) ∧ ((r3 = 0 → Φ (none, (xLay, I1, L2, (kQ49 R)))) ∧ (¬ r3 = 0 → (vp_in x1 10) ∧ ∀ I4 : sm_I, I4 = (sm_up I1 56 x1.toNatClampNeg x2) → (vp_in x1 10) ∧ ∀ I5 : sm_I, I5 = (sm_up I4 57 x1.toNatClampNeg x3) → Φ (none, (xLay, I5, L2, (kQ49 R))))))) : sm_wp sm_P S (d + 1) 286 0 [.ref 53, .int x1, .int x2, .int x3] [] (xLay, I, L, (kQ49 R)) (0, 0) Φ := sm_wp_step (sm_ci0 (h) (fun r3 I1 L2 q7 => ⟨fun q6 => ((q7).1 q6), fun q6 => ⟨(((q7).2 q6)).1, ⟨(((((q7).2 q6)).2 _ rfl)).1, ((((((q7).2 q6)).2 _ rfl)).2 _ rfl)⟩⟩⟩))
theorem s49c24_X8_hasRow_0 {S : sm_C} {d : Nat} {Φ : sm_Z → Prop} {I : sm_I} {L : sm_L} {R : sm_R} {x1 : Int32} (h : ((x1 < 0 → Φ (some (.int (0 : Int32)), (xLay, I, L, (kQ49 R)))) ∧ (¬ x1 < 0 → (((Int32.ofNat 120) ≤ x1 → Φ (some (.int (0 : Int32)), (xLay, I, L, (kQ49 R)))) ∧ (¬ (Int32.ofNat 120) ≤ x1 → Φ (some (.int (1 : Int32)), (xLay, I, L, (kQ49 R)))))))) : sm_wp sm_P S d 287 0 [.ref 61, .int x1] [] (xLay, I, L, (kQ49 R)) (0, 0) Φ := sm_wp_step (⟨fun q2 => ⟨Or.inl rfl, ((h).1 q2)⟩, fun q2 => ⟨fun q1 => ⟨Or.inl rfl, ((((h).2 q2)).1 q1)⟩, fun q1 => ⟨Or.inr rfl, ((((h).2 q2)).2 q1)⟩⟩⟩)
theorem s49c24_X8_put_0 {S : sm_C} {d : Nat} {Φ : sm_Z → Prop} {I : sm_I} {L : sm_L} {R : sm_R} {x1 : Int32} {x2 : Int32} {x3 : Int32} (h : sm_wp sm_P S d 287 0 [.ref 61, .int x1] [] (xLay, I, L, (kQ49 R)) (0, 0) (fun z => ∃ (r3 : Int32) (I1 : sm_I) (L2 : sm_L), z = (some (.int r3), (xLay, I1, L2, (kQ49 R))) ∧ ((r3 = 0 → Φ (none, (xLay, I1, L2, (kQ49 R)))) ∧ (¬ r3 = 0 → (vp_in x1 120) ∧ ∀ I4 : sm_I, I4 = (sm_up I1 62 x1.toNatClampNeg x2) → (vp_in x1 120) ∧ ∀ I5 : sm_I, I5 = (sm_up I4 63 x1.toNatClampNeg x3) → Φ (none, (xLay, I5, L2, (kQ49 R))))))) : sm_wp sm_P S (d + 1) 294 0 [.ref 61, .int x1, .int x2, .int x3] [] (xLay, I, L, (kQ49 R)) (0, 0) Φ := sm_wp_step (sm_ci0 (h) (fun r3 I1 L2 q7 => ⟨fun q6 => ((q7).1 q6), fun q6 => ⟨(((q7).2 q6)).1, ⟨(((((q7).2 q6)).2 _ rfl)).1, ((((((q7).2 q6)).2 _ rfl)).2 _ rfl)⟩⟩⟩))
theorem s49c24_X8_bound_0 {S : sm_C} {d : Nat} {Φ : sm_Z → Prop} {I : sm_I} {L : sm_L} {R : sm_R} {x1 : Int32} {x2 : Int32} {x3 : Int32} (h : sm_wp sm_P S d 287 0 [.ref 61, .int x1] [] (xLay, I, L, (kQ49 R)) (0, 0) (fun z => ∃ (r3 : Int32) (I1 : sm_I) (L2 : sm_L), z = (some (.int r3), (xLay, I1, L2, (kQ49 R))) ∧ ((r3 = 0 → Φ (none, (xLay, I1, L2, (kQ49 R)))) ∧ (¬ r3 = 0 → (vp_in x1 120) ∧ ∀ I4 : sm_I, I4 = (sm_up I1 64 x1.toNatClampNeg x2) → (vp_in x1 120) ∧ ∀ I5 : sm_I, I5 = (sm_up I4 65 x1.toNatClampNeg x3) → Φ (none, (xLay, I5, L2, (kQ49 R))))))) : sm_wp sm_P S (d + 1) 286 0 [.ref 61, .int x1, .int x2, .int x3] [] (xLay, I, L, (kQ49 R)) (0, 0) Φ := sm_wp_step (sm_ci0 (h) (fun r3 I1 L2 q7 => ⟨fun q6 => ((q7).1 q6), fun q6 => ⟨(((q7).2 q6)).1, ⟨(((((q7).2 q6)).2 _ rfl)).1, ((((((q7).2 q6)).2 _ rfl)).2 _ rfl)⟩⟩⟩))
theorem s49c29_X8_hasRow_0 {S : sm_C} {d : Nat} {Φ : sm_Z → Prop} {I : sm_I} {L : sm_L} {R : sm_R} {x1 : Int32} (h : ((x1 < 0 → Φ (some (.int (0 : Int32)), (xLay, I, L, (kQ49 R)))) ∧ (¬ x1 < 0 → (((Int32.ofNat 5) ≤ x1 → Φ (some (.int (0 : Int32)), (xLay, I, L, (kQ49 R)))) ∧ (¬ (Int32.ofNat 5) ≤ x1 → Φ (some (.int (1 : Int32)), (xLay, I, L, (kQ49 R)))))))) : sm_wp sm_P S d 287 0 [.ref 66, .int x1] [] (xLay, I, L, (kQ49 R)) (0, 0) Φ := sm_wp_step (⟨fun q2 => ⟨Or.inl rfl, ((h).1 q2)⟩, fun q2 => ⟨fun q1 => ⟨Or.inl rfl, ((((h).2 q2)).1 q1)⟩, fun q1 => ⟨Or.inr rfl, ((((h).2 q2)).2 q1)⟩⟩⟩)
theorem s49c29_X8_put_0 {S : sm_C} {d : Nat} {Φ : sm_Z → Prop} {I : sm_I} {L : sm_L} {R : sm_R} {x1 : Int32} {x2 : Int32} {x3 : Int32} (h : sm_wp sm_P S d 287 0 [.ref 66, .int x1] [] (xLay, I, L, (kQ49 R)) (0, 0) (fun z => ∃ (r3 : Int32) (I1 : sm_I) (L2 : sm_L), z = (some (.int r3), (xLay, I1, L2, (kQ49 R))) ∧ ((r3 = 0 → Φ (none, (xLay, I1, L2, (kQ49 R)))) ∧ (¬ r3 = 0 → (vp_in x1 5) ∧ ∀ I4 : sm_I, I4 = (sm_up I1 67 x1.toNatClampNeg x2) → (vp_in x1 5) ∧ ∀ I5 : sm_I, I5 = (sm_up I4 68 x1.toNatClampNeg x3) → Φ (none, (xLay, I5, L2, (kQ49 R))))))) : sm_wp sm_P S (d + 1) 294 0 [.ref 66, .int x1, .int x2, .int x3] [] (xLay, I, L, (kQ49 R)) (0, 0) Φ := sm_wp_step (sm_ci0 (h) (fun r3 I1 L2 q7 => ⟨fun q6 => ((q7).1 q6), fun q6 => ⟨(((q7).2 q6)).1, ⟨(((((q7).2 q6)).2 _ rfl)).1, ((((((q7).2 q6)).2 _ rfl)).2 _ rfl)⟩⟩⟩))
theorem s49c29_X8_bound_0 {S : sm_C} {d : Nat} {Φ : sm_Z → Prop} {I : sm_I} {L : sm_L} {R : sm_R} {x1 : Int32} {x2 : Int32} {x3 : Int32} (h : sm_wp sm_P S d 287 0 [.ref 66, .int x1] [] (xLay, I, L, (kQ49 R)) (0, 0) (fun z => ∃ (r3 : Int32) (I1 : sm_I) (L2 : sm_L), z = (some (.int r3), (xLay, I1, L2, (kQ49 R))) ∧ ((r3 = 0 → Φ (none, (xLay, I1, L2, (kQ49 R)))) ∧ (¬ r3 = 0 → (vp_in x1 5) ∧ ∀ I4 : sm_I, I4 = (sm_up I1 69 x1.toNatClampNeg x2) → (vp_in x1 5) ∧ ∀ I5 : sm_I, I5 = (sm_up I4 70 x1.toNatClampNeg x3) → Φ (none, (xLay, I5, L2, (kQ49 R))))))) : sm_wp sm_P S (d + 1) 286 0 [.ref 66, .int x1, .int x2, .int x3] [] (xLay, I, L, (kQ49 R)) (0, 0) Φ := sm_wp_step (sm_ci0 (h) (fun r3 I1 L2 q7 => ⟨fun q6 => ((q7).1 q6), fun q6 => ⟨(((q7).2 q6)).1, ⟨(((((q7).2 q6)).2 _ rfl)).1, ((((((q7).2 q6)).2 _ rfl)).2 _ rfl)⟩⟩⟩))
theorem s49_X10_addPath_0 {S : sm_C} {d : Nat} {Φ : sm_Z → Prop} {I : sm_I} {L : sm_L} {R : sm_R} {x1 : Int32} {x2 : Int32} {x3 : Int32} (h : ((x1 < 0 → Φ (none, (xLay, I, L, (kQ49 R)))) ∧ (¬ x1 < 0 → (((6 : Int32) ≤ x1 → Φ (none, (xLay, I, L, (kQ49 R)))) ∧ (¬ (6 : Int32) ≤ x1 → ((x2 < 0 → Φ (none, (xLay, I, L, (kQ49 R)))) ∧ (¬ x2 < 0 → ((x2 < (6 : Int32) → (vp_in ((x1 * (6 : Int32)) + x2) 36) ∧ ∀ n1 : Int32, n1 = (I 50 ((x1 * (6 : Int32)) + x2).toNatClampNeg) → ((n1 < 0 → (vp_in ((x1 * (6 : Int32)) + x2) 36) ∧ ∀ I2 : sm_I, I2 = (sm_up I 50 ((x1 * (6 : Int32)) + x2).toNatClampNeg x3) → (vp_in ((x2 * (6 : Int32)) + x1) 36) ∧ ∀ I3 : sm_I, I3 = (sm_up I2 50 ((x2 * (6 : Int32)) + x1).toNatClampNeg x3) → Φ (none, (xLay, I3, L, (kQ49 R)))) ∧ (¬ n1 < 0 → ((n1 ≤ x3 → Φ (none, (xLay, I, L, (kQ49 R)))) ∧ (¬ n1 ≤ x3 → (vp_in ((x1 * (6 : Int32)) + x2) 36) ∧ ∀ I4 : sm_I, I4 = (sm_up I 50 ((x1 * (6 : Int32)) + x2).toNatClampNeg x3) → (vp_in ((x2 * (6 : Int32)) + x1) 36) ∧ ∀ I5 : sm_I, I5 = (sm_up I4 50 ((x2 * (6 : Int32)) + x1).toNatClampNeg x3) → Φ (none, (xLay, I5, L, (kQ49 R)))))))) ∧ (¬ x2 < (6 : Int32) → Φ (none, (xLay, I, L, (kQ49 R)))))))))))) : sm_wp sm_P S d 13 0 [.ref 49, .int x1, .int x2, .int x3] [] (xLay, I, L, (kQ49 R)) (0, 0) Φ := sm_wp_step (⟨fun q11 => ((h).1 q11), fun q11 => ⟨fun q10 => ((((h).2 q11)).1 q10), fun q10 => ⟨fun q9 => ((((((h).2 q11)).2 q10)).1 q9), fun q9 => ⟨fun q8 => ⟨(((((((((h).2 q11)).2 q10)).2 q9)).1 q8)).1, ⟨fun q7 => ⟨(((((((((((((h).2 q11)).2 q10)).2 q9)).1 q8)).2 _ rfl)).1 q7)).1, ⟨(((((((((((((((h).2 q11)).2 q10)).2 q9)).1 q8)).2 _ rfl)).1 q7)).2 _ rfl)).1, ((((((((((((((((h).2 q11)).2 q10)).2 q9)).1 q8)).2 _ rfl)).1 q7)).2 _ rfl)).2 _ rfl)⟩⟩, fun q7 => ⟨fun q6 => ((((((((((((((h).2 q11)).2 q10)).2 q9)).1 q8)).2 _ rfl)).2 q7)).1 q6), fun q6 => ⟨(((((((((((((((h).2 q11)).2 q10)).2 q9)).1 q8)).2 _ rfl)).2 q7)).2 q6)).1, ⟨(((((((((((((((((h).2 q11)).2 q10)).2 q9)).1 q8)).2 _ rfl)).2 q7)).2 q6)).2 _ rfl)).1, ((((((((((((((((((h).2 q11)).2 q10)).2 q9)).1 q8)).2 _ rfl)).2 q7)).2 q6)).2 _ rfl)).2 _ rfl)⟩⟩⟩⟩⟩, fun q8 => ((((((((h).2 q11)).2 q10)).2 q9)).2 q8)⟩⟩⟩⟩)
theorem s49_X10_walkBetween_0 {S : sm_C} {d : Nat} {Φ : sm_Z → Prop} {I : sm_I} {L : sm_L} {R : sm_R} {x1 : Int32} {x2 : Int32} (h : ((x1 < 0 → Φ (some (.int (-2 : Int32)), (xLay, I, L, (kQ49 R)))) ∧ (¬ x1 < 0 → (((6 : Int32) ≤ x1 → Φ (some (.int (-2 : Int32)), (xLay, I, L, (kQ49 R)))) ∧ (¬ (6 : Int32) ≤ x1 → ((x2 < 0 → Φ (some (.int (-2 : Int32)), (xLay, I, L, (kQ49 R)))) ∧ (¬ x2 < 0 → ((x2 < (6 : Int32) → (vp_in ((x1 * (6 : Int32)) + x2) 36) ∧ Φ (some (.int (I 50 ((x1 * (6 : Int32)) + x2).toNatClampNeg)), (xLay, I, L, (kQ49 R)))) ∧ (¬ x2 < (6 : Int32) → Φ (some (.int (-2 : Int32)), (xLay, I, L, (kQ49 R)))))))))))) : sm_wp sm_P S d 27 0 [.ref 49, .int x1, .int x2] [] (xLay, I, L, (kQ49 R)) (0, 0) Φ := sm_wp_step (⟨fun q4 => ((h).1 q4), fun q4 => ⟨fun q3 => ((((h).2 q4)).1 q3), fun q3 => ⟨fun q2 => ((((((h).2 q4)).2 q3)).1 q2), fun q2 => ⟨fun q1 => ⟨(((((((((h).2 q4)).2 q3)).2 q2)).1 q1)).1, (((((((((h).2 q4)).2 q3)).2 q2)).1 q1)).2⟩, fun q1 => ((((((((h).2 q4)).2 q3)).2 q2)).2 q1)⟩⟩⟩⟩)
theorem s49_X10_clear_0 {S : sm_C} {d : Nat} {Φ : sm_Z → Prop} {I : sm_I} {L : sm_L} {R : sm_R} (h : ∀ I1 : sm_I, I1 = (sm_up (sm_up I 49 0 (0 : Int32)) 49 1 (0 : Int32)) → ∀ I2 : sm_I, I2 = (sm_up (sm_up I1 49 2 (0 : Int32)) 49 3 (0 : Int32)) → ∀ I3 : sm_I, I3 = (sm_up (sm_up I2 49 4 (0 : Int32)) 49 5 (0 : Int32)) → sm_wp sm_P S d 306 0 [.ref 50, .int (-2 : Int32)] [] (xLay, (sm_up I3 49 6 (0 : Int32)), L, (kQ49 R)) (0, 0) (fun z => ∃ (I4 : sm_I) (L5 : sm_L), z = (none, (xLay, I4, L5, (kQ49 R))) ∧ sm_wp sm_P S (d + 1) 16 1 [.ref 49, .int (0 : Int32)] [] (xLay, I4, L5, (kQ49 R)) (0, 0) Φ)) : sm_wp sm_P S (d + 1) 16 0 [.ref 49] [] (xLay, I, L, (kQ49 R)) (0, 0) Φ := sm_wp_step (sm_cv0 ((((h _ rfl) _ rfl) _ rfl)) (fun I4 L5 q7 => q7))
theorem s49_X10_clear_1 {S : sm_C} {d : Nat} {Φ : sm_Z → Prop} {I : sm_I} {L : sm_L} {R : sm_R} {x1 : Int32} (h : (((6 : Int32) ≤ x1 → sm_wp sm_P S d 306 0 [.ref 51, .int (-1 : Int32)] [] (xLay, I, L, (kQ49 R)) (0, 0) (fun z => ∃ (I1 : sm_I) (L2 : sm_L), z = (none, (xLay, I1, L2, (kQ49 R))) ∧ sm_wp sm_P S d 306 0 [.ref 52, .int (-1 : Int32)] [] (xLay, I1, L2, (kQ49 R)) (0, 0) (fun z => ∃ (I4 : sm_I) (L5 : sm_L), z = (none, (xLay, I4, L5, (kQ49 R))) ∧ sm_wp sm_P S d 306 0 [.ref 55, .int (-1 : Int32)] [] (xLay, I4, L5, (kQ49 R)) (0, 0) (fun z => ∃ (I7 : sm_I) (L8 : sm_L), z = (none, (xLay, I7, L8, (kQ49 R))) ∧ sm_wp sm_P S d 306 0 [.ref 58, .int (1 : Int32)] [] (xLay, I7, L8, (kQ49 R)) (0, 0) (fun z => ∃ (I10 : sm_I) (L11 : sm_L), z = (none, (xLay, I10, L11, (kQ49 R))) ∧ sm_wp sm_P S d 306 0 [.ref 59, .int (0 : Int32)] [] (xLay, I10, L11, (kQ49 R)) (0, 0) (fun z => ∃ (I13 : sm_I) (L14 : sm_L), z = (none, (xLay, I13, L14, (kQ49 R))) ∧ sm_wp sm_P S d 306 0 [.ref 60, .int (0 : Int32)] [] (xLay, I13, L14, (kQ49 R)) (0, 0) (fun z => ∃ (I16 : sm_I) (L17 : sm_L), z = (none, (xLay, I16, L17, (kQ49 R))) ∧ Φ (none, (xLay, I16, L17, (kQ49 R)))))))))) ∧ (¬ (6 : Int32) ≤ x1 → (vp_in ((x1 * (6 : Int32)) + x1) 36) ∧ ∀ I25 : sm_I, I25 = (sm_up I 50 ((x1 * (6 : Int32)) + x1).toNatClampNeg (0 : Int32)) → sm_wp sm_P S (d + 1) 16 1 [.ref 49, .int (x1 + (1 : Int32))] [] (xLay, I25, L, (kQ49 R)) (0, 0) Φ))) : sm_wp sm_P S (d + 1) 16 1 [.ref 49, .int x1] [] (xLay, I, L, (kQ49 R)) (0, 0) Φ := sm_wp_step (⟨fun q26 => sm_cv0 (((h).1 q26)) (fun I1 L2 q24 => sm_cv0 (q24) (fun I4 L5 q23 => sm_cv0 (q23) (fun I7 L8 q22 => sm_cv0 (q22) (fun I10 L11 q21 => sm_cv0 (q21) (fun I13 L14 q20 => sm_cv0 (q20) (fun I16 L17 q19 => q19)))))), fun q26 => ⟨(((h).2 q26)).1, ((((h).2 q26)).2 _ rfl)⟩⟩)
theorem s49_X10_findWalks_0 {S : sm_C} {d : Nat} {Φ : sm_Z → Prop} {I : sm_I} {L : sm_L} {R : sm_R} (h : sm_wp sm_P S (d + 1) 18 1 [.ref 49, .int (0 : Int32)] [] (xLay, I, L, (kQ49 R)) (0, 0) Φ) : sm_wp sm_P S (d + 1) 18 0 [.ref 49] [] (xLay, I, L, (kQ49 R)) (0, 0) Φ := sm_wp_step (h)
theorem s49_X10_findWalks_1 {S : sm_C} {d : Nat} {Φ : sm_Z → Prop} {I : sm_I} {L : sm_L} {R : sm_R} {x1 : Int32} (h : (((I 49 1) ≤ x1 → Φ (none, (xLay, I, L, (kQ49 R)))) ∧ (¬ (I 49 1) ≤ x1 → sm_wp sm_P S (d + 1) 18 3 [.ref 49, .int x1, .int (0 : Int32)] [] (xLay, I, L, (kQ49 R)) (0, 0) Φ))) : sm_wp sm_P S (d + 1) 18 1 [.ref 49, .int x1] [] (xLay, I, L, (kQ49 R)) (0, 0) Φ := sm_wp_step (⟨fun q1 => ((h).1 q1), fun q1 => ((h).2 q1)⟩)
theorem s49_X10_findWalks_3 {S : sm_C} {d : Nat} {Φ : sm_Z → Prop} {I : sm_I} {L : sm_L} {R : sm_R} {x1 : Int32} {x2 : Int32} (h : (((I 49 1) ≤ x2 → sm_wp sm_P S (d + 1) 18 1 [.ref 49, .int (x1 + (1 : Int32))] [] (xLay, I, L, (kQ49 R)) (0, 0) Φ) ∧ (¬ (I 49 1) ≤ x2 → sm_wp sm_P S (d + 1) 18 5 [.ref 49, .int x1, .int x2, .int (0 : Int32)] [] (xLay, I, L, (kQ49 R)) (0, 0) Φ))) : sm_wp sm_P S (d + 1) 18 3 [.ref 49, .int x1, .int x2] [] (xLay, I, L, (kQ49 R)) (0, 0) Φ := sm_wp_step (⟨fun q1 => ((h).1 q1), fun q1 => ((h).2 q1)⟩)
theorem s49_X10_findWalks_5 {S : sm_C} {d : Nat} {Φ : sm_Z → Prop} {I : sm_I} {L : sm_L} {R : sm_R} {x1 : Int32} {x2 : Int32} {x3 : Int32} (h : ((x2 ≤ x3 → sm_wp sm_P S (d + 1) 18 3 [.ref 49, .int x1, .int (x2 + (1 : Int32))] [] (xLay, I, L, (kQ49 R)) (0, 0) Φ) ∧ (¬ x2 ≤ x3 → sm_wp sm_P S d 27 0 [.ref 49, .int x2, .int x1] [] (xLay, I, L, (kQ49 R)) (0, 0) (fun z => ∃ (r3 : Int32) (I1 : sm_I) (L2 : sm_L), z = (some (.int r3), (xLay, I1, L2, (kQ49 R))) ∧ sm_wp sm_P S d 27 0 [.ref 49, .int x1, .int x3] [] (xLay, I1, L2, (kQ49 R)) (0, 0) (fun z => ∃ (r6 : Int32) (I4 : sm_I) (L5 : sm_L), z = (some (.int r6), (xLay, I4, L5, (kQ49 R))) ∧ ((r3 < 0 → sm_wp sm_P S (d + 1) 18 5 [.ref 49, .int x1, .int x2, .int (x3 + (1 : Int32))] [] (xLay, I4, L5, (kQ49 R)) (0, 0) Φ) ∧ (¬ r3 < 0 → ((r6 < 0 → sm_wp sm_P S (d + 1) 18 5 [.ref 49, .int x1, .int x2, .int (x3 + (1 : Int32))] [] (xLay, I4, L5, (kQ49 R)) (0, 0) Φ) ∧ (¬ r6 < 0 → sm_wp sm_P S d 13 0 [.ref 49, .int x2, .int x3, .int (r3 + r6)] [] (xLay, I4, L5, (kQ49 R)) (0, 0) (fun z => ∃ (I7 : sm_I) (L8 : sm_L), z = (none, (xLay, I7, L8, (kQ49 R))) ∧ sm_wp sm_P S (d + 1) 18 5 [.ref 49, .int x1, .int x2, .int (x3 + (1 : Int32))] [] (xLay, I7, L8, (kQ49 R)) (0, 0) Φ)))))))))) : sm_wp sm_P S (d + 1) 18 5 [.ref 49, .int x1, .int x2, .int x3] [] (xLay, I, L, (kQ49 R)) (0, 0) Φ := sm_wp_step (⟨fun q15 => ((h).1 q15), fun q15 => sm_ci0 (((h).2 q15)) (fun r3 I1 L2 q14 => sm_ci0 (q14) (fun r6 I4 L5 q13 => ⟨fun q12 => ((q13).1 q12), fun q12 => ⟨fun q11 => ((((q13).2 q12)).1 q11), fun q11 => sm_cv0 (((((q13).2 q12)).2 q11)) (fun I7 L8 q10 => q10)⟩⟩))⟩)
theorem s49_X10_findMoves_0 {S : sm_C} {d : Nat} {Φ : sm_Z → Prop} {I : sm_I} {L : sm_L} {R : sm_R} (h : sm_wp sm_P S (d + 1) 17 1 [.ref 49, .int (0 : Int32)] [] (xLay, (sm_up I 49 5 (0 : Int32)), L, (kQ49 R)) (0, 0) Φ) : sm_wp sm_P S (d + 1) 17 0 [.ref 49] [] (xLay, I, L, (kQ49 R)) (0, 0) Φ := sm_wp_step (h)
theorem s49_X10_findMoves_1 {S : sm_C} {d : Nat} {Φ : sm_Z → Prop} {I : sm_I} {L : sm_L} {R : sm_R} {x1 : Int32} (h : (((I 49 2) ≤ x1 → Φ (none, (xLay, I, L, (kQ49 R)))) ∧ (¬ (I 49 2) ≤ x1 → sm_wp sm_P S (d + 1) 17 3 [.ref 49, .int x1, .int (x1 + (1 : Int32))] [] (xLay, I, L, (kQ49 R)) (0, 0) Φ))) : sm_wp sm_P S (d + 1) 17 1 [.ref 49, .int x1] [] (xLay, I, L, (kQ49 R)) (0, 0) Φ := sm_wp_step (⟨fun q1 => ((h).1 q1), fun q1 => ((h).2 q1)⟩)
theorem s49_X10_findMoves_3 {S : sm_C} {d : Nat} {Φ : sm_Z → Prop} {I : sm_I} {L : sm_L} {R : sm_R} {x1 : Int32} {x2 : Int32} (h : (((I 49 2) ≤ x2 → sm_wp sm_P S (d + 1) 17 1 [.ref 49, .int (x1 + (1 : Int32))] [] (xLay, I, L, (kQ49 R)) (0, 0) Φ) ∧ (¬ (I 49 2) ≤ x2 → (vp_in x1 10) ∧ (((I 51 x1.toNatClampNeg) = (-1 : Int32) → sm_wp sm_P S (d + 1) 17 8 [.ref 49, .int x1, .int x2] [.int (0 : Int32)] (xLay, I, L, (kQ49 R)) (0, 0) Φ) ∧ (¬ (I 51 x1.toNatClampNeg) = (-1 : Int32) → (vp_in x1 10) ∧ (vp_in x2 10) ∧ (((I 51 x1.toNatClampNeg) = (I 51 x2.toNatClampNeg) → sm_wp sm_P S (d + 1) 17 8 [.ref 49, .int x1, .int x2] [.int (1 : Int32)] (xLay, I, L, (kQ49 R)) (0, 0) Φ) ∧ (¬ (I 51 x1.toNatClampNeg) = (I 51 x2.toNatClampNeg) → sm_wp sm_P S (d + 1) 17 8 [.ref 49, .int x1, .int x2] [.int (0 : Int32)] (xLay, I, L, (kQ49 R)) (0, 0) Φ))))))) : sm_wp sm_P S (d + 1) 17 3 [.ref 49, .int x1, .int x2] [] (xLay, I, L, (kQ49 R)) (0, 0) Φ := sm_wp_step (⟨fun q3 => ((h).1 q3), fun q3 => ⟨(((h).2 q3)).1, ⟨fun q2 => (((((h).2 q3)).2).1 q2), fun q2 => ⟨((((((h).2 q3)).2).2 q2)).1, ⟨(((((((h).2 q3)).2).2 q2)).2).1, ⟨fun q1 => (((((((((h).2 q3)).2).2 q2)).2).2).1 q1), fun q1 => (((((((((h).2 q3)).2).2 q2)).2).2).2 q1)⟩⟩⟩⟩⟩⟩)
theorem s49_X10_findMoves_8 {S : sm_C} {d : Nat} {Φ : sm_Z → Prop} {I : sm_I} {L : sm_L} {R : sm_R} {x1 : Int32} {x2 : Int32} {s0 : Int32} (h : ((s0 = 0 → sm_wp sm_P S (d + 1) 17 12 [.ref 49, .int x1, .int x2] [] (xLay, I, L, (kQ49 R)) (0, 0) Φ) ∧ (¬ s0 = 0 → (vp_in x1 10) ∧ (vp_in x2 10) ∧ (((I 52 x1.toNatClampNeg) = (I 52 x2.toNatClampNeg) → sm_wp sm_P S (d + 1) 17 12 [.ref 49, .int x1, .int x2] [] (xLay, I, L, (kQ49 R)) (0, 0) Φ) ∧ (¬ (I 52 x1.toNatClampNeg) = (I 52 x2.toNatClampNeg) → (((45 : Int32) ≤ (I 49 5) → sm_wp sm_P S (d + 1) 17 12 [.ref 49, .int x1, .int x2] [] (xLay, I, L, (kQ49 R)) (0, 0) Φ) ∧ (¬ (45 : Int32) ≤ (I 49 5) → (vp_in (I 49 5) 45) ∧ ∀ I1 : sm_I, I1 = (sm_up I 71 (I 49 5).toNatClampNeg x1) → (vp_in (I1 49 5) 45) ∧ ∀ I2 : sm_I, I2 = (sm_up I1 72 (I1 49 5).toNatClampNeg x2) → (vp_in x1 10) ∧ (vp_in x2 10) ∧ sm_wp sm_P S d 27 0 [.ref 49, .int (I2 52 x1.toNatClampNeg), .int (I2 52 x2.toNatClampNeg)] [] (xLay, I2, L, (kQ49 R)) (0, 0) (fun z => ∃ (r5 : Int32) (I3 : sm_I) (L4 : sm_L), z = (some (.int r5), (xLay, I3, L4, (kQ49 R))) ∧ (vp_in (I2 49 5) 45) ∧ ∀ I6 : sm_I, I6 = (sm_up I3 73 (I2 49 5).toNatClampNeg r5) → ∀ I7 : sm_I, I7 = (sm_up I6 49 5 ((I6 49 5) + (1 : Int32))) → sm_wp sm_P S (d + 1) 17 12 [.ref 49, .int x1, .int x2] [] (xLay, I7, L4, (kQ49 R)) (0, 0) Φ)))))))) : sm_wp sm_P S (d + 1) 17 8 [.ref 49, .int x1, .int x2] [.int s0] (xLay, I, L, (kQ49 R)) (0, 0) Φ := sm_wp_step (⟨fun q11 => ((h).1 q11), fun q11 => ⟨(((h).2 q11)).1, ⟨((((h).2 q11)).2).1, ⟨fun q10 => ((((((h).2 q11)).2).2).1 q10), fun q10 => ⟨fun q9 => ((((((((h).2 q11)).2).2).2 q10)).1 q9), fun q9 => ⟨(((((((((h).2 q11)).2).2).2 q10)).2 q9)).1, ⟨(((((((((((h).2 q11)).2).2).2 q10)).2 q9)).2 _ rfl)).1, ⟨(((((((((((((h).2 q11)).2).2).2 q10)).2 q9)).2 _ rfl)).2 _ rfl)).1, ⟨((((((((((((((h).2 q11)).2).2).2 q10)).2 q9)).2 _ rfl)).2 _ rfl)).2).1, sm_ci0 (((((((((((((((h).2 q11)).2).2).2 q10)).2 q9)).2 _ rfl)).2 _ rfl)).2).2) (fun r5 I3 L4 q8 => ⟨(q8).1, (((q8).2 _ rfl) _ rfl)⟩)⟩⟩⟩⟩⟩⟩⟩⟩⟩)
theorem s49_X10_findMoves_12 {S : sm_C} {d : Nat} {Φ : sm_Z → Prop} {I : sm_I} {L : sm_L} {R : sm_R} {x1 : Int32} {x2 : Int32} (h : sm_wp sm_P S (d + 1) 17 3 [.ref 49, .int x1, .int (x2 + (1 : Int32))] [] (xLay, I, L, (kQ49 R)) (0, 0) Φ) : sm_wp sm_P S (d + 1) 17 12 [.ref 49, .int x1, .int x2] [] (xLay, I, L, (kQ49 R)) (0, 0) Φ := sm_wp_step (h)
theorem s49f13_J7_fill_53178_0 {S : sm_C} {d : Nat} {Φ : sm_Z → Prop} {I : sm_I} {L : sm_L} {R : sm_R} {x1 : Int32} (h : sm_wp sm_P S d 306 1 [.ref 50, .int x1, .int (0 : Int32), .int (Int32.ofNat 36)] [] (xLay, I, L, (kQ49 R)) (0, 0) Φ) : sm_wp sm_P S d 306 0 [.ref 50, .int x1] [] (xLay, I, L, (kQ49 R)) (0, 0) Φ := sm_wp_step (h)
theorem s49f13_J7_fill_53178_1 {S : sm_C} {d : Nat} {Φ : sm_Z → Prop} {I : sm_I} {L : sm_L} {R : sm_R} {x1 : Int32} {x2 : Int32} {x3 : Int32} (h : ((x3 ≤ x2 → Φ (none, (xLay, I, L, (kQ49 R)))) ∧ (¬ x3 ≤ x2 → (vp_in x2 36) ∧ ∀ I1 : sm_I, I1 = (sm_up I 50 x2.toNatClampNeg x1) → sm_wp sm_P S d 306 1 [.ref 50, .int x1, .int (x2 + (1 : Int32)), .int x3] [] (xLay, I1, L, (kQ49 R)) (0, 0) Φ))) : sm_wp sm_P S d 306 1 [.ref 50, .int x1, .int x2, .int x3] [] (xLay, I, L, (kQ49 R)) (0, 0) Φ := sm_wp_step (⟨fun q2 => ((h).1 q2), fun q2 => ⟨(((h).2 q2)).1, ((((h).2 q2)).2 _ rfl)⟩⟩)
theorem s49f14_J7_fill_53178_0 {S : sm_C} {d : Nat} {Φ : sm_Z → Prop} {I : sm_I} {L : sm_L} {R : sm_R} {x1 : Int32} (h : sm_wp sm_P S d 306 1 [.ref 51, .int x1, .int (0 : Int32), .int (Int32.ofNat 10)] [] (xLay, I, L, (kQ49 R)) (0, 0) Φ) : sm_wp sm_P S d 306 0 [.ref 51, .int x1] [] (xLay, I, L, (kQ49 R)) (0, 0) Φ := sm_wp_step (h)
theorem s49f14_J7_fill_53178_1 {S : sm_C} {d : Nat} {Φ : sm_Z → Prop} {I : sm_I} {L : sm_L} {R : sm_R} {x1 : Int32} {x2 : Int32} {x3 : Int32} (h : ((x3 ≤ x2 → Φ (none, (xLay, I, L, (kQ49 R)))) ∧ (¬ x3 ≤ x2 → (vp_in x2 10) ∧ ∀ I1 : sm_I, I1 = (sm_up I 51 x2.toNatClampNeg x1) → sm_wp sm_P S d 306 1 [.ref 51, .int x1, .int (x2 + (1 : Int32)), .int x3] [] (xLay, I1, L, (kQ49 R)) (0, 0) Φ))) : sm_wp sm_P S d 306 1 [.ref 51, .int x1, .int x2, .int x3] [] (xLay, I, L, (kQ49 R)) (0, 0) Φ := sm_wp_step (⟨fun q2 => ((h).1 q2), fun q2 => ⟨(((h).2 q2)).1, ((((h).2 q2)).2 _ rfl)⟩⟩)
theorem s49f15_J7_fill_53178_0 {S : sm_C} {d : Nat} {Φ : sm_Z → Prop} {I : sm_I} {L : sm_L} {R : sm_R} {x1 : Int32} (h : sm_wp sm_P S d 306 1 [.ref 52, .int x1, .int (0 : Int32), .int (Int32.ofNat 10)] [] (xLay, I, L, (kQ49 R)) (0, 0) Φ) : sm_wp sm_P S d 306 0 [.ref 52, .int x1] [] (xLay, I, L, (kQ49 R)) (0, 0) Φ := sm_wp_step (h)
theorem s49f15_J7_fill_53178_1 {S : sm_C} {d : Nat} {Φ : sm_Z → Prop} {I : sm_I} {L : sm_L} {R : sm_R} {x1 : Int32} {x2 : Int32} {x3 : Int32} (h : ((x3 ≤ x2 → Φ (none, (xLay, I, L, (kQ49 R)))) ∧ (¬ x3 ≤ x2 → (vp_in x2 10) ∧ ∀ I1 : sm_I, I1 = (sm_up I 52 x2.toNatClampNeg x1) → sm_wp sm_P S d 306 1 [.ref 52, .int x1, .int (x2 + (1 : Int32)), .int x3] [] (xLay, I1, L, (kQ49 R)) (0, 0) Φ))) : sm_wp sm_P S d 306 1 [.ref 52, .int x1, .int x2, .int x3] [] (xLay, I, L, (kQ49 R)) (0, 0) Φ := sm_wp_step (⟨fun q2 => ((h).1 q2), fun q2 => ⟨(((h).2 q2)).1, ((((h).2 q2)).2 _ rfl)⟩⟩)
theorem s49f18_J7_fill_53178_0 {S : sm_C} {d : Nat} {Φ : sm_Z → Prop} {I : sm_I} {L : sm_L} {R : sm_R} {x1 : Int32} (h : sm_wp sm_P S d 306 1 [.ref 55, .int x1, .int (0 : Int32), .int (Int32.ofNat 10)] [] (xLay, I, L, (kQ49 R)) (0, 0) Φ) : sm_wp sm_P S d 306 0 [.ref 55, .int x1] [] (xLay, I, L, (kQ49 R)) (0, 0) Φ := sm_wp_step (h)
theorem s49f18_J7_fill_53178_1 {S : sm_C} {d : Nat} {Φ : sm_Z → Prop} {I : sm_I} {L : sm_L} {R : sm_R} {x1 : Int32} {x2 : Int32} {x3 : Int32} (h : ((x3 ≤ x2 → Φ (none, (xLay, I, L, (kQ49 R)))) ∧ (¬ x3 ≤ x2 → (vp_in x2 10) ∧ ∀ I1 : sm_I, I1 = (sm_up I 55 x2.toNatClampNeg x1) → sm_wp sm_P S d 306 1 [.ref 55, .int x1, .int (x2 + (1 : Int32)), .int x3] [] (xLay, I1, L, (kQ49 R)) (0, 0) Φ))) : sm_wp sm_P S d 306 1 [.ref 55, .int x1, .int x2, .int x3] [] (xLay, I, L, (kQ49 R)) (0, 0) Φ := sm_wp_step (⟨fun q2 => ((h).1 q2), fun q2 => ⟨(((h).2 q2)).1, ((((h).2 q2)).2 _ rfl)⟩⟩)
theorem s49f21_J7_fill_53178_0 {S : sm_C} {d : Nat} {Φ : sm_Z → Prop} {I : sm_I} {L : sm_L} {R : sm_R} {x1 : Int32} (h : sm_wp sm_P S d 306 1 [.ref 58, .int x1, .int (0 : Int32), .int (Int32.ofNat 10)] [] (xLay, I, L, (kQ49 R)) (0, 0) Φ) : sm_wp sm_P S d 306 0 [.ref 58, .int x1] [] (xLay, I, L, (kQ49 R)) (0, 0) Φ := sm_wp_step (h)
theorem s49f21_J7_fill_53178_1 {S : sm_C} {d : Nat} {Φ : sm_Z → Prop} {I : sm_I} {L : sm_L} {R : sm_R} {x1 : Int32} {x2 : Int32} {x3 : Int32} (h : ((x3 ≤ x2 → Φ (none, (xLay, I, L, (kQ49 R)))) ∧ (¬ x3 ≤ x2 → (vp_in x2 10) ∧ ∀ I1 : sm_I, I1 = (sm_up I 58 x2.toNatClampNeg x1) → sm_wp sm_P S d 306 1 [.ref 58, .int x1, .int (x2 + (1 : Int32)), .int x3] [] (xLay, I1, L, (kQ49 R)) (0, 0) Φ))) : sm_wp sm_P S d 306 1 [.ref 58, .int x1, .int x2, .int x3] [] (xLay, I, L, (kQ49 R)) (0, 0) Φ := sm_wp_step (⟨fun q2 => ((h).1 q2), fun q2 => ⟨(((h).2 q2)).1, ((((h).2 q2)).2 _ rfl)⟩⟩)
theorem s49f22_J7_fill_53178_0 {S : sm_C} {d : Nat} {Φ : sm_Z → Prop} {I : sm_I} {L : sm_L} {R : sm_R} {x1 : Int32} (h : sm_wp sm_P S d 306 1 [.ref 59, .int x1, .int (0 : Int32), .int (Int32.ofNat 10)] [] (xLay, I, L, (kQ49 R)) (0, 0) Φ) : sm_wp sm_P S d 306 0 [.ref 59, .int x1] [] (xLay, I, L, (kQ49 R)) (0, 0) Φ := sm_wp_step (h)
theorem s49f22_J7_fill_53178_1 {S : sm_C} {d : Nat} {Φ : sm_Z → Prop} {I : sm_I} {L : sm_L} {R : sm_R} {x1 : Int32} {x2 : Int32} {x3 : Int32} (h : ((x3 ≤ x2 → Φ (none, (xLay, I, L, (kQ49 R)))) ∧ (¬ x3 ≤ x2 → (vp_in x2 10) ∧ ∀ I1 : sm_I, I1 = (sm_up I 59 x2.toNatClampNeg x1) → sm_wp sm_P S d 306 1 [.ref 59, .int x1, .int (x2 + (1 : Int32)), .int x3] [] (xLay, I1, L, (kQ49 R)) (0, 0) Φ))) : sm_wp sm_P S d 306 1 [.ref 59, .int x1, .int x2, .int x3] [] (xLay, I, L, (kQ49 R)) (0, 0) Φ := sm_wp_step (⟨fun q2 => ((h).1 q2), fun q2 => ⟨(((h).2 q2)).1, ((((h).2 q2)).2 _ rfl)⟩⟩)
theorem s49f23_J7_fill_53178_0 {S : sm_C} {d : Nat} {Φ : sm_Z → Prop} {I : sm_I} {L : sm_L} {R : sm_R} {x1 : Int32} (h : sm_wp sm_P S d 306 1 [.ref 60, .int x1, .int (0 : Int32), .int (Int32.ofNat 40)] [] (xLay, I, L, (kQ49 R)) (0, 0) Φ) : sm_wp sm_P S d 306 0 [.ref 60, .int x1] [] (xLay, I, L, (kQ49 R)) (0, 0) Φ := sm_wp_step (h)
theorem s49f23_J7_fill_53178_1 {S : sm_C} {d : Nat} {Φ : sm_Z → Prop} {I : sm_I} {L : sm_L} {R : sm_R} {x1 : Int32} {x2 : Int32} {x3 : Int32} (h : ((x3 ≤ x2 → Φ (none, (xLay, I, L, (kQ49 R)))) ∧ (¬ x3 ≤ x2 → (vp_in x2 40) ∧ ∀ I1 : sm_I, I1 = (sm_up I 60 x2.toNatClampNeg x1) → sm_wp sm_P S d 306 1 [.ref 60, .int x1, .int (x2 + (1 : Int32)), .int x3] [] (xLay, I1, L, (kQ49 R)) (0, 0) Φ))) : sm_wp sm_P S d 306 1 [.ref 60, .int x1, .int x2, .int x3] [] (xLay, I, L, (kQ49 R)) (0, 0) Φ := sm_wp_step (⟨fun q2 => ((h).1 q2), fun q2 => ⟨(((h).2 q2)).1, ((((h).2 q2)).2 _ rfl)⟩⟩)
theorem s49_X3_isBehindMinus_0 {S : sm_C} {d : Nat} {Φ : sm_Z → Prop} {I : sm_I} {L : sm_L} {R : sm_R} {x0 : Int32} (h : ((x0 = (22 : Int32) → Φ (some (.int (1 : Int32)), (xLay, I, L, (kQ49 R)))) ∧ (¬ x0 = (22 : Int32) → ((x0 = (24 : Int32) → Φ (some (.int (1 : Int32)), (xLay, I, L, (kQ49 R)))) ∧ (¬ x0 = (24 : Int32) → Φ (some (.int (0 : Int32)), (xLay, I, L, (kQ49 R)))))))) : sm_wp sm_P S d 244 0 [.int x0] [] (xLay, I, L, (kQ49 R)) (0, 0) Φ := sm_wp_step (⟨fun q2 => ⟨Or.inr rfl, ((h).1 q2)⟩, fun q2 => ⟨fun q1 => ⟨Or.inr rfl, ((((h).2 q2)).1 q1)⟩, fun q1 => ⟨Or.inl rfl, ((((h).2 q2)).2 q1)⟩⟩⟩)
end
section
/-! THE MEANING of a text as a pure machine: the class's reader over a memory of its own (cells 2, 10, 11 and Told's as 12 .. 48; names) -/
abbrev sg : Type := sm_I × (Nat → Int64)
def fnd (s : sm_I) (l : Nat → Int64) (nm : Int64) (kd : Int32) : Nat → Nat → Int32
  | 0, _ => -1
  | m + 1, i => if l i = nm then (if s 10 i = kd then s 11 i else fnd s l nm kd m (i + 1)) else fnd s l nm kd m (i + 1)
def twc (l : Nat → Int64) (nm : Int64) : Nat → Nat → Bool
  | 0, _ => false
  | m + 1, i => if l i = nm then true else twc l nm m (i + 1)
def oy (s : sm_I) (x : Int32) : Nat → Nat → Bool
  | 0, _ => false
  | m + 1, i => if s 18 i = x then true else oy s x m (i + 1)
def cnt (s : sm_I) : Nat := (s 2 5).toNatClampNeg
def fd (a : sg) (nm : Int64) (kd : Int32) : Int32 := fnd a.1 a.2 nm kd (cnt a.1) 0
def u2 (a : sg) (c j : Nat) (v : Int32) : sg := (sm_up a.1 c j v, a.2)
theorem u2_eq (a : sg) (c j : Nat) (v : Int32) : (u2 a c j v).1 c j = v := en_up_eq _ _ _ _
theorem u2_ne (a : sg) (c j : Nat) (v : Int32) {c' j' : Nat} (h : ¬ (c' = c ∧ j' = j)) : (u2 a c j v).1 c' j' = a.1 c' j' := en_up_ne _ _ _ _ h
def mnn (n x : Int32) : Int32 := if n < x + 1 then n else x + 1
def sy_new (b : Bool) (a : sg) : sg := if a.1 12 3 < 10 then u2 (u2 (u2 (if b = true then u2 a 12 6 (a.1 12 6 ||| ((1 : Int32) <<< (a.1 12 3 &&& 31))) else a) 22 (a.1 12 3).toNatClampNeg 1) 23 (a.1 12 3 * 4).toNatClampNeg 1) 12 3 (a.1 12 3 + 1) else a
def nb_new (k : Int32) (a : sg) : Int32 × sg := if k.toInt = 0 then (mnn 4 (a.1 12 0) - 1, u2 a 12 0 (mnn 4 (a.1 12 0))) else if k.toInt = 1 then (mnn 6 (a.1 12 1) - 1, u2 a 12 1 (mnn 6 (a.1 12 1))) else if k.toInt = 3 then (mnn 10 (a.1 12 2) - 1, u2 a 12 2 (mnn 10 (a.1 12 2))) else if k.toInt = 12 then (mnn 5 (a.1 12 4) - 1, u2 a 12 4 (mnn 5 (a.1 12 4))) else ((sy_new (decide (a.1 2 7 = 8)) a).1 12 3 - 1, sy_new (decide (a.1 2 7 = 8)) a)
def nm_kd (a : sg) : Int32 := if a.1 2 7 = 8 then 6 else a.1 2 7
def nmu (l : Nat → Int64) (n : Nat) (v : Int64) : Nat → Int64 := fun j => if j = n then v else l j
def nm_add (nm : Int64) (a : sg) : sg := u2 (u2 (nb_new (nm_kd a) (sm_up a.1 10 (cnt a.1) (nm_kd a), nmu a.2 (cnt a.1) nm)).2 11 (cnt a.1) (nb_new (nm_kd a) (sm_up a.1 10 (cnt a.1) (nm_kd a), nmu a.2 (cnt a.1) nm)).1) 2 5 (a.1 2 5 + 1)
def tk_new (nm : Int64) (a : sg) : Int32 × sg := if twc a.2 nm (cnt a.1) 0 = true then (3, a) else if 35 ≤ a.1 2 5 then (0, a) else (0, nm_add nm a)
def tk_path (s : Int32) (nm : Int64) (a : sg) : Int32 × sg := if fd a nm 1 = -1 then (4, a) else if s = 3 then (0, u2 a 2 8 (fd a nm 1)) else if a.1 2 8 = fd a nm 1 then (5, u2 a 2 9 (fd a nm 1)) else (0, u2 a 2 9 (fd a nm 1))
def pl_last (c : Nat) (r : Int32) (a : sg) : sg := if a.1 12 2 ≤ 0 then a else if 10 < a.1 12 2 then a else u2 a c (a.1 12 2 - 1).toNatClampNeg r
def tk_where (s : Int32) (nm : Int64) (a : sg) : Int32 × sg := if s = 8 then (if fd a nm 0 = -1 then (4, a) else (0, pl_last 14 (fd a nm 0) a)) else (if fd a nm 1 = -1 then (4, a) else (0, pl_last 15 (fd a nm 1) a))
def is_op (x : Int32) (a : sg) : Bool := if x < 0 then false else if 10 ≤ x then false else decide (¬ a.1 18 x.toNatClampNeg = -1)
def tk_open (s : Int32) (nm : Int64) (a : sg) : Int32 × sg := if fd a nm 3 = -1 then (4, a) else if s = 27 then (if is_op (fd a nm 3) a = true then 5 else 0, u2 a 2 8 (fd a nm 3)) else (if a.1 2 8 = fd a nm 3 then 5 else if is_op (fd a nm 3) a = true then 5 else if oy a.1 (a.1 2 8) (a.1 12 2).toNatClampNeg 0 = true then 5 else 0, u2 a 2 9 (fd a nm 3))
def tk_span (s : Int32) (nm : Int64) (a : sg) : Int32 × sg := if fd a nm 3 = -1 then (4, a) else if s = 17 then (0, u2 (u2 a 2 8 (fd a nm 3)) 2 9 (-1)) else (0, u2 a 2 9 (fd a nm 3))
def ad_pt6 (q : Int32) (a : sg) : sg := if q * 4 + a.1 22 q.toNatClampNeg - 1 < 0 then a else if 40 ≤ q * 4 + a.1 22 q.toNatClampNeg - 1 then a else if 3 ≤ a.1 23 (q * 4 + a.1 22 q.toNatClampNeg - 1).toNatClampNeg then a else u2 a 23 (q * 4 + a.1 22 q.toNatClampNeg - 1).toNatClampNeg (a.1 23 (q * 4 + a.1 22 q.toNatClampNeg - 1).toNatClampNeg + 1)
def ad_part (b : Bool) (a : sg) : sg := if a.1 12 3 - 1 < 0 then a else if a.1 12 3 - 1 < 10 then (if b = true then (if 4 ≤ a.1 22 (a.1 12 3 - 1).toNatClampNeg then ad_pt6 (a.1 12 3 - 1) a else ad_pt6 (a.1 12 3 - 1) (u2 a 22 (a.1 12 3 - 1).toNatClampNeg (a.1 22 (a.1 12 3 - 1).toNatClampNeg + 1))) else ad_pt6 (a.1 12 3 - 1) a) else a
def tr_last (v : Int32) (a : sg) : sg := if a.1 12 3 ≤ 0 then a else if 10 < a.1 12 3 then a else u2 a 21 (a.1 12 3 - 1).toNatClampNeg v
def tk_trust (v : Int32) (a : sg) : Int32 × sg := if v = 0 then (5, a) else if v ≤ 100 then (0, tr_last v a) else (5, a)
def ad_w (x y v : Int32) (a : sg) : sg := u2 (u2 a 13 (x * 6 + y).toNatClampNeg v) 13 (y * 6 + x).toNatClampNeg v
def ad_path (x y v : Int32) (a : sg) : sg := if x < 0 then a else if 6 ≤ x then a else if y < 0 then a else if y < 6 then (if a.1 13 (x * 6 + y).toNatClampNeg < 0 then ad_w x y v a else if a.1 13 (x * 6 + y).toNatClampNeg ≤ v then a else ad_w x y v a) else a
def spb (c n : Nat) (row x y lo hi : Int32) (a : sg) : sg := if row < 0 then a else if Int32.ofNat n ≤ row then a else u2 (u2 (u2 (u2 a (c + 1) row.toNatClampNeg x) (c + 2) row.toNatClampNeg y) (c + 3) row.toNatClampNeg lo) (c + 4) row.toNatClampNeg hi
def en_po (v : Int32) (a : sg) : sg := if a.1 2 7 = 2 then ad_path (a.1 2 8) (a.1 2 9) v a else spb 16 10 (a.1 2 8) (a.1 2 8) (a.1 2 9) (a.1 2 10) v a
def va22 (q : Int32) (a : sg) : Int32 := if q < 0 then 0 else if 10 ≤ q then 0 else a.1 22 q.toNatClampNeg
def pa_of (q c : Int32) (a : sg) : Int32 := if q * 4 + c < 0 then 0 else if 40 ≤ q * 4 + c then 0 else a.1 23 (q * 4 + c).toNatClampNeg
def la_span (a : sg) : Int32 := ((a.1 12 3 - 1) * 4 + (va22 (a.1 12 3 - 1) a - 1)) * 3 + pa_of (a.1 12 3 - 1) (va22 (a.1 12 3 - 1) a - 1) a - 1
def en_sp (v : Int32) (a : sg) : sg := if a.1 2 7 = 12 then spb 29 5 (a.1 12 4 - 1) (a.1 2 8) (a.1 2 9) (a.1 2 10) v a else spb 24 120 (la_span a) (a.1 2 8) (a.1 2 9) (a.1 2 10) v a
def sg_n (s v : Int32) : Int32 := if s = 22 then -v else if s = 24 then -v else v
def tk_int (s k v : Int32) (a : sg) : Int32 × sg := if k = 16 then (if s = 5 then (0, en_po (sg_n s v) a) else if fw s k = 26 then (0, en_sp (sg_n s v) a) else (0, u2 a 2 10 (sg_n s v))) else (0, a)
def tk_take (s k : Int32) (v : Int64) (a : sg) : Int32 × sg := if s.toInt = 0 then (0, u2 a 2 7 k) else if s.toInt = 1 ∨ s.toInt = 6 ∨ s.toInt = 11 ∨ s.toInt = 14 ∨ s.toInt = 15 then tk_new v a else if s.toInt = 3 ∨ s.toInt = 4 then tk_path s v a else if s.toInt = 8 ∨ s.toInt = 10 then tk_where s v a else if s.toInt = 27 ∨ s.toInt = 29 then tk_open s v a else if s.toInt = 17 ∨ s.toInt = 20 then tk_span s v a else if s.toInt = 26 then (0, if k = 9 then ad_part true a else if k = 13 then ad_part false a else a) else if s.toInt = 13 then tk_trust v.toInt32 a else tk_int s k v.toInt32 a
/-- one TOKEN -/
def ms (s k : Int32) (v : Int64) (a : sg) : Int32 × sg := if k = 16 ∧ ¬ lg_cmp v 1440 ≤ 0 then (5, a) else tk_take s k v a
/-- the first fault of the meaning, from the TOKEN t on, and what is told then -/
def ME (K : Nat → Int32) (V : Nat → Int64) : Nat → Nat → Int32 → sg → Option (Int32 × Nat) × sg
  | 0, _, _, a => (none, a)
  | m + 1, t, s, a => if K t = 21 then (none, a) else if (ms s (K t) (V t) a).1 = 0 then ME K V m (t + 1) (fw s (K t)) (ms s (K t) (V t) a).2 else (some ((ms s (K t) (V t) a).1, t), a)
/-! the class's memory holds it -/
def kr (Q : Nat) (a : sg) (I : sm_I) (L : sm_L) : Prop := (∀ j, j ≠ 11 → I 2 j = a.1 2 j) ∧ (∀ j, I 10 j = a.1 10 j) ∧ (∀ j, I 11 j = a.1 11 j) ∧ (∀ c j, 12 ≤ c → c < 49 → I (c + (Q - 12)) j = a.1 c j) ∧ (∀ j, L 9 j = a.2 j)
def ko (Q : Nat) (I0 I : sm_I) : Prop := ∀ c j, 12 ≤ c → (c < Q ∨ Q + 37 ≤ c) → I c j = I0 c j
def kw (Q : Nat) (I0 I : sm_I) (L0 L : sm_L) : Prop := (∀ c j, 3 ≤ c → c ≤ 8 → I c j = I0 c j) ∧ (∀ j, L 6 j = L0 6 j) ∧ ko Q I0 I
def kz (Q : Nat) (a : sg) (I : sm_I) (L : sm_L) (I0 : sm_I) (L0 : sm_L) : Prop := kr Q a I L ∧ kw Q I0 I L0 L
theorem kz_t {Q : Nat} {a : sg} {I I0 : sm_I} {L L0 : sm_L} {c j : Nat} {v : Int32} (hQ : 12 ≤ Q) (h1 : 12 ≤ c) (h2 : c < 49) (h : kz Q a I L I0 L0) : kz Q (u2 a c j v) (sm_up I (c + (Q - 12)) j v) L I0 L0 := by
  obtain ⟨⟨q1, q2, q3, q4, q5⟩, q6, q7, q8⟩ := h
  refine ⟨⟨fun i hi => ?_, fun i => ?_, fun i => ?_, fun p i p1 p2 => ?_, q5⟩, fun p i p1 p2 => ?_, q7, fun p i p1 p2 => ?_⟩
  · show _ = sm_up a.1 c j v 2 i
    rw [en_up_ne _ _ _ _ (by omega), en_up_ne _ _ _ _ (by omega)]; exact q1 i hi
  · show _ = sm_up a.1 c j v 10 i
    rw [en_up_ne _ _ _ _ (by omega), en_up_ne _ _ _ _ (by omega)]; exact q2 i
  · show _ = sm_up a.1 c j v 11 i
    rw [en_up_ne _ _ _ _ (by omega), en_up_ne _ _ _ _ (by omega)]; exact q3 i
  · show _ = sm_up a.1 c j v p i
    by_cases e : p = c ∧ i = j
    · rw [e.1, e.2, en_up_eq, en_up_eq]
    · rw [en_up_ne _ _ _ _ (by omega), en_up_ne _ _ _ _ e]; exact q4 p i p1 p2
  · rw [en_up_ne _ _ _ _ (by omega)]; exact q6 p i p1 p2
  · rw [en_up_ne _ _ _ _ (by omega)]; exact q8 p i p1 p2
theorem kz_r {Q : Nat} {a : sg} {I I0 : sm_I} {L L0 : sm_L} {c j : Nat} {v : Int32} (hQ : 12 ≤ Q) (hc : (c = 2 ∧ j ≠ 11) ∨ c = 10 ∨ c = 11) (h : kz Q a I L I0 L0) : kz Q (u2 a c j v) (sm_up I c j v) L I0 L0 := by
  obtain ⟨⟨q1, q2, q3, q4, q5⟩, q6, q7, q8⟩ := h
  have o : ∀ p i, I p i = a.1 p i → sm_up I c j v p i = sm_up a.1 c j v p i := fun p i e => by
    by_cases e2 : p = c ∧ i = j
    · rw [e2.1, e2.2, en_up_eq, en_up_eq]
    · rw [en_up_ne _ _ _ _ e2, en_up_ne _ _ _ _ e2]; exact e
  refine ⟨⟨fun i hi => o 2 i (q1 i hi), fun i => o 10 i (q2 i), fun i => o 11 i (q3 i), fun p i p1 p2 => ?_, q5⟩, fun p i p1 p2 => ?_, q7, fun p i p1 p2 => ?_⟩
  · show _ = sm_up a.1 c j v p i
    rw [en_up_ne _ _ _ _ (by omega), en_up_ne _ _ _ _ (by omega)]; exact q4 p i p1 p2
  · rw [en_up_ne _ _ _ _ (by omega)]; exact q6 p i p1 p2
  · rw [en_up_ne _ _ _ _ (by omega)]; exact q8 p i p1 p2
theorem kz_l {Q : Nat} {a : sg} {I I0 : sm_I} {L L0 : sm_L} {j : Nat} {v : Int64} (h : kz Q a I L I0 L0) : kz Q (a.1, nmu a.2 j v) I (sm_up L 9 j v) I0 L0 := by
  obtain ⟨⟨q1, q2, q3, q4, q5⟩, q6, q7, q8⟩ := h
  refine ⟨⟨q1, q2, q3, q4, fun i => ?_⟩, q6, fun i => ?_, q8⟩
  · show _ = if i = j then v else a.2 i
    by_cases e : i = j
    · rw [e, en_up_eq, if_pos rfl]
    · rw [en_up_ne _ _ _ _ (by omega), if_neg e]; exact q5 i
  · rw [en_up_ne _ _ _ _ (by omega)]; exact q7 i
theorem st_n : ∀ i, i < 46 → 0 ≤ (sm_steps.getD (3 * i + 2) 0).toInt ∧ (sm_steps.getD (3 * i + 2) 0).toInt ≤ 30 := by decide +kernel
theorem fw_r (s k : Int32) : -1 ≤ (fw s k).toInt ∧ (fw s k).toInt ≤ 30 := by
  by_cases c : fw s k = -1
  · rw [c]; decide
  · obtain ⟨i, i1, -, -, i4⟩ := fw_mem c
    rw [i4]
    have := st_n i i1
    omega
/-- without a fault of the grammar there is an end -/
theorem SY_c {K : Nat → Int32} : ∀ (m t : Nat) (s : Int32) (g : gc), t + m = 501 → SY K m t s g = none → ∃ c, t ≤ c ∧ (c ≤ 500 ∧ K c = 21 ∨ c = 501 ∧ m = 0) := by
  intro m
  induction m with
  | zero => intro t s g h _; exact ⟨501, by omega, Or.inr ⟨rfl, rfl⟩⟩
  | succ m ih =>
    intro t s g h hs
    have hs : (if gf s (K t) t g = 0 then (if K t = 21 then none else SY K m (t + 1) (fw s (K t)) (gc_st s (K t) g)) else some (gf s (K t) t g, t)) = none := hs
    by_cases c0 : gf s (K t) t g = 0
    · rw [if_pos c0] at hs
      by_cases c1 : K t = 21
      · exact ⟨t, Nat.le_refl _, Or.inl ⟨by omega, c1⟩⟩
      · rw [if_neg c1] at hs
        obtain ⟨c, d1, d2⟩ := ih (t + 1) _ _ (by omega) hs
        rcases d2 with d2 | d2
        · exact ⟨c, by omega, Or.inl d2⟩
        · exfalso
          have t5 : 500 ≤ t := by omega
          unfold gf at c0
          by_cases b : fw s (K t) = -1 ∨ ((K t = 9 ∨ K t = 13) ∧ g.tell = 12)
          · rw [if_pos b] at c0; exact absurd c0 (by decide)
          · rw [if_neg b, if_neg c1, if_pos t5] at c0; exact absurd c0 (by decide)
    · rw [if_neg c0] at hs; cases hs
end
section
/-! the class's reader with into = 12, exact by the pure machine (template wip/pe/82.tpl.txt) -/
section
variable {S : sm_C} {d : Nat} {Φ : sm_Z → Prop} {I I0 : sm_I} {L L0 : sm_L} {R : sm_R} {a : sg}
theorem k12_T (hz : kz 12 a I L I0 L0) (c j : Nat) (h1 : 12 ≤ c) (h2 : c < 49) : I (c + (12 - 12)) j = a.1 c j := hz.1.2.2.2.1 c j h1 h2
theorem k12_up {c j : Nat} {v : Int32} (h1 : 12 ≤ c) (h2 : c < 49) (hz : kz 12 a I L I0 L0) : kz 12 (u2 a c j v) (sm_up I (c + (12 - 12)) j v) L I0 L0 := kz_t (by decide) h1 h2 hz
theorem k12_find1 {y1 : Int64} {x3 : Int32} (hz : kz 12 a I L I0 L0) (b0 : 0 ≤ (I 2 5).toInt) (b1 : (I 2 5).toInt ≤ 35) : ∀ (m i : Nat) (x4 : Int32), x4.toInt = i → i + m = cnt a.1 → Φ (some (.int (fnd a.1 a.2 y1 x3 m i)), (xLay, I, L, kQ12 R)) → sm_wp sm_P S d 272 1 [.ref 2, .long y1, .int x3, .int x4] [] (xLay, I, L, kQ12 R) (0, 0) Φ := by
  have e5 : I 2 5 = a.1 2 5 := hz.1.1 5 (by decide)
  have nc : ((cnt a.1 : Nat) : Int) = (I 2 5).toInt := by unfold cnt; rw [← e5]; exact kl_nat b0
  intro m
  induction m with
  | zero =>
    intro i x4 hx hm h
    refine s12_X7_find_1 ⟨fun _ => h, fun c => ?_⟩
    have := kl_nle c
    omega
  | succ m ih =>
    intro i x4 hx hm h
    have n4 := tk_nat hx
    have s := ml_in1 (x := x4) (by omega)
    have v : vp_in x4 35 := kl_in (by omega) (by omega)
    have h : Φ (some (.int (if a.2 i = y1 then (if a.1 10 i = x3 then a.1 11 i else fnd a.1 a.2 y1 x3 m (i + 1)) else fnd a.1 a.2 y1 x3 m (i + 1))), (xLay, I, L, kQ12 R)) := h
    have e9 : L 9 x4.toNatClampNeg = a.2 i := by rw [n4]; exact hz.1.2.2.2.2 i
    have e10 : I 10 x4.toNatClampNeg = a.1 10 i := by rw [n4]; exact hz.1.2.1 i
    have e11 : I 11 x4.toNatClampNeg = a.1 11 i := by rw [n4]; exact hz.1.2.2.1 i
    refine s12_X7_find_1 ⟨fun c => ?_, fun c => ⟨v, fun c1 => ⟨v, fun c2 => ⟨v, ?_⟩, fun c2 => ?_⟩, fun c1 => ?_⟩⟩
    · have := kl_le.mp c
      omega
    · rw [tk_lg, e9] at c1
      rw [e10] at c2
      rw [if_pos c1, if_pos c2] at h
      rw [e11]; exact h
    · rw [tk_lg, e9] at c1
      rw [e10] at c2
      rw [if_pos c1, if_neg c2] at h
      exact ih (i + 1) _ (by omega) (by omega) h
    · rw [tk_lg, e9] at c1
      rw [if_neg c1] at h
      exact ih (i + 1) _ (by omega) (by omega) h
theorem k12_find {y1 : Int64} {x3 : Int32} (hz : kz 12 a I L I0 L0) (b0 : 0 ≤ (I 2 5).toInt) (b1 : (I 2 5).toInt ≤ 35) (h : Φ (some (.int (fd a y1 x3)), (xLay, I, L, kQ12 R))) : sm_wp sm_P S d 272 0 [.ref 2, .long y1, .int x3] [] (xLay, I, L, kQ12 R) (0, 0) Φ := s12_X7_find_0 (k12_find1 hz b0 b1 (cnt a.1) 0 0 (by decide) (by omega) h)
theorem k12_addSaying {x1 : Int32} {b : Bool} (hz : kz 12 a I L I0 L0) (hb : x1 = 0 ↔ b = false) (b0 : 0 ≤ (I 12 3).toInt) (h : ∀ J L', kz 12 (sy_new b a) J L' I0 L0 → Φ (none, (xLay, J, L', kQ12 R))) : sm_wp sm_P S d 14 0 [.ref 12, .int x1] [] (xLay, I, L, kQ12 R) (0, 0) Φ := by
  have e3 : I 12 3 = a.1 12 3 := k12_T hz 12 3 (by decide) (by decide)
  have e6 : I 12 6 = a.1 12 6 := k12_T hz 12 6 (by decide) (by decide)
  have c10 : (10 : Int32).toInt = 10 := by decide
  have c4 : (4 : Int32).toInt = 4 := by decide
  have fin : ∀ (a1 : sg) (J : sm_I), kz 12 a1 J L I0 L0 → J 12 3 = I 12 3 → I 12 3 < 10 → sy_new b a = u2 (u2 (u2 a1 22 (a.1 12 3).toNatClampNeg 1) 23 (a.1 12 3 * 4).toNatClampNeg 1) 12 3 (a.1 12 3 + 1) → (vp_in (J 12 3) 10) ∧ ∀ I1 : sm_I, I1 = (sm_up J 22 (J 12 3).toNatClampNeg (1 : Int32)) → (vp_in ((I1 12 3) * (4 : Int32)) 40) ∧ ∀ I2 : sm_I, I2 = (sm_up I1 23 ((I1 12 3) * (4 : Int32)).toNatClampNeg (1 : Int32)) → ∀ I3 : sm_I, I3 = (sm_up I2 12 3 ((I2 12 3) + (1 : Int32))) → Φ (none, (xLay, I3, L, (kQ12 R))) := by
    intro a1 J hJ eJ c ea
    have c := kl_lt.mp c
    have m4 : (I 12 3 * 4).toInt = (I 12 3).toInt * 4 := ml_mu rfl c4 (by omega) (by omega)
    refine ⟨by rw [eJ]; exact kl_in b0 (by omega), fun I1 q1 => ?_⟩
    have g1 : I1 12 3 = I 12 3 := by rw [q1, en_up_ne _ _ _ _ (by omega)]; exact eJ
    rw [g1]
    refine ⟨kl_in (by omega) (by omega), fun I2 q2 I3 q3 => h I3 L ?_⟩
    have g2 : I2 12 3 = I 12 3 := by rw [q2, en_up_ne _ _ _ _ (by omega)]; exact g1
    rw [ea, q3, g2, q2, q1, eJ, ← e3]
    exact k12_up (by decide) (by decide) (k12_up (by decide) (by decide) (k12_up (by decide) (by decide) hJ))
  refine s12_X10_addSaying_0 ⟨fun c => ⟨fun c1 => fin a I hz rfl c ?_, fun c1 n4 q4 => fin (u2 a 12 6 n4) _ (k12_up (by decide) (by decide) hz) (en_up_ne _ _ _ _ (by omega)) c ?_⟩, fun c => ?_⟩
  · unfold sy_new
    rw [if_pos (by rw [← e3]; exact c), if_neg (by rw [hb.mp c1]; decide)]
  · unfold sy_new
    have bt : b = true := by
      cases e : b with
      | true => rfl
      | false => exact absurd (hb.mpr e) c1
    rw [if_pos (by rw [← e3]; exact c), if_pos bt, q4, e3, e6]
  · refine h I L ?_
    unfold sy_new
    rw [if_neg (by rw [← e3]; exact c)]; exact hz
theorem k12_numberNew {x1 : Int32} (hz : kz 12 a I L I0 L0) (b0 : 0 ≤ (I 12 3).toInt) (h : ∀ J L', kz 12 (nb_new x1 a).2 J L' I0 L0 → Φ (some (.int (nb_new x1 a).1), (xLay, J, L', kQ12 R))) : sm_wp sm_P S (d + 1) 275 0 [.ref 2, .int x1] [] (xLay, I, L, kQ12 R) (0, 0) Φ := by
  have e0 : I 12 0 = a.1 12 0 := k12_T hz 12 0 (by decide) (by decide)
  have e1 : I 12 1 = a.1 12 1 := k12_T hz 12 1 (by decide) (by decide)
  have e2 : I 12 2 = a.1 12 2 := k12_T hz 12 2 (by decide) (by decide)
  have e4 : I 12 4 = a.1 12 4 := k12_T hz 12 4 (by decide) (by decide)
  have e7 : I 2 7 = a.1 2 7 := hz.1.1 7 (by decide)
  unfold nb_new at h
  refine s12_X7_numberNew_0 ⟨fun c n q => ?_, fun c => ⟨fun c1 n q => ?_, fun c1 => ⟨fun c2 n q => ?_, fun c2 => ⟨fun c3 n q => ?_, fun c3 => ⟨fun c4 => ?_, fun c4 => ?_⟩⟩⟩⟩⟩
  · rw [if_pos c] at h
    rw [en_up_eq]
    have en : n = mnn 4 (a.1 12 0) := by rw [q, e0]; rfl
    rw [en]
    exact h _ L (k12_up (by decide) (by decide) hz)
  · rw [if_neg c, if_pos c1] at h
    rw [en_up_eq]
    have en : n = mnn 6 (a.1 12 1) := by rw [q, e1]; rfl
    rw [en]
    exact h _ L (k12_up (by decide) (by decide) hz)
  · rw [if_neg c, if_neg c1, if_pos c2] at h
    rw [en_up_eq]
    have en : n = mnn 10 (a.1 12 2) := by rw [q, e2]; rfl
    rw [en]
    exact h _ L (k12_up (by decide) (by decide) hz)
  · rw [if_neg c, if_neg c1, if_neg c2, if_pos c3] at h
    rw [en_up_eq]
    have en : n = mnn 5 (a.1 12 4) := by rw [q, e4]; rfl
    rw [en]
    exact h _ L (k12_up (by decide) (by decide) hz)
  · rw [if_neg c, if_neg c1, if_neg c2, if_neg c3, decide_eq_true (by rw [← e7]; exact c4)] at h
    refine k12_addSaying (b := true) hz (by decide) b0 (fun J L' hJ => ⟨J, L', rfl, ?_⟩)
    rw [show J 12 3 = (sy_new true a).1 12 3 from k12_T hJ 12 3 (by decide) (by decide)]
    exact h J L' hJ
  · rw [if_neg c, if_neg c1, if_neg c2, if_neg c3, decide_eq_false (by rw [← e7]; exact c4)] at h
    refine k12_addSaying (b := false) hz (by decide) b0 (fun J L' hJ => ⟨J, L', rfl, ?_⟩)
    rw [show J 12 3 = (sy_new false a).1 12 3 from k12_T hJ 12 3 (by decide) (by decide)]
    exact h J L' hJ
theorem k12_takeNew1 {y1 : Int64} (hz : kz 12 a I L I0 L0) (b0 : 0 ≤ (I 2 5).toInt) (b1 : (I 2 5).toInt ≤ 35) (s0 : 0 ≤ (I 12 3).toInt) (h : ∀ J L', kz 12 (tk_new y1 a).2 J L' I0 L0 → Φ (some (.int (tk_new y1 a).1), (xLay, J, L', kQ12 R))) : ∀ (m i : Nat) (x3 : Int32), x3.toInt = i → i + m = cnt a.1 → twc a.2 y1 m i = twc a.2 y1 (cnt a.1) 0 → sm_wp sm_P S (d + 2) 280 1 [.ref 2, .long y1, .int x3] [] (xLay, I, L, kQ12 R) (0, 0) Φ := by
  have e5 : I 2 5 = a.1 2 5 := hz.1.1 5 (by decide)
  have e7 : I 2 7 = a.1 2 7 := hz.1.1 7 (by decide)
  have nc : ((cnt a.1 : Nat) : Int) = (I 2 5).toInt := by unfold cnt; rw [← e5]; exact kl_nat b0
  have nn : (I 2 5).toNatClampNeg = cnt a.1 := by unfold cnt; rw [e5]
  have c35 : (35 : Int32).toInt = 35 := by decide
  have add : ∀ kd : Int32, kd = nm_kd a → twc a.2 y1 (cnt a.1) 0 = false → ¬ (35 : Int32) ≤ (I 2 5) → (vp_in (I 2 5) 35) ∧ ∀ L1 : sm_L, L1 = (sm_up L 9 (I 2 5).toNatClampNeg y1) → (vp_in (I 2 5) 35) ∧ ∀ I2 : sm_I, I2 = (sm_up I 10 (I 2 5).toNatClampNeg kd) → sm_wp sm_P S (d + 1) 275 0 [.ref 2, .int kd] [] (xLay, I2, L1, (kQ12 R)) (0, 0) (fun z => ∃ (r5 : Int32) (I3 : sm_I) (L4 : sm_L), z = (some (.int r5), (xLay, I3, L4, (kQ12 R))) ∧ (vp_in (I2 2 5) 35) ∧ ∀ I6 : sm_I, I6 = (sm_up I3 11 (I2 2 5).toNatClampNeg r5) → ∀ I7 : sm_I, I7 = (sm_up I6 2 5 ((I6 2 5) + (1 : Int32))) → Φ (some (.int (0 : Int32)), (xLay, I7, L4, (kQ12 R)))) := by
    intro kd ek tw c
    have c' := kl_nle c
    have v : vp_in (I 2 5) 35 := kl_in b0 (by omega)
    refine ⟨v, fun L1 q1 => ⟨v, fun I2 q2 => ?_⟩⟩
    have g5 : I2 2 5 = I 2 5 := by rw [q2, en_up_ne _ _ _ _ (by omega)]
    have hz2 : kz 12 (sm_up a.1 10 (cnt a.1) (nm_kd a), nmu a.2 (cnt a.1) y1) I2 L1 I0 L0 := by
      rw [q2, q1, nn, ek]
      exact kz_l (kz_r (by decide) (Or.inr (Or.inl rfl)) hz)
    refine k12_numberNew hz2 (by rw [q2, en_up_ne _ _ _ _ (by omega)]; exact s0) (fun J L' hJ => ⟨_, J, L', rfl, by rw [g5]; exact v, fun I6 q6 I7 q7 => ?_⟩)
    rw [ek] at hJ q6
    have n35 : ¬ (35 : Int32) ≤ a.1 2 5 := by rw [← e5]; exact c
    have et : tk_new y1 a = (0, nm_add y1 a) := by unfold tk_new; rw [if_neg (by rw [tw]; decide), if_neg n35]
    rw [et] at h
    refine h I7 L' ?_
    have g65 : I6 2 5 = a.1 2 5 := by
      rw [q6, en_up_ne _ _ _ _ (by omega), hJ.1.1 5 (by decide)]
      unfold nb_new sy_new u2
      show (if _ then _ else _ : Int32 × sg).2.1 2 5 = _
      repeat' split
      all_goals first | rfl | (simp only [en_up_ne _ _ _ _ (show ¬ ((2 : Nat) = 12 ∧ (5 : Nat) = 0) by decide), en_up_ne _ _ _ _ (show ¬ ((2 : Nat) = 12 ∧ (5 : Nat) = 1) by decide), en_up_ne _ _ _ _ (show ¬ ((2 : Nat) = 12 ∧ (5 : Nat) = 2) by decide), en_up_ne _ _ _ _ (show ¬ ((2 : Nat) = 12 ∧ (5 : Nat) = 3) by decide), en_up_ne _ _ _ _ (show ¬ ((2 : Nat) = 12 ∧ (5 : Nat) = 4) by decide), en_up_ne _ _ _ _ (show ¬ ((2 : Nat) = 12 ∧ (5 : Nat) = 6) by decide), sm_up]; simp)
    rw [q7, g65, q6, g5, nn]
    exact kz_r (by decide) (Or.inl ⟨rfl, by decide⟩) (kz_r (by decide) (Or.inr (Or.inr rfl)) hJ)
  have none_ : twc a.2 y1 (cnt a.1) 0 = false → (35 : Int32) ≤ (I 2 5) → Φ (some (.int (0 : Int32)), (xLay, I, L, (kQ12 R))) := fun tw c => by
    have et : tk_new y1 a = (0, a) := by unfold tk_new; rw [if_neg (by rw [tw]; decide), if_pos (by rw [← e5]; exact c)]
    rw [et] at h
    exact h I L hz
  intro m
  induction m with
  | zero =>
    intro i x3 hx hm ht
    have tw : twc a.2 y1 (cnt a.1) 0 = false := ht.symm
    refine s12_X7_takeNew_1 ⟨fun _ => ⟨fun c8 => ⟨none_ tw, add 6 (by unfold nm_kd; rw [if_pos (by rw [← e7]; exact c8)]) tw⟩, fun c8 => ⟨none_ tw, add (I 2 7) (by unfold nm_kd; rw [if_neg (by rw [← e7]; exact c8), e7]) tw⟩⟩, fun c => ?_⟩
    have := kl_nle c
    omega
  | succ m ih =>
    intro i x3 hx hm ht
    have n4 := tk_nat hx
    have s := ml_in1 (x := x3) (by omega)
    have v : vp_in x3 35 := kl_in (by omega) (by omega)
    have ht : (if a.2 i = y1 then true else twc a.2 y1 m (i + 1)) = twc a.2 y1 (cnt a.1) 0 := ht
    have e9 : L 9 x3.toNatClampNeg = a.2 i := by rw [n4]; exact hz.1.2.2.2.2 i
    refine s12_X7_takeNew_1 ⟨fun c => ?_, fun c => ⟨v, fun c1 => ?_, fun c1 => ?_⟩⟩
    · have := kl_le.mp c
      omega
    · rw [tk_lg, e9] at c1
      rw [if_pos c1] at ht
      have et : tk_new y1 a = (3, a) := by unfold tk_new; rw [if_pos ht.symm]
      rw [et] at h
      exact h I L hz
    · rw [tk_lg, e9] at c1
      rw [if_neg c1] at ht
      exact ih (i + 1) _ (by omega) (by omega) ht
theorem k12_takeNew {y1 : Int64} (hz : kz 12 a I L I0 L0) (b0 : 0 ≤ (I 2 5).toInt) (b1 : (I 2 5).toInt ≤ 35) (s0 : 0 ≤ (I 12 3).toInt) (h : ∀ J L', kz 12 (tk_new y1 a).2 J L' I0 L0 → Φ (some (.int (tk_new y1 a).1), (xLay, J, L', kQ12 R))) : sm_wp sm_P S (d + 2) 280 0 [.ref 2, .long y1] [] (xLay, I, L, kQ12 R) (0, 0) Φ := s12_X7_takeNew_0 (k12_takeNew1 hz b0 b1 s0 h (cnt a.1) 0 0 (by decide) (by omega) rfl)
theorem k12_takePath {x1 : Int32} {y2 : Int64} (hz : kz 12 a I L I0 L0) (b0 : 0 ≤ (I 2 5).toInt) (b1 : (I 2 5).toInt ≤ 35) (h : ∀ J L', kz 12 (tk_path x1 y2 a).2 J L' I0 L0 → Φ (some (.int (tk_path x1 y2 a).1), (xLay, J, L', kQ12 R))) : sm_wp sm_P S (d + 1) 282 0 [.ref 2, .int x1, .long y2] [] (xLay, I, L, kQ12 R) (0, 0) Φ := by
  have e8 : I 2 8 = a.1 2 8 := hz.1.1 8 (by decide)
  unfold tk_path at h
  refine s12_X7_takePath_0 (k12_find hz b0 b1 ⟨_, I, L, rfl, fun c => ?_, fun c => ⟨fun c1 => ?_, fun c1 => ?_⟩⟩)
  · rw [if_pos c] at h; exact h I L hz
  · rw [if_neg c, if_pos c1] at h
    exact h _ L (kz_r (by decide) (Or.inl ⟨rfl, by decide⟩) hz)
  · rw [if_neg c, if_neg c1] at h
    rw [en_up_eq, en_up_ne _ _ _ _ (by omega), e8]
    refine ⟨fun c2 => ?_, fun c2 => ?_⟩
    · rw [if_pos c2] at h
      exact h _ L (kz_r (by decide) (Or.inl ⟨rfl, by decide⟩) hz)
    · rw [if_neg c2] at h
      exact h _ L (kz_r (by decide) (Or.inl ⟨rfl, by decide⟩) hz)
theorem k12_putLastPerson {x2 : Int32} (hz : kz 12 a I L I0 L0) (h : ∀ J L', kz 12 (pl_last 14 x2 a) J L' I0 L0 → Φ (none, (xLay, J, L', kQ12 R))) : sm_wp sm_P S d 24 0 [.ref 12, .ref 14, .int x2] [] (xLay, I, L, kQ12 R) (0, 0) Φ := by
  have e2 : I 12 2 = a.1 12 2 := k12_T hz 12 2 (by decide) (by decide)
  have c10 : (10 : Int32).toInt = 10 := by decide
  have c10' : (Int32.ofNat 10).toInt = 10 := by decide
  unfold pl_last at h
  refine s12_X10_putLastPerson_0 ⟨fun c => ?_, fun c => ⟨fun c1 => ?_, fun c1 => ⟨?_, fun I1 q1 => ?_⟩⟩⟩
  · rw [if_pos (by rw [← e2]; exact c)] at h; exact h I L hz
  · rw [if_neg (by rw [← e2]; exact c), if_pos (by rw [← e2]; exact c1)] at h; exact h I L hz
  · have c := kl_nle c
    have c1 := kl_nlt c1
    rw [kl_0] at c
    rw [c10'] at c1
    have s : (I 12 2 - 1).toInt = (I 12 2).toInt - 1 := by rw [Int32.toInt_sub, kl_1]; exact en_bmod (by omega) (by omega) (Or.inl rfl)
    exact kl_in (by omega) (by omega)
  · rw [if_neg (by rw [← e2]; exact c), if_neg (by rw [← e2]; exact c1)] at h
    rw [q1, e2]
    exact h _ L (k12_up (by decide) (by decide) hz)
theorem k12_putLastPlace {x2 : Int32} (hz : kz 12 a I L I0 L0) (h : ∀ J L', kz 12 (pl_last 15 x2 a) J L' I0 L0 → Φ (none, (xLay, J, L', kQ12 R))) : sm_wp sm_P S d 24 0 [.ref 12, .ref 15, .int x2] [] (xLay, I, L, kQ12 R) (0, 0) Φ := by
  have e2 : I 12 2 = a.1 12 2 := k12_T hz 12 2 (by decide) (by decide)
  have c10' : (Int32.ofNat 10).toInt = 10 := by decide
  unfold pl_last at h
  refine s12_X10_putLastPlace_0 ⟨fun c => ?_, fun c => ⟨fun c1 => ?_, fun c1 => ⟨?_, fun I1 q1 => ?_⟩⟩⟩
  · rw [if_pos (by rw [← e2]; exact c)] at h; exact h I L hz
  · rw [if_neg (by rw [← e2]; exact c), if_pos (by rw [← e2]; exact c1)] at h; exact h I L hz
  · have c := kl_nle c
    have c1 := kl_nlt c1
    rw [kl_0] at c
    rw [c10'] at c1
    have s : (I 12 2 - 1).toInt = (I 12 2).toInt - 1 := by rw [Int32.toInt_sub, kl_1]; exact en_bmod (by omega) (by omega) (Or.inl rfl)
    exact kl_in (by omega) (by omega)
  · rw [if_neg (by rw [← e2]; exact c), if_neg (by rw [← e2]; exact c1)] at h
    rw [q1, e2]
    exact h _ L (k12_up (by decide) (by decide) hz)
theorem k12_takeWhere {x1 : Int32} {y2 : Int64} (hz : kz 12 a I L I0 L0) (b0 : 0 ≤ (I 2 5).toInt) (b1 : (I 2 5).toInt ≤ 35) (h : ∀ J L', kz 12 (tk_where x1 y2 a).2 J L' I0 L0 → Φ (some (.int (tk_where x1 y2 a).1), (xLay, J, L', kQ12 R))) : sm_wp sm_P S (d + 1) 285 0 [.ref 2, .int x1, .long y2] [] (xLay, I, L, kQ12 R) (0, 0) Φ := by
  unfold tk_where at h
  refine s12_X7_takeWhere_0 ⟨fun c => ⟨fun z => absurd z (by decide), fun _ => ?_⟩, fun c => ⟨fun _ => ?_, fun z => absurd rfl z⟩⟩
  · rw [if_pos c] at h
    refine k12_find hz b0 b1 ⟨_, I, L, rfl, fun c1 => ?_, fun c1 => ⟨fun z => absurd z (by decide), fun _ => ?_⟩⟩
    · rw [if_pos c1] at h; exact h I L hz
    · rw [if_neg c1] at h
      exact k12_putLastPerson hz (fun J L' hJ => ⟨J, L', rfl, h J L' hJ⟩)
  · rw [if_neg c] at h
    refine k12_find hz b0 b1 ⟨_, I, L, rfl, fun c1 => ?_, fun c1 => ⟨fun _ => ?_, fun z => absurd rfl z⟩⟩
    · rw [if_pos c1] at h; exact h I L hz
    · rw [if_neg c1] at h
      exact k12_putLastPlace hz (fun J L' hJ => ⟨J, L', rfl, h J L' hJ⟩)
theorem k12_isOpen {x1 : Int32} (hz : kz 12 a I L I0 L0) (h : Φ (some (.int (if is_op x1 a = true then 1 else 0)), (xLay, I, L, kQ12 R))) : sm_wp sm_P S (d + 1) 21 0 [.ref 12, .int x1] [] (xLay, I, L, kQ12 R) (0, 0) Φ := by
  have c10' : (Int32.ofNat 10).toInt = 10 := by decide
  have c10 : (10 : Int32).toInt = 10 := by decide
  unfold is_op at h
  refine s12_X10_isOpen_0 (s12v18_X11_valueAt_0 ⟨fun c => ⟨_, I, L, rfl, fun _ => ?_, fun z => absurd rfl z⟩, fun c => ⟨fun c1 => ⟨_, I, L, rfl, fun _ => ?_, fun z => absurd rfl z⟩, fun c1 => ⟨?_, _, I, L, rfl, fun c2 => ?_, fun c2 => ?_⟩⟩⟩)
  · rw [if_pos c] at h; exact h
  · rw [if_neg c, if_pos (show (10 : Int32) ≤ x1 from c1)] at h; exact h
  · have c := kl_nlt0 c
    have c1 := kl_nle c1
    exact kl_in c (by omega)
  · rw [if_neg c, if_neg (show ¬ (10 : Int32) ≤ x1 from c1)] at h
    rw [show I 18 x1.toNatClampNeg = a.1 18 x1.toNatClampNeg from k12_T hz 18 _ (by decide) (by decide)] at c2
    rw [decide_eq_false (fun z => z c2)] at h; exact h
  · rw [if_neg c, if_neg (show ¬ (10 : Int32) ≤ x1 from c1)] at h
    rw [show I 18 x1.toNatClampNeg = a.1 18 x1.toNatClampNeg from k12_T hz 18 _ (by decide) (by decide)] at c2
    rw [decide_eq_true c2] at h; exact h
theorem k12_oy {Ψ : Int32 → Prop} (hz : kz 12 a I L I0 L0) (t0 : 0 ≤ (I 12 2).toInt) (t1 : (I 12 2).toInt ≤ 10) (h : Φ (some (.int (if oy a.1 (a.1 2 8) (a.1 12 2).toNatClampNeg 0 = true then 5 else 0)), (xLay, I, L, kQ12 R))) : ∀ (m i : Nat) (x5 : Int32), x5.toInt = i → i + m = (a.1 12 2).toNatClampNeg → oy a.1 (a.1 2 8) m i = oy a.1 (a.1 2 8) (a.1 12 2).toNatClampNeg 0 → sm_wp sm_P S (d + 1) 281 11 [.ref 2, .int x5] [] (xLay, I, L, kQ12 R) (0, 0) Φ := by
  have e2 : I 12 2 = a.1 12 2 := k12_T hz 12 2 (by decide) (by decide)
  have e8 : I 2 8 = a.1 2 8 := hz.1.1 8 (by decide)
  have nc : (((a.1 12 2).toNatClampNeg : Nat) : Int) = (I 12 2).toInt := by rw [← e2]; exact kl_nat t0
  intro m
  induction m with
  | zero =>
    intro i x5 hx hm ht
    refine s12_X7_takeOpen_11 ⟨fun _ => ?_, fun c => ?_⟩
    · have ht : false = oy a.1 (a.1 2 8) (a.1 12 2).toNatClampNeg 0 := ht
      rw [← ht] at h; exact h
    · have := kl_nle c
      omega
  | succ m ih =>
    intro i x5 hx hm ht
    have n4 := tk_nat hx
    have s := ml_in1 (x := x5) (by omega)
    have ht : (if a.1 18 i = a.1 2 8 then true else oy a.1 (a.1 2 8) m (i + 1)) = oy a.1 (a.1 2 8) (a.1 12 2).toNatClampNeg 0 := ht
    have e18 : I 18 x5.toNatClampNeg = a.1 18 i := by rw [n4]; exact k12_T hz 18 _ (by decide) (by decide)
    refine s12_X7_takeOpen_11 ⟨fun c => ?_, fun c => ⟨kl_in (by omega) (by omega), fun c1 => ?_, fun c1 => ?_⟩⟩
    · have := kl_le.mp c
      omega
    · rw [e18, e8] at c1
      rw [if_pos c1] at ht
      rw [← ht] at h; exact h
    · rw [e18, e8] at c1
      rw [if_neg c1] at ht
      exact ih (i + 1) _ (by omega) (by omega) ht
theorem k12_takeOpen {x1 : Int32} {y2 : Int64} (hz : kz 12 a I L I0 L0) (b0 : 0 ≤ (I 2 5).toInt) (b1 : (I 2 5).toInt ≤ 35) (t0 : 0 ≤ (I 12 2).toInt) (t1 : (I 12 2).toInt ≤ 10) (h : ∀ J L', kz 12 (tk_open x1 y2 a).2 J L' I0 L0 → Φ (some (.int (tk_open x1 y2 a).1), (xLay, J, L', kQ12 R))) : sm_wp sm_P S (d + 2) 281 0 [.ref 2, .int x1, .long y2] [] (xLay, I, L, kQ12 R) (0, 0) Φ := by
  have e8 : I 2 8 = a.1 2 8 := hz.1.1 8 (by decide)
  unfold tk_open at h
  refine s12_X7_takeOpen_0 (k12_find hz b0 b1 ⟨_, I, L, rfl, fun c => ?_, fun c => ⟨fun c1 => ?_, fun c1 => ?_⟩⟩)
  · rw [if_pos c] at h; exact h I L hz
  · rw [if_neg c, if_pos c1] at h
    rw [en_up_eq]
    have hJ := kz_r (v := fd a y2 3) (by decide) (Or.inl ⟨rfl, (by decide : (8 : Nat) ≠ 11)⟩) hz
    have g := h _ L hJ
    have eo : is_op (fd a y2 3) (u2 a 2 8 (fd a y2 3)) = is_op (fd a y2 3) a := by
      unfold is_op
      rw [show ∀ i, (u2 a 2 8 (fd a y2 3)).1 18 i = a.1 18 i from fun i => u2_ne _ _ _ _ (by omega)]
    refine k12_isOpen hJ ⟨_, _, L, rfl, fun c2 => ?_, fun c2 => ?_⟩
    · rw [eo, tk_if] at c2
      rw [if_neg (by rw [c2]; decide)] at g; exact g
    · rw [eo, tk_if1] at c2
      rw [if_pos c2] at g; exact g
  · rw [if_neg c, if_neg c1] at h
    rw [en_up_eq, en_up_ne _ _ _ _ (by omega), e8]
    have hJ := kz_r (v := fd a y2 3) (by decide) (Or.inl ⟨rfl, (by decide : (9 : Nat) ≠ 11)⟩) hz
    have g := h _ L hJ
    have eo : is_op (fd a y2 3) (u2 a 2 9 (fd a y2 3)) = is_op (fd a y2 3) a := by
      unfold is_op
      rw [show ∀ i, (u2 a 2 9 (fd a y2 3)).1 18 i = a.1 18 i from fun i => u2_ne _ _ _ _ (by omega)]
    have ey : ∀ m i, oy (u2 a 2 9 (fd a y2 3)).1 ((u2 a 2 9 (fd a y2 3)).1 2 8) m i = oy a.1 (a.1 2 8) m i := by
      intro m
      have q8 : (u2 a 2 9 (fd a y2 3)).1 2 8 = a.1 2 8 := u2_ne _ _ _ _ (by omega)
      rw [q8]
      induction m with
      | zero => intro i; rfl
      | succ m ih =>
        intro i
        show (if (u2 a 2 9 (fd a y2 3)).1 18 i = a.1 2 8 then true else oy (u2 a 2 9 (fd a y2 3)).1 (a.1 2 8) m (i + 1)) = (if a.1 18 i = a.1 2 8 then true else oy a.1 (a.1 2 8) m (i + 1))
        rw [ih, show (u2 a 2 9 (fd a y2 3)).1 18 i = a.1 18 i from u2_ne _ _ _ _ (by omega)]
    have e12 : (u2 a 2 9 (fd a y2 3)).1 12 2 = a.1 12 2 := u2_ne _ _ _ _ (by omega)
    refine ⟨fun c2 => ?_, fun c2 => ?_⟩
    · rw [if_pos c2] at g; exact g
    · rw [if_neg c2] at g
      refine k12_isOpen hJ ⟨_, _, L, rfl, fun c3 => ?_, fun c3 => ?_⟩
      · rw [eo, tk_if] at c3
        rw [if_neg (by rw [c3]; decide)] at g
        refine k12_oy (Ψ := fun _ => True) hJ (by rw [en_up_ne _ _ _ _ (by omega)]; exact t0) (by rw [en_up_ne _ _ _ _ (by omega)]; exact t1) ?_ ((u2 a 2 9 (fd a y2 3)).1 12 2).toNatClampNeg 0 0 (by decide) (by omega) rfl
        rw [ey, e12]; exact g
      · rw [eo, tk_if1] at c3
        rw [if_pos c3] at g; exact g
theorem k12_takeSpanTime {x1 : Int32} {y2 : Int64} (hz : kz 12 a I L I0 L0) (b0 : 0 ≤ (I 2 5).toInt) (b1 : (I 2 5).toInt ≤ 35) (h : ∀ J L', kz 12 (tk_span x1 y2 a).2 J L' I0 L0 → Φ (some (.int (tk_span x1 y2 a).1), (xLay, J, L', kQ12 R))) : sm_wp sm_P S (d + 1) 283 0 [.ref 2, .int x1, .long y2] [] (xLay, I, L, kQ12 R) (0, 0) Φ := by
  unfold tk_span at h
  refine s12_X7_takeSpanTime_0 (k12_find hz b0 b1 ⟨_, I, L, rfl, fun c => ?_, fun c => ⟨fun c1 I4 q4 => ?_, fun c1 => ?_⟩⟩)
  · rw [if_pos c] at h; exact h I L hz
  · rw [if_neg c, if_pos c1] at h
    rw [q4]
    exact h _ L (kz_r (by decide) (Or.inl ⟨rfl, by decide⟩) (kz_r (by decide) (Or.inl ⟨rfl, by decide⟩) hz))
  · rw [if_neg c, if_neg c1] at h
    exact h _ L (kz_r (by decide) (Or.inl ⟨rfl, by decide⟩) hz)
end
end
section
/-! the class's reader with into = 49, exact by the pure machine (template wip/pe/82.tpl.txt) -/
section
variable {S : sm_C} {d : Nat} {Φ : sm_Z → Prop} {I I0 : sm_I} {L L0 : sm_L} {R : sm_R} {a : sg}
theorem k49_T (hz : kz 49 a I L I0 L0) (c j : Nat) (h1 : 12 ≤ c) (h2 : c < 49) : I (c + (49 - 12)) j = a.1 c j := hz.1.2.2.2.1 c j h1 h2
theorem k49_up {c j : Nat} {v : Int32} (h1 : 12 ≤ c) (h2 : c < 49) (hz : kz 49 a I L I0 L0) : kz 49 (u2 a c j v) (sm_up I (c + (49 - 12)) j v) L I0 L0 := kz_t (by decide) h1 h2 hz
theorem k49_find1 {y1 : Int64} {x3 : Int32} (hz : kz 49 a I L I0 L0) (b0 : 0 ≤ (I 2 5).toInt) (b1 : (I 2 5).toInt ≤ 35) : ∀ (m i : Nat) (x4 : Int32), x4.toInt = i → i + m = cnt a.1 → Φ (some (.int (fnd a.1 a.2 y1 x3 m i)), (xLay, I, L, kQ49 R)) → sm_wp sm_P S d 272 1 [.ref 2, .long y1, .int x3, .int x4] [] (xLay, I, L, kQ49 R) (0, 0) Φ := by
  have e5 : I 2 5 = a.1 2 5 := hz.1.1 5 (by decide)
  have nc : ((cnt a.1 : Nat) : Int) = (I 2 5).toInt := by unfold cnt; rw [← e5]; exact kl_nat b0
  intro m
  induction m with
  | zero =>
    intro i x4 hx hm h
    refine s49_X7_find_1 ⟨fun _ => h, fun c => ?_⟩
    have := kl_nle c
    omega
  | succ m ih =>
    intro i x4 hx hm h
    have n4 := tk_nat hx
    have s := ml_in1 (x := x4) (by omega)
    have v : vp_in x4 35 := kl_in (by omega) (by omega)
    have h : Φ (some (.int (if a.2 i = y1 then (if a.1 10 i = x3 then a.1 11 i else fnd a.1 a.2 y1 x3 m (i + 1)) else fnd a.1 a.2 y1 x3 m (i + 1))), (xLay, I, L, kQ49 R)) := h
    have e9 : L 9 x4.toNatClampNeg = a.2 i := by rw [n4]; exact hz.1.2.2.2.2 i
    have e10 : I 10 x4.toNatClampNeg = a.1 10 i := by rw [n4]; exact hz.1.2.1 i
    have e11 : I 11 x4.toNatClampNeg = a.1 11 i := by rw [n4]; exact hz.1.2.2.1 i
    refine s49_X7_find_1 ⟨fun c => ?_, fun c => ⟨v, fun c1 => ⟨v, fun c2 => ⟨v, ?_⟩, fun c2 => ?_⟩, fun c1 => ?_⟩⟩
    · have := kl_le.mp c
      omega
    · rw [tk_lg, e9] at c1
      rw [e10] at c2
      rw [if_pos c1, if_pos c2] at h
      rw [e11]; exact h
    · rw [tk_lg, e9] at c1
      rw [e10] at c2
      rw [if_pos c1, if_neg c2] at h
      exact ih (i + 1) _ (by omega) (by omega) h
    · rw [tk_lg, e9] at c1
      rw [if_neg c1] at h
      exact ih (i + 1) _ (by omega) (by omega) h
theorem k49_find {y1 : Int64} {x3 : Int32} (hz : kz 49 a I L I0 L0) (b0 : 0 ≤ (I 2 5).toInt) (b1 : (I 2 5).toInt ≤ 35) (h : Φ (some (.int (fd a y1 x3)), (xLay, I, L, kQ49 R))) : sm_wp sm_P S d 272 0 [.ref 2, .long y1, .int x3] [] (xLay, I, L, kQ49 R) (0, 0) Φ := s49_X7_find_0 (k49_find1 hz b0 b1 (cnt a.1) 0 0 (by decide) (by omega) h)
theorem k49_addSaying {x1 : Int32} {b : Bool} (hz : kz 49 a I L I0 L0) (hb : x1 = 0 ↔ b = false) (b0 : 0 ≤ (I 49 3).toInt) (h : ∀ J L', kz 49 (sy_new b a) J L' I0 L0 → Φ (none, (xLay, J, L', kQ49 R))) : sm_wp sm_P S d 14 0 [.ref 49, .int x1] [] (xLay, I, L, kQ49 R) (0, 0) Φ := by
  have e3 : I 49 3 = a.1 12 3 := k49_T hz 12 3 (by decide) (by decide)
  have e6 : I 49 6 = a.1 12 6 := k49_T hz 12 6 (by decide) (by decide)
  have c10 : (10 : Int32).toInt = 10 := by decide
  have c4 : (4 : Int32).toInt = 4 := by decide
  have fin : ∀ (a1 : sg) (J : sm_I), kz 49 a1 J L I0 L0 → J 49 3 = I 49 3 → I 49 3 < 10 → sy_new b a = u2 (u2 (u2 a1 22 (a.1 12 3).toNatClampNeg 1) 23 (a.1 12 3 * 4).toNatClampNeg 1) 12 3 (a.1 12 3 + 1) → (vp_in (J 49 3) 10) ∧ ∀ I1 : sm_I, I1 = (sm_up J 59 (J 49 3).toNatClampNeg (1 : Int32)) → (vp_in ((I1 49 3) * (4 : Int32)) 40) ∧ ∀ I2 : sm_I, I2 = (sm_up I1 60 ((I1 49 3) * (4 : Int32)).toNatClampNeg (1 : Int32)) → ∀ I3 : sm_I, I3 = (sm_up I2 49 3 ((I2 49 3) + (1 : Int32))) → Φ (none, (xLay, I3, L, (kQ49 R))) := by
    intro a1 J hJ eJ c ea
    have c := kl_lt.mp c
    have m4 : (I 49 3 * 4).toInt = (I 49 3).toInt * 4 := ml_mu rfl c4 (by omega) (by omega)
    refine ⟨by rw [eJ]; exact kl_in b0 (by omega), fun I1 q1 => ?_⟩
    have g1 : I1 49 3 = I 49 3 := by rw [q1, en_up_ne _ _ _ _ (by omega)]; exact eJ
    rw [g1]
    refine ⟨kl_in (by omega) (by omega), fun I2 q2 I3 q3 => h I3 L ?_⟩
    have g2 : I2 49 3 = I 49 3 := by rw [q2, en_up_ne _ _ _ _ (by omega)]; exact g1
    rw [ea, q3, g2, q2, q1, eJ, ← e3]
    exact k49_up (by decide) (by decide) (k49_up (by decide) (by decide) (k49_up (by decide) (by decide) hJ))
  refine s49_X10_addSaying_0 ⟨fun c => ⟨fun c1 => fin a I hz rfl c ?_, fun c1 n4 q4 => fin (u2 a 12 6 n4) _ (k49_up (by decide) (by decide) hz) (en_up_ne _ _ _ _ (by omega)) c ?_⟩, fun c => ?_⟩
  · unfold sy_new
    rw [if_pos (by rw [← e3]; exact c), if_neg (by rw [hb.mp c1]; decide)]
  · unfold sy_new
    have bt : b = true := by
      cases e : b with
      | true => rfl
      | false => exact absurd (hb.mpr e) c1
    rw [if_pos (by rw [← e3]; exact c), if_pos bt, q4, e3, e6]
  · refine h I L ?_
    unfold sy_new
    rw [if_neg (by rw [← e3]; exact c)]; exact hz
theorem k49_numberNew {x1 : Int32} (hz : kz 49 a I L I0 L0) (b0 : 0 ≤ (I 49 3).toInt) (h : ∀ J L', kz 49 (nb_new x1 a).2 J L' I0 L0 → Φ (some (.int (nb_new x1 a).1), (xLay, J, L', kQ49 R))) : sm_wp sm_P S (d + 1) 275 0 [.ref 2, .int x1] [] (xLay, I, L, kQ49 R) (0, 0) Φ := by
  have e0 : I 49 0 = a.1 12 0 := k49_T hz 12 0 (by decide) (by decide)
  have e1 : I 49 1 = a.1 12 1 := k49_T hz 12 1 (by decide) (by decide)
  have e2 : I 49 2 = a.1 12 2 := k49_T hz 12 2 (by decide) (by decide)
  have e4 : I 49 4 = a.1 12 4 := k49_T hz 12 4 (by decide) (by decide)
  have e7 : I 2 7 = a.1 2 7 := hz.1.1 7 (by decide)
  unfold nb_new at h
  refine s49_X7_numberNew_0 ⟨fun c n q => ?_, fun c => ⟨fun c1 n q => ?_, fun c1 => ⟨fun c2 n q => ?_, fun c2 => ⟨fun c3 n q => ?_, fun c3 => ⟨fun c4 => ?_, fun c4 => ?_⟩⟩⟩⟩⟩
  · rw [if_pos c] at h
    rw [en_up_eq]
    have en : n = mnn 4 (a.1 12 0) := by rw [q, e0]; rfl
    rw [en]
    exact h _ L (k49_up (by decide) (by decide) hz)
  · rw [if_neg c, if_pos c1] at h
    rw [en_up_eq]
    have en : n = mnn 6 (a.1 12 1) := by rw [q, e1]; rfl
    rw [en]
    exact h _ L (k49_up (by decide) (by decide) hz)
  · rw [if_neg c, if_neg c1, if_pos c2] at h
    rw [en_up_eq]
    have en : n = mnn 10 (a.1 12 2) := by rw [q, e2]; rfl
    rw [en]
    exact h _ L (k49_up (by decide) (by decide) hz)
  · rw [if_neg c, if_neg c1, if_neg c2, if_pos c3] at h
    rw [en_up_eq]
    have en : n = mnn 5 (a.1 12 4) := by rw [q, e4]; rfl
    rw [en]
    exact h _ L (k49_up (by decide) (by decide) hz)
  · rw [if_neg c, if_neg c1, if_neg c2, if_neg c3, decide_eq_true (by rw [← e7]; exact c4)] at h
    refine k49_addSaying (b := true) hz (by decide) b0 (fun J L' hJ => ⟨J, L', rfl, ?_⟩)
    rw [show J 49 3 = (sy_new true a).1 12 3 from k49_T hJ 12 3 (by decide) (by decide)]
    exact h J L' hJ
  · rw [if_neg c, if_neg c1, if_neg c2, if_neg c3, decide_eq_false (by rw [← e7]; exact c4)] at h
    refine k49_addSaying (b := false) hz (by decide) b0 (fun J L' hJ => ⟨J, L', rfl, ?_⟩)
    rw [show J 49 3 = (sy_new false a).1 12 3 from k49_T hJ 12 3 (by decide) (by decide)]
    exact h J L' hJ
theorem k49_takeNew1 {y1 : Int64} (hz : kz 49 a I L I0 L0) (b0 : 0 ≤ (I 2 5).toInt) (b1 : (I 2 5).toInt ≤ 35) (s0 : 0 ≤ (I 49 3).toInt) (h : ∀ J L', kz 49 (tk_new y1 a).2 J L' I0 L0 → Φ (some (.int (tk_new y1 a).1), (xLay, J, L', kQ49 R))) : ∀ (m i : Nat) (x3 : Int32), x3.toInt = i → i + m = cnt a.1 → twc a.2 y1 m i = twc a.2 y1 (cnt a.1) 0 → sm_wp sm_P S (d + 2) 280 1 [.ref 2, .long y1, .int x3] [] (xLay, I, L, kQ49 R) (0, 0) Φ := by
  have e5 : I 2 5 = a.1 2 5 := hz.1.1 5 (by decide)
  have e7 : I 2 7 = a.1 2 7 := hz.1.1 7 (by decide)
  have nc : ((cnt a.1 : Nat) : Int) = (I 2 5).toInt := by unfold cnt; rw [← e5]; exact kl_nat b0
  have nn : (I 2 5).toNatClampNeg = cnt a.1 := by unfold cnt; rw [e5]
  have c35 : (35 : Int32).toInt = 35 := by decide
  have add : ∀ kd : Int32, kd = nm_kd a → twc a.2 y1 (cnt a.1) 0 = false → ¬ (35 : Int32) ≤ (I 2 5) → (vp_in (I 2 5) 35) ∧ ∀ L1 : sm_L, L1 = (sm_up L 9 (I 2 5).toNatClampNeg y1) → (vp_in (I 2 5) 35) ∧ ∀ I2 : sm_I, I2 = (sm_up I 10 (I 2 5).toNatClampNeg kd) → sm_wp sm_P S (d + 1) 275 0 [.ref 2, .int kd] [] (xLay, I2, L1, (kQ49 R)) (0, 0) (fun z => ∃ (r5 : Int32) (I3 : sm_I) (L4 : sm_L), z = (some (.int r5), (xLay, I3, L4, (kQ49 R))) ∧ (vp_in (I2 2 5) 35) ∧ ∀ I6 : sm_I, I6 = (sm_up I3 11 (I2 2 5).toNatClampNeg r5) → ∀ I7 : sm_I, I7 = (sm_up I6 2 5 ((I6 2 5) + (1 : Int32))) → Φ (some (.int (0 : Int32)), (xLay, I7, L4, (kQ49 R)))) := by
    intro kd ek tw c
    have c' := kl_nle c
    have v : vp_in (I 2 5) 35 := kl_in b0 (by omega)
    refine ⟨v, fun L1 q1 => ⟨v, fun I2 q2 => ?_⟩⟩
    have g5 : I2 2 5 = I 2 5 := by rw [q2, en_up_ne _ _ _ _ (by omega)]
    have hz2 : kz 49 (sm_up a.1 10 (cnt a.1) (nm_kd a), nmu a.2 (cnt a.1) y1) I2 L1 I0 L0 := by
      rw [q2, q1, nn, ek]
      exact kz_l (kz_r (by decide) (Or.inr (Or.inl rfl)) hz)
    refine k49_numberNew hz2 (by rw [q2, en_up_ne _ _ _ _ (by omega)]; exact s0) (fun J L' hJ => ⟨_, J, L', rfl, by rw [g5]; exact v, fun I6 q6 I7 q7 => ?_⟩)
    rw [ek] at hJ q6
    have n35 : ¬ (35 : Int32) ≤ a.1 2 5 := by rw [← e5]; exact c
    have et : tk_new y1 a = (0, nm_add y1 a) := by unfold tk_new; rw [if_neg (by rw [tw]; decide), if_neg n35]
    rw [et] at h
    refine h I7 L' ?_
    have g65 : I6 2 5 = a.1 2 5 := by
      rw [q6, en_up_ne _ _ _ _ (by omega), hJ.1.1 5 (by decide)]
      unfold nb_new sy_new u2
      show (if _ then _ else _ : Int32 × sg).2.1 2 5 = _
      repeat' split
      all_goals first | rfl | (simp only [en_up_ne _ _ _ _ (show ¬ ((2 : Nat) = 12 ∧ (5 : Nat) = 0) by decide), en_up_ne _ _ _ _ (show ¬ ((2 : Nat) = 12 ∧ (5 : Nat) = 1) by decide), en_up_ne _ _ _ _ (show ¬ ((2 : Nat) = 12 ∧ (5 : Nat) = 2) by decide), en_up_ne _ _ _ _ (show ¬ ((2 : Nat) = 12 ∧ (5 : Nat) = 3) by decide), en_up_ne _ _ _ _ (show ¬ ((2 : Nat) = 12 ∧ (5 : Nat) = 4) by decide), en_up_ne _ _ _ _ (show ¬ ((2 : Nat) = 12 ∧ (5 : Nat) = 6) by decide), sm_up]; simp)
    rw [q7, g65, q6, g5, nn]
    exact kz_r (by decide) (Or.inl ⟨rfl, by decide⟩) (kz_r (by decide) (Or.inr (Or.inr rfl)) hJ)
  have none_ : twc a.2 y1 (cnt a.1) 0 = false → (35 : Int32) ≤ (I 2 5) → Φ (some (.int (0 : Int32)), (xLay, I, L, (kQ49 R))) := fun tw c => by
    have et : tk_new y1 a = (0, a) := by unfold tk_new; rw [if_neg (by rw [tw]; decide), if_pos (by rw [← e5]; exact c)]
    rw [et] at h
    exact h I L hz
  intro m
  induction m with
  | zero =>
    intro i x3 hx hm ht
    have tw : twc a.2 y1 (cnt a.1) 0 = false := ht.symm
    refine s49_X7_takeNew_1 ⟨fun _ => ⟨fun c8 => ⟨none_ tw, add 6 (by unfold nm_kd; rw [if_pos (by rw [← e7]; exact c8)]) tw⟩, fun c8 => ⟨none_ tw, add (I 2 7) (by unfold nm_kd; rw [if_neg (by rw [← e7]; exact c8), e7]) tw⟩⟩, fun c => ?_⟩
    have := kl_nle c
    omega
  | succ m ih =>
    intro i x3 hx hm ht
    have n4 := tk_nat hx
    have s := ml_in1 (x := x3) (by omega)
    have v : vp_in x3 35 := kl_in (by omega) (by omega)
    have ht : (if a.2 i = y1 then true else twc a.2 y1 m (i + 1)) = twc a.2 y1 (cnt a.1) 0 := ht
    have e9 : L 9 x3.toNatClampNeg = a.2 i := by rw [n4]; exact hz.1.2.2.2.2 i
    refine s49_X7_takeNew_1 ⟨fun c => ?_, fun c => ⟨v, fun c1 => ?_, fun c1 => ?_⟩⟩
    · have := kl_le.mp c
      omega
    · rw [tk_lg, e9] at c1
      rw [if_pos c1] at ht
      have et : tk_new y1 a = (3, a) := by unfold tk_new; rw [if_pos ht.symm]
      rw [et] at h
      exact h I L hz
    · rw [tk_lg, e9] at c1
      rw [if_neg c1] at ht
      exact ih (i + 1) _ (by omega) (by omega) ht
theorem k49_takeNew {y1 : Int64} (hz : kz 49 a I L I0 L0) (b0 : 0 ≤ (I 2 5).toInt) (b1 : (I 2 5).toInt ≤ 35) (s0 : 0 ≤ (I 49 3).toInt) (h : ∀ J L', kz 49 (tk_new y1 a).2 J L' I0 L0 → Φ (some (.int (tk_new y1 a).1), (xLay, J, L', kQ49 R))) : sm_wp sm_P S (d + 2) 280 0 [.ref 2, .long y1] [] (xLay, I, L, kQ49 R) (0, 0) Φ := s49_X7_takeNew_0 (k49_takeNew1 hz b0 b1 s0 h (cnt a.1) 0 0 (by decide) (by omega) rfl)
theorem k49_takePath {x1 : Int32} {y2 : Int64} (hz : kz 49 a I L I0 L0) (b0 : 0 ≤ (I 2 5).toInt) (b1 : (I 2 5).toInt ≤ 35) (h : ∀ J L', kz 49 (tk_path x1 y2 a).2 J L' I0 L0 → Φ (some (.int (tk_path x1 y2 a).1), (xLay, J, L', kQ49 R))) : sm_wp sm_P S (d + 1) 282 0 [.ref 2, .int x1, .long y2] [] (xLay, I, L, kQ49 R) (0, 0) Φ := by
  have e8 : I 2 8 = a.1 2 8 := hz.1.1 8 (by decide)
  unfold tk_path at h
  refine s49_X7_takePath_0 (k49_find hz b0 b1 ⟨_, I, L, rfl, fun c => ?_, fun c => ⟨fun c1 => ?_, fun c1 => ?_⟩⟩)
  · rw [if_pos c] at h; exact h I L hz
  · rw [if_neg c, if_pos c1] at h
    exact h _ L (kz_r (by decide) (Or.inl ⟨rfl, by decide⟩) hz)
  · rw [if_neg c, if_neg c1] at h
    rw [en_up_eq, en_up_ne _ _ _ _ (by omega), e8]
    refine ⟨fun c2 => ?_, fun c2 => ?_⟩
    · rw [if_pos c2] at h
      exact h _ L (kz_r (by decide) (Or.inl ⟨rfl, by decide⟩) hz)
    · rw [if_neg c2] at h
      exact h _ L (kz_r (by decide) (Or.inl ⟨rfl, by decide⟩) hz)
theorem k49_putLastPerson {x2 : Int32} (hz : kz 49 a I L I0 L0) (h : ∀ J L', kz 49 (pl_last 14 x2 a) J L' I0 L0 → Φ (none, (xLay, J, L', kQ49 R))) : sm_wp sm_P S d 24 0 [.ref 49, .ref 51, .int x2] [] (xLay, I, L, kQ49 R) (0, 0) Φ := by
  have e2 : I 49 2 = a.1 12 2 := k49_T hz 12 2 (by decide) (by decide)
  have c10 : (10 : Int32).toInt = 10 := by decide
  have c10' : (Int32.ofNat 10).toInt = 10 := by decide
  unfold pl_last at h
  refine s49_X10_putLastPerson_0 ⟨fun c => ?_, fun c => ⟨fun c1 => ?_, fun c1 => ⟨?_, fun I1 q1 => ?_⟩⟩⟩
  · rw [if_pos (by rw [← e2]; exact c)] at h; exact h I L hz
  · rw [if_neg (by rw [← e2]; exact c), if_pos (by rw [← e2]; exact c1)] at h; exact h I L hz
  · have c := kl_nle c
    have c1 := kl_nlt c1
    rw [kl_0] at c
    rw [c10'] at c1
    have s : (I 49 2 - 1).toInt = (I 49 2).toInt - 1 := by rw [Int32.toInt_sub, kl_1]; exact en_bmod (by omega) (by omega) (Or.inl rfl)
    exact kl_in (by omega) (by omega)
  · rw [if_neg (by rw [← e2]; exact c), if_neg (by rw [← e2]; exact c1)] at h
    rw [q1, e2]
    exact h _ L (k49_up (by decide) (by decide) hz)
theorem k49_putLastPlace {x2 : Int32} (hz : kz 49 a I L I0 L0) (h : ∀ J L', kz 49 (pl_last 15 x2 a) J L' I0 L0 → Φ (none, (xLay, J, L', kQ49 R))) : sm_wp sm_P S d 24 0 [.ref 49, .ref 52, .int x2] [] (xLay, I, L, kQ49 R) (0, 0) Φ := by
  have e2 : I 49 2 = a.1 12 2 := k49_T hz 12 2 (by decide) (by decide)
  have c10' : (Int32.ofNat 10).toInt = 10 := by decide
  unfold pl_last at h
  refine s49_X10_putLastPlace_0 ⟨fun c => ?_, fun c => ⟨fun c1 => ?_, fun c1 => ⟨?_, fun I1 q1 => ?_⟩⟩⟩
  · rw [if_pos (by rw [← e2]; exact c)] at h; exact h I L hz
  · rw [if_neg (by rw [← e2]; exact c), if_pos (by rw [← e2]; exact c1)] at h; exact h I L hz
  · have c := kl_nle c
    have c1 := kl_nlt c1
    rw [kl_0] at c
    rw [c10'] at c1
    have s : (I 49 2 - 1).toInt = (I 49 2).toInt - 1 := by rw [Int32.toInt_sub, kl_1]; exact en_bmod (by omega) (by omega) (Or.inl rfl)
    exact kl_in (by omega) (by omega)
  · rw [if_neg (by rw [← e2]; exact c), if_neg (by rw [← e2]; exact c1)] at h
    rw [q1, e2]
    exact h _ L (k49_up (by decide) (by decide) hz)
theorem k49_takeWhere {x1 : Int32} {y2 : Int64} (hz : kz 49 a I L I0 L0) (b0 : 0 ≤ (I 2 5).toInt) (b1 : (I 2 5).toInt ≤ 35) (h : ∀ J L', kz 49 (tk_where x1 y2 a).2 J L' I0 L0 → Φ (some (.int (tk_where x1 y2 a).1), (xLay, J, L', kQ49 R))) : sm_wp sm_P S (d + 1) 285 0 [.ref 2, .int x1, .long y2] [] (xLay, I, L, kQ49 R) (0, 0) Φ := by
  unfold tk_where at h
  refine s49_X7_takeWhere_0 ⟨fun c => ⟨fun z => absurd z (by decide), fun _ => ?_⟩, fun c => ⟨fun _ => ?_, fun z => absurd rfl z⟩⟩
  · rw [if_pos c] at h
    refine k49_find hz b0 b1 ⟨_, I, L, rfl, fun c1 => ?_, fun c1 => ⟨fun z => absurd z (by decide), fun _ => ?_⟩⟩
    · rw [if_pos c1] at h; exact h I L hz
    · rw [if_neg c1] at h
      exact k49_putLastPerson hz (fun J L' hJ => ⟨J, L', rfl, h J L' hJ⟩)
  · rw [if_neg c] at h
    refine k49_find hz b0 b1 ⟨_, I, L, rfl, fun c1 => ?_, fun c1 => ⟨fun _ => ?_, fun z => absurd rfl z⟩⟩
    · rw [if_pos c1] at h; exact h I L hz
    · rw [if_neg c1] at h
      exact k49_putLastPlace hz (fun J L' hJ => ⟨J, L', rfl, h J L' hJ⟩)
theorem k49_isOpen {x1 : Int32} (hz : kz 49 a I L I0 L0) (h : Φ (some (.int (if is_op x1 a = true then 1 else 0)), (xLay, I, L, kQ49 R))) : sm_wp sm_P S (d + 1) 21 0 [.ref 49, .int x1] [] (xLay, I, L, kQ49 R) (0, 0) Φ := by
  have c10' : (Int32.ofNat 10).toInt = 10 := by decide
  have c10 : (10 : Int32).toInt = 10 := by decide
  unfold is_op at h
  refine s49_X10_isOpen_0 (s49v18_X11_valueAt_0 ⟨fun c => ⟨_, I, L, rfl, fun _ => ?_, fun z => absurd rfl z⟩, fun c => ⟨fun c1 => ⟨_, I, L, rfl, fun _ => ?_, fun z => absurd rfl z⟩, fun c1 => ⟨?_, _, I, L, rfl, fun c2 => ?_, fun c2 => ?_⟩⟩⟩)
  · rw [if_pos c] at h; exact h
  · rw [if_neg c, if_pos (show (10 : Int32) ≤ x1 from c1)] at h; exact h
  · have c := kl_nlt0 c
    have c1 := kl_nle c1
    exact kl_in c (by omega)
  · rw [if_neg c, if_neg (show ¬ (10 : Int32) ≤ x1 from c1)] at h
    rw [show I 55 x1.toNatClampNeg = a.1 18 x1.toNatClampNeg from k49_T hz 18 _ (by decide) (by decide)] at c2
    rw [decide_eq_false (fun z => z c2)] at h; exact h
  · rw [if_neg c, if_neg (show ¬ (10 : Int32) ≤ x1 from c1)] at h
    rw [show I 55 x1.toNatClampNeg = a.1 18 x1.toNatClampNeg from k49_T hz 18 _ (by decide) (by decide)] at c2
    rw [decide_eq_true c2] at h; exact h
theorem k49_oy {Ψ : Int32 → Prop} (hz : kz 49 a I L I0 L0) (t0 : 0 ≤ (I 49 2).toInt) (t1 : (I 49 2).toInt ≤ 10) (h : Φ (some (.int (if oy a.1 (a.1 2 8) (a.1 12 2).toNatClampNeg 0 = true then 5 else 0)), (xLay, I, L, kQ49 R))) : ∀ (m i : Nat) (x5 : Int32), x5.toInt = i → i + m = (a.1 12 2).toNatClampNeg → oy a.1 (a.1 2 8) m i = oy a.1 (a.1 2 8) (a.1 12 2).toNatClampNeg 0 → sm_wp sm_P S (d + 1) 281 11 [.ref 2, .int x5] [] (xLay, I, L, kQ49 R) (0, 0) Φ := by
  have e2 : I 49 2 = a.1 12 2 := k49_T hz 12 2 (by decide) (by decide)
  have e8 : I 2 8 = a.1 2 8 := hz.1.1 8 (by decide)
  have nc : (((a.1 12 2).toNatClampNeg : Nat) : Int) = (I 49 2).toInt := by rw [← e2]; exact kl_nat t0
  intro m
  induction m with
  | zero =>
    intro i x5 hx hm ht
    refine s49_X7_takeOpen_11 ⟨fun _ => ?_, fun c => ?_⟩
    · have ht : false = oy a.1 (a.1 2 8) (a.1 12 2).toNatClampNeg 0 := ht
      rw [← ht] at h; exact h
    · have := kl_nle c
      omega
  | succ m ih =>
    intro i x5 hx hm ht
    have n4 := tk_nat hx
    have s := ml_in1 (x := x5) (by omega)
    have ht : (if a.1 18 i = a.1 2 8 then true else oy a.1 (a.1 2 8) m (i + 1)) = oy a.1 (a.1 2 8) (a.1 12 2).toNatClampNeg 0 := ht
    have e18 : I 55 x5.toNatClampNeg = a.1 18 i := by rw [n4]; exact k49_T hz 18 _ (by decide) (by decide)
    refine s49_X7_takeOpen_11 ⟨fun c => ?_, fun c => ⟨kl_in (by omega) (by omega), fun c1 => ?_, fun c1 => ?_⟩⟩
    · have := kl_le.mp c
      omega
    · rw [e18, e8] at c1
      rw [if_pos c1] at ht
      rw [← ht] at h; exact h
    · rw [e18, e8] at c1
      rw [if_neg c1] at ht
      exact ih (i + 1) _ (by omega) (by omega) ht
theorem k49_takeOpen {x1 : Int32} {y2 : Int64} (hz : kz 49 a I L I0 L0) (b0 : 0 ≤ (I 2 5).toInt) (b1 : (I 2 5).toInt ≤ 35) (t0 : 0 ≤ (I 49 2).toInt) (t1 : (I 49 2).toInt ≤ 10) (h : ∀ J L', kz 49 (tk_open x1 y2 a).2 J L' I0 L0 → Φ (some (.int (tk_open x1 y2 a).1), (xLay, J, L', kQ49 R))) : sm_wp sm_P S (d + 2) 281 0 [.ref 2, .int x1, .long y2] [] (xLay, I, L, kQ49 R) (0, 0) Φ := by
  have e8 : I 2 8 = a.1 2 8 := hz.1.1 8 (by decide)
  unfold tk_open at h
  refine s49_X7_takeOpen_0 (k49_find hz b0 b1 ⟨_, I, L, rfl, fun c => ?_, fun c => ⟨fun c1 => ?_, fun c1 => ?_⟩⟩)
  · rw [if_pos c] at h; exact h I L hz
  · rw [if_neg c, if_pos c1] at h
    rw [en_up_eq]
    have hJ := kz_r (v := fd a y2 3) (by decide) (Or.inl ⟨rfl, (by decide : (8 : Nat) ≠ 11)⟩) hz
    have g := h _ L hJ
    have eo : is_op (fd a y2 3) (u2 a 2 8 (fd a y2 3)) = is_op (fd a y2 3) a := by
      unfold is_op
      rw [show ∀ i, (u2 a 2 8 (fd a y2 3)).1 18 i = a.1 18 i from fun i => u2_ne _ _ _ _ (by omega)]
    refine k49_isOpen hJ ⟨_, _, L, rfl, fun c2 => ?_, fun c2 => ?_⟩
    · rw [eo, tk_if] at c2
      rw [if_neg (by rw [c2]; decide)] at g; exact g
    · rw [eo, tk_if1] at c2
      rw [if_pos c2] at g; exact g
  · rw [if_neg c, if_neg c1] at h
    rw [en_up_eq, en_up_ne _ _ _ _ (by omega), e8]
    have hJ := kz_r (v := fd a y2 3) (by decide) (Or.inl ⟨rfl, (by decide : (9 : Nat) ≠ 11)⟩) hz
    have g := h _ L hJ
    have eo : is_op (fd a y2 3) (u2 a 2 9 (fd a y2 3)) = is_op (fd a y2 3) a := by
      unfold is_op
      rw [show ∀ i, (u2 a 2 9 (fd a y2 3)).1 18 i = a.1 18 i from fun i => u2_ne _ _ _ _ (by omega)]
    have ey : ∀ m i, oy (u2 a 2 9 (fd a y2 3)).1 ((u2 a 2 9 (fd a y2 3)).1 2 8) m i = oy a.1 (a.1 2 8) m i := by
      intro m
      have q8 : (u2 a 2 9 (fd a y2 3)).1 2 8 = a.1 2 8 := u2_ne _ _ _ _ (by omega)
      rw [q8]
      induction m with
      | zero => intro i; rfl
      | succ m ih =>
        intro i
        show (if (u2 a 2 9 (fd a y2 3)).1 18 i = a.1 2 8 then true else oy (u2 a 2 9 (fd a y2 3)).1 (a.1 2 8) m (i + 1)) = (if a.1 18 i = a.1 2 8 then true else oy a.1 (a.1 2 8) m (i + 1))
        rw [ih, show (u2 a 2 9 (fd a y2 3)).1 18 i = a.1 18 i from u2_ne _ _ _ _ (by omega)]
    have e12 : (u2 a 2 9 (fd a y2 3)).1 12 2 = a.1 12 2 := u2_ne _ _ _ _ (by omega)
    refine ⟨fun c2 => ?_, fun c2 => ?_⟩
    · rw [if_pos c2] at g; exact g
    · rw [if_neg c2] at g
      refine k49_isOpen hJ ⟨_, _, L, rfl, fun c3 => ?_, fun c3 => ?_⟩
      · rw [eo, tk_if] at c3
        rw [if_neg (by rw [c3]; decide)] at g
        refine k49_oy (Ψ := fun _ => True) hJ (by rw [en_up_ne _ _ _ _ (by omega)]; exact t0) (by rw [en_up_ne _ _ _ _ (by omega)]; exact t1) ?_ ((u2 a 2 9 (fd a y2 3)).1 12 2).toNatClampNeg 0 0 (by decide) (by omega) rfl
        rw [ey, e12]; exact g
      · rw [eo, tk_if1] at c3
        rw [if_pos c3] at g; exact g
theorem k49_takeSpanTime {x1 : Int32} {y2 : Int64} (hz : kz 49 a I L I0 L0) (b0 : 0 ≤ (I 2 5).toInt) (b1 : (I 2 5).toInt ≤ 35) (h : ∀ J L', kz 49 (tk_span x1 y2 a).2 J L' I0 L0 → Φ (some (.int (tk_span x1 y2 a).1), (xLay, J, L', kQ49 R))) : sm_wp sm_P S (d + 1) 283 0 [.ref 2, .int x1, .long y2] [] (xLay, I, L, kQ49 R) (0, 0) Φ := by
  unfold tk_span at h
  refine s49_X7_takeSpanTime_0 (k49_find hz b0 b1 ⟨_, I, L, rfl, fun c => ?_, fun c => ⟨fun c1 I4 q4 => ?_, fun c1 => ?_⟩⟩)
  · rw [if_pos c] at h; exact h I L hz
  · rw [if_neg c, if_pos c1] at h
    rw [q4]
    exact h _ L (kz_r (by decide) (Or.inl ⟨rfl, by decide⟩) (kz_r (by decide) (Or.inl ⟨rfl, by decide⟩) hz))
  · rw [if_neg c, if_neg c1] at h
    exact h _ L (kz_r (by decide) (Or.inl ⟨rfl, by decide⟩) hz)
end
end
section
/-! the class's reader with into = 12, exact by the pure machine, second part (template wip/pe/83.tpl.txt) -/
section
variable {S : sm_C} {d : Nat} {Φ : sm_Z → Prop} {I I0 : sm_I} {L L0 : sm_L} {R : sm_R} {a : sg}
theorem k12_addPart6 {x2 : Int32} (hz : kz 12 a I L I0 L0) (q0 : 0 ≤ x2.toInt) (q1 : x2.toInt < 10) (h : ∀ J L', kz 12 (ad_pt6 x2 a) J L' I0 L0 → Φ (none, (xLay, J, L', kQ12 R))) : sm_wp sm_P S d 12 6 [.ref 12, .int x2] [] (xLay, I, L, kQ12 R) (0, 0) Φ := by
  have e22 : I 22 x2.toNatClampNeg = a.1 22 x2.toNatClampNeg := k12_T hz 22 _ (by decide) (by decide)
  have e23 : ∀ j, I 23 j = a.1 23 j := fun j => k12_T hz 23 j (by decide) (by decide)
  have c40 : (Int32.ofNat 40).toInt = 40 := by decide
  unfold ad_pt6 at h
  refine s12_X10_addPart_6 ⟨kl_in q0 (by omega), fun n1 en => ?_⟩
  rw [e22] at en
  rw [← en] at h
  refine ⟨fun c => ?_, fun c => ⟨fun c1 => ?_, fun c1 => ?_⟩⟩
  · rw [if_pos c] at h; exact s12_X10_addPart_10 (h I L hz)
  · rw [if_neg c, if_pos (show (40 : Int32) ≤ n1 from c1)] at h; exact s12_X10_addPart_10 (h I L hz)
  · rw [if_neg c, if_neg (show ¬ (40 : Int32) ≤ n1 from c1)] at h
    have c := kl_nlt0 c
    have c1 := kl_nle c1
    have v : vp_in n1 40 := kl_in c (by omega)
    rw [e23]
    refine ⟨v, fun c2 => ?_, fun c2 => ⟨v, fun n2 en2 => ⟨v, fun I3 q3 => ?_⟩⟩⟩
    · rw [if_pos c2] at h; exact s12_X10_addPart_10 (h I L hz)
    · rw [if_neg c2] at h
      rw [q3, en2]
      exact s12_X10_addPart_10 (h _ L (k12_up (by decide) (by decide) hz))
theorem k12_addPart {x1 : Int32} {b : Bool} (hz : kz 12 a I L I0 L0) (hb : x1 = 0 ↔ b = false) (h : ∀ J L', kz 12 (ad_part b a) J L' I0 L0 → Φ (none, (xLay, J, L', kQ12 R))) : sm_wp sm_P S d 12 0 [.ref 12, .int x1] [] (xLay, I, L, kQ12 R) (0, 0) Φ := by
  have e3 : I 12 3 = a.1 12 3 := k12_T hz 12 3 (by decide) (by decide)
  have c10 : (10 : Int32).toInt = 10 := by decide
  unfold ad_part at h
  refine s12_X10_addPart_0 ?_
  rw [e3]
  have e22 : I 22 (a.1 12 3 - 1).toNatClampNeg = a.1 22 (a.1 12 3 - 1).toNatClampNeg := k12_T hz 22 _ (by decide) (by decide)
  rw [e22]
  refine ⟨fun c => ?_, fun c => ⟨fun c1 => ?_, fun c1 => ?_⟩⟩
  · rw [if_pos c] at h; exact h I L hz
  · rw [if_neg c, if_pos c1] at h
    have c0 := kl_nlt0 c
    have c9 := kl_lt.mp c1
    have v : vp_in (a.1 12 3 - 1) 10 := kl_in c0 (by omega)
    refine ⟨fun c2 => ?_, fun c2 => ⟨v, fun c3 => ?_, fun c3 => ⟨v, fun n1 en => ⟨v, fun I2 q2 => ?_⟩⟩⟩⟩
    · rw [if_neg (by rw [hb.mp c2]; decide)] at h
      exact k12_addPart6 hz c0 (by omega) h
    all_goals
      have bt : b = true := by
        cases e : b with
        | true => rfl
        | false => exact absurd (hb.mpr e) c2
      rw [if_pos bt] at h
    · rw [if_pos c3] at h
      exact k12_addPart6 hz c0 (by omega) h
    · rw [if_neg c3] at h
      rw [q2, en]
      exact k12_addPart6 (k12_up (by decide) (by decide) hz) c0 (by omega) h
  · rw [if_neg c, if_neg c1] at h; exact h I L hz
theorem k12_trustLast {x1 : Int32} (hz : kz 12 a I L I0 L0) (h : ∀ J L', kz 12 (tr_last x1 a) J L' I0 L0 → Φ (none, (xLay, J, L', kQ12 R))) : sm_wp sm_P S d 25 0 [.ref 12, .int x1] [] (xLay, I, L, kQ12 R) (0, 0) Φ := by
  have e3 : I 12 3 = a.1 12 3 := k12_T hz 12 3 (by decide) (by decide)
  have c10 : (10 : Int32).toInt = 10 := by decide
  unfold tr_last at h
  refine s12_X10_trustLast_0 ⟨fun c => ?_, fun c => ⟨fun c1 => ?_, fun c1 => ⟨?_, fun I1 q1 => ?_⟩⟩⟩
  · rw [if_pos (by rw [← e3]; exact c)] at h; exact h I L hz
  · rw [if_neg (by rw [← e3]; exact c), if_pos (by rw [← e3]; exact c1)] at h; exact h I L hz
  · have c := kl_nle c
    have c1 := kl_nlt c1
    rw [kl_0] at c
    have s : (I 12 3 - 1).toInt = (I 12 3).toInt - 1 := by rw [Int32.toInt_sub, kl_1]; exact en_bmod (by omega) (by omega) (Or.inl rfl)
    exact kl_in (by omega) (by omega)
  · rw [if_neg (by rw [← e3]; exact c), if_neg (by rw [← e3]; exact c1)] at h
    rw [q1, e3]
    exact h _ L (k12_up (by decide) (by decide) hz)
theorem k12_takeTrust {x1 : Int32} (hz : kz 12 a I L I0 L0) (h : ∀ J L', kz 12 (tk_trust x1 a).2 J L' I0 L0 → Φ (some (.int (tk_trust x1 a).1), (xLay, J, L', kQ12 R))) : sm_wp sm_P S (d + 1) 284 0 [.ref 2, .int x1] [] (xLay, I, L, kQ12 R) (0, 0) Φ := by
  unfold tk_trust at h
  refine s12_X7_takeTrust_0 ⟨fun c => ?_, fun c => ⟨fun c1 => ?_, fun c1 => ?_⟩⟩
  · rw [if_pos c] at h; exact h I L hz
  · rw [if_neg c, if_pos c1] at h
    exact k12_trustLast hz (fun J L' hJ => ⟨J, L', rfl, h J L' hJ⟩)
  · rw [if_neg c, if_neg c1] at h; exact h I L hz
theorem k12_sp16 {Ψ : sm_Z → Prop} {x1 x2 x3 x4 x5 : Int32} (hz : kz 12 a I L I0 L0) (h : ∀ J L', kz 12 (spb 16 10 x1 x2 x3 x4 x5 a) J L' I0 L0 → Ψ (none, (xLay, J, L', kQ12 R))) : sm_wp sm_P S (d + 1) 294 0 [.ref 16, .int x1, .int x2, .int x3] [] (xLay, I, L, kQ12 R) (0, 0) (fun z => ∃ (I1 : sm_I) (L2 : sm_L), z = (none, (xLay, I1, L2, (kQ12 R))) ∧ I1 2 10 = I 2 10 ∧ I1 2 8 = I 2 8 ∧ sm_wp sm_P S (d + 1) 286 0 [.ref 16, .int x1, .int x4, .int x5] [] (xLay, I1, L2, (kQ12 R)) (0, 0) Ψ) := by
  unfold spb at h
  refine s12c16_X8_put_0 (s12c16_X8_hasRow_0 ⟨fun c => ⟨_, I, L, rfl, fun _ => ⟨I, L, rfl, rfl, rfl, ?_⟩, fun z => absurd rfl z⟩, fun c => ⟨fun c1 => ⟨_, I, L, rfl, fun _ => ⟨I, L, rfl, rfl, rfl, ?_⟩, fun z => absurd rfl z⟩, fun c1 => ⟨_, I, L, rfl, fun z => absurd z (by decide), fun _ => ?_⟩⟩⟩)
  · rw [if_pos c] at h
    exact s12c16_X8_bound_0 (s12c16_X8_hasRow_0 ⟨fun _ => ⟨_, I, L, rfl, fun _ => h I L hz, fun z => absurd rfl z⟩, fun z => absurd c z⟩)
  · rw [if_neg c, if_pos c1] at h
    exact s12c16_X8_bound_0 (s12c16_X8_hasRow_0 ⟨fun z => absurd z c, fun _ => ⟨fun _ => ⟨_, I, L, rfl, fun _ => h I L hz, fun z => absurd rfl z⟩, fun z => absurd c1 z⟩⟩)
  · rw [if_neg c, if_neg c1] at h
    have c0 := kl_nlt0 c
    have c9 := kl_nle c1
    have v : vp_in x1 10 := kl_in c0 (by rw [show (Int32.ofNat 10).toInt = 10 from by decide] at c9; omega)
    refine ⟨v, fun I4 q4 => ⟨v, fun I5 q5 => ⟨I5, L, rfl, ?_, ?_, ?_⟩⟩⟩
    · rw [q5, en_up_ne _ _ _ _ (by omega), q4, en_up_ne _ _ _ _ (by omega)]
    · rw [q5, en_up_ne _ _ _ _ (by omega), q4, en_up_ne _ _ _ _ (by omega)]
    · refine s12c16_X8_bound_0 (s12c16_X8_hasRow_0 ⟨fun z => absurd z c, fun _ => ⟨fun z => absurd z c1, fun _ => ⟨_, I5, L, rfl, fun z => absurd z (by decide), fun _ => ⟨v, fun I6 q6 => ⟨v, fun I7 q7 => ?_⟩⟩⟩⟩⟩)
      rw [q7, q6, q5, q4]
      exact h _ L (k12_up (c := 20) (by decide) (by decide) (k12_up (c := 19) (by decide) (by decide) (k12_up (c := 18) (by decide) (by decide) (k12_up (c := 17) (by decide) (by decide) hz))))
theorem k12_sp24 {Ψ : sm_Z → Prop} {x1 x2 x3 x4 x5 : Int32} (hz : kz 12 a I L I0 L0) (h : ∀ J L', kz 12 (spb 24 120 x1 x2 x3 x4 x5 a) J L' I0 L0 → Ψ (none, (xLay, J, L', kQ12 R))) : sm_wp sm_P S (d + 1) 294 0 [.ref 24, .int x1, .int x2, .int x3] [] (xLay, I, L, kQ12 R) (0, 0) (fun z => ∃ (I1 : sm_I) (L2 : sm_L), z = (none, (xLay, I1, L2, (kQ12 R))) ∧ I1 2 10 = I 2 10 ∧ I1 2 8 = I 2 8 ∧ sm_wp sm_P S (d + 1) 286 0 [.ref 24, .int x1, .int x4, .int x5] [] (xLay, I1, L2, (kQ12 R)) (0, 0) Ψ) := by
  unfold spb at h
  refine s12c24_X8_put_0 (s12c24_X8_hasRow_0 ⟨fun c => ⟨_, I, L, rfl, fun _ => ⟨I, L, rfl, rfl, rfl, ?_⟩, fun z => absurd rfl z⟩, fun c => ⟨fun c1 => ⟨_, I, L, rfl, fun _ => ⟨I, L, rfl, rfl, rfl, ?_⟩, fun z => absurd rfl z⟩, fun c1 => ⟨_, I, L, rfl, fun z => absurd z (by decide), fun _ => ?_⟩⟩⟩)
  · rw [if_pos c] at h
    exact s12c24_X8_bound_0 (s12c24_X8_hasRow_0 ⟨fun _ => ⟨_, I, L, rfl, fun _ => h I L hz, fun z => absurd rfl z⟩, fun z => absurd c z⟩)
  · rw [if_neg c, if_pos c1] at h
    exact s12c24_X8_bound_0 (s12c24_X8_hasRow_0 ⟨fun z => absurd z c, fun _ => ⟨fun _ => ⟨_, I, L, rfl, fun _ => h I L hz, fun z => absurd rfl z⟩, fun z => absurd c1 z⟩⟩)
  · rw [if_neg c, if_neg c1] at h
    have c0 := kl_nlt0 c
    have c9 := kl_nle c1
    have v : vp_in x1 120 := kl_in c0 (by rw [show (Int32.ofNat 120).toInt = 120 from by decide] at c9; omega)
    refine ⟨v, fun I4 q4 => ⟨v, fun I5 q5 => ⟨I5, L, rfl, ?_, ?_, ?_⟩⟩⟩
    · rw [q5, en_up_ne _ _ _ _ (by omega), q4, en_up_ne _ _ _ _ (by omega)]
    · rw [q5, en_up_ne _ _ _ _ (by omega), q4, en_up_ne _ _ _ _ (by omega)]
    · refine s12c24_X8_bound_0 (s12c24_X8_hasRow_0 ⟨fun z => absurd z c, fun _ => ⟨fun z => absurd z c1, fun _ => ⟨_, I5, L, rfl, fun z => absurd z (by decide), fun _ => ⟨v, fun I6 q6 => ⟨v, fun I7 q7 => ?_⟩⟩⟩⟩⟩)
      rw [q7, q6, q5, q4]
      exact h _ L (k12_up (c := 28) (by decide) (by decide) (k12_up (c := 27) (by decide) (by decide) (k12_up (c := 26) (by decide) (by decide) (k12_up (c := 25) (by decide) (by decide) hz))))
theorem k12_sp29 {Ψ : sm_Z → Prop} {x1 x2 x3 x4 x5 : Int32} (hz : kz 12 a I L I0 L0) (h : ∀ J L', kz 12 (spb 29 5 x1 x2 x3 x4 x5 a) J L' I0 L0 → Ψ (none, (xLay, J, L', kQ12 R))) : sm_wp sm_P S (d + 1) 294 0 [.ref 29, .int x1, .int x2, .int x3] [] (xLay, I, L, kQ12 R) (0, 0) (fun z => ∃ (I1 : sm_I) (L2 : sm_L), z = (none, (xLay, I1, L2, (kQ12 R))) ∧ I1 2 10 = I 2 10 ∧ I1 2 8 = I 2 8 ∧ sm_wp sm_P S (d + 1) 286 0 [.ref 29, .int x1, .int x4, .int x5] [] (xLay, I1, L2, (kQ12 R)) (0, 0) Ψ) := by
  unfold spb at h
  refine s12c29_X8_put_0 (s12c29_X8_hasRow_0 ⟨fun c => ⟨_, I, L, rfl, fun _ => ⟨I, L, rfl, rfl, rfl, ?_⟩, fun z => absurd rfl z⟩, fun c => ⟨fun c1 => ⟨_, I, L, rfl, fun _ => ⟨I, L, rfl, rfl, rfl, ?_⟩, fun z => absurd rfl z⟩, fun c1 => ⟨_, I, L, rfl, fun z => absurd z (by decide), fun _ => ?_⟩⟩⟩)
  · rw [if_pos c] at h
    exact s12c29_X8_bound_0 (s12c29_X8_hasRow_0 ⟨fun _ => ⟨_, I, L, rfl, fun _ => h I L hz, fun z => absurd rfl z⟩, fun z => absurd c z⟩)
  · rw [if_neg c, if_pos c1] at h
    exact s12c29_X8_bound_0 (s12c29_X8_hasRow_0 ⟨fun z => absurd z c, fun _ => ⟨fun _ => ⟨_, I, L, rfl, fun _ => h I L hz, fun z => absurd rfl z⟩, fun z => absurd c1 z⟩⟩)
  · rw [if_neg c, if_neg c1] at h
    have c0 := kl_nlt0 c
    have c9 := kl_nle c1
    have v : vp_in x1 5 := kl_in c0 (by rw [show (Int32.ofNat 5).toInt = 5 from by decide] at c9; omega)
    refine ⟨v, fun I4 q4 => ⟨v, fun I5 q5 => ⟨I5, L, rfl, ?_, ?_, ?_⟩⟩⟩
    · rw [q5, en_up_ne _ _ _ _ (by omega), q4, en_up_ne _ _ _ _ (by omega)]
    · rw [q5, en_up_ne _ _ _ _ (by omega), q4, en_up_ne _ _ _ _ (by omega)]
    · refine s12c29_X8_bound_0 (s12c29_X8_hasRow_0 ⟨fun z => absurd z c, fun _ => ⟨fun z => absurd z c1, fun _ => ⟨_, I5, L, rfl, fun z => absurd z (by decide), fun _ => ⟨v, fun I6 q6 => ⟨v, fun I7 q7 => ?_⟩⟩⟩⟩⟩)
      rw [q7, q6, q5, q4]
      exact h _ L (k12_up (c := 33) (by decide) (by decide) (k12_up (c := 32) (by decide) (by decide) (k12_up (c := 31) (by decide) (by decide) (k12_up (c := 30) (by decide) (by decide) hz))))
theorem k12_addPath {x1 x2 x3 : Int32} (hz : kz 12 a I L I0 L0) (h : ∀ J L', kz 12 (ad_path x1 x2 x3 a) J L' I0 L0 → Φ (none, (xLay, J, L', kQ12 R))) : sm_wp sm_P S d 13 0 [.ref 12, .int x1, .int x2, .int x3] [] (xLay, I, L, kQ12 R) (0, 0) Φ := by
  have c6 : (6 : Int32).toInt = 6 := by decide
  unfold ad_path at h
  refine s12_X10_addPath_0 ⟨fun c => ?_, fun c => ⟨fun c1 => ?_, fun c1 => ⟨fun c2 => ?_, fun c2 => ⟨fun c3 => ?_, fun c3 => ?_⟩⟩⟩⟩
  · rw [if_pos c] at h; exact h I L hz
  · rw [if_neg c, if_pos c1] at h; exact h I L hz
  · rw [if_neg c, if_neg c1, if_pos c2] at h; exact h I L hz
  · rw [if_neg c, if_neg c1, if_neg c2, if_pos c3] at h
    have d0 := kl_nlt0 c
    have d1 := kl_nle c1
    have d2 := kl_nlt0 c2
    have d3 := kl_lt.mp c3
    have ix : ∀ x y : Int32, 0 ≤ x.toInt → x.toInt < 6 → 0 ≤ y.toInt → y.toInt < 6 → vp_in (x * 6 + y) 36 := fun x y p1 p2 p3 p4 => by
      have m : (x * 6).toInt = x.toInt * 6 := ml_mu rfl c6 (by omega) (by omega)
      have s : (x * 6 + y).toInt = x.toInt * 6 + y.toInt := ml_ad m rfl (by omega) (by omega)
      exact kl_in (by omega) (by omega)
    have v1 := ix x1 x2 d0 (by omega) d2 (by omega)
    have v2 := ix x2 x1 d2 (by omega) d0 (by omega)
    have e13 : I 13 (x1 * 6 + x2).toNatClampNeg = a.1 13 (x1 * 6 + x2).toNatClampNeg := k12_T hz 13 _ (by decide) (by decide)
    have wr : ∀ I2 : sm_I, I2 = (sm_up I 13 ((x1 * (6 : Int32)) + x2).toNatClampNeg x3) → ∀ I3 : sm_I, I3 = (sm_up I2 13 ((x2 * (6 : Int32)) + x1).toNatClampNeg x3) → kz 12 (ad_w x1 x2 x3 a) I3 L I0 L0 := fun I2 q2 I3 q3 => by
      rw [q3, q2]
      exact k12_up (c := 13) (by decide) (by decide) (k12_up (c := 13) (by decide) (by decide) hz)
    refine ⟨v1, fun n1 en => ?_⟩
    rw [e13] at en
    rw [← en] at h
    refine ⟨fun c4 => ⟨v1, fun I2 q2 => ⟨v2, fun I3 q3 => ?_⟩⟩, fun c4 => ⟨fun c5 => ?_, fun c5 => ⟨v1, fun I2 q2 => ⟨v2, fun I3 q3 => ?_⟩⟩⟩⟩
    · rw [if_pos c4] at h; exact h I3 L (wr I2 q2 I3 q3)
    · rw [if_neg c4, if_pos c5] at h; exact h I L hz
    · rw [if_neg c4, if_neg c5] at h; exact h I3 L (wr I2 q2 I3 q3)
  · rw [if_neg c, if_neg c1, if_neg c2, if_neg c3] at h; exact h I L hz
theorem k12_endPO {x1 : Int32} (hz : kz 12 a I L I0 L0) (h : ∀ J L', kz 12 (en_po x1 a) J L' I0 L0 → Φ (none, (xLay, J, L', kQ12 R))) : sm_wp sm_P S (d + 2) 270 0 [.ref 2, .int x1] [] (xLay, I, L, kQ12 R) (0, 0) Φ := by
  have e7 : I 2 7 = a.1 2 7 := hz.1.1 7 (by decide)
  have e8 : I 2 8 = a.1 2 8 := hz.1.1 8 (by decide)
  have e9 : I 2 9 = a.1 2 9 := hz.1.1 9 (by decide)
  have e10 : I 2 10 = a.1 2 10 := hz.1.1 10 (by decide)
  unfold en_po at h
  refine s12_X7_endPathOrOpen_0 ⟨fun c => ?_, fun c => ?_⟩
  · rw [if_pos (by rw [← e7]; exact c)] at h
    rw [e8, e9]
    exact k12_addPath hz (fun J L' hJ => ⟨J, L', rfl, h J L' hJ⟩)
  · rw [if_neg (by rw [← e7]; exact c)] at h
    rw [e8, e9]
    refine sm_wp_mono (k12_sp16 (Ψ := fun z => ∃ (I4 : sm_I) (L5 : sm_L), z = (none, (xLay, I4, L5, (kQ12 R))) ∧ Φ (none, (xLay, I4, L5, (kQ12 R)))) (x4 := a.1 2 10) (x5 := x1) hz (fun J L' hJ => ⟨J, L', rfl, h J L' hJ⟩)) (fun z hq => ?_)
    obtain ⟨I1, L2, ez, q10, q8, w⟩ := hq
    refine ⟨I1, L2, ez, ?_⟩
    rw [q8, e8, q10, e10]
    exact w
theorem k12_lastSpan (hz : kz 12 a I L I0 L0) (h : Φ (some (.int (la_span a)), (xLay, I, L, kQ12 R))) : sm_wp sm_P S (d + 1) 22 0 [.ref 12] [] (xLay, I, L, kQ12 R) (0, 0) Φ := by
  have e3 : I 12 3 = a.1 12 3 := k12_T hz 12 3 (by decide) (by decide)
  have c10 : (Int32.ofNat 10).toInt = 10 := by decide
  have c40 : (Int32.ofNat 40).toInt = 40 := by decide
  have part : ∀ q c : Int32, ∀ {Ψ : sm_Z → Prop}, Ψ (some (.int (pa_of q c a)), (xLay, I, L, kQ12 R)) → sm_wp sm_P S d 23 0 [.ref 12, .int q, .int c] [] (xLay, I, L, kQ12 R) (0, 0) Ψ := by
    intro q c Ψ g
    unfold pa_of at g
    refine s12_X10_partsOf_0 ⟨fun c1 => ?_, fun c1 => ⟨fun c2 => ?_, fun c2 => ⟨?_, ?_⟩⟩⟩
    · rw [if_pos c1] at g; exact g
    · rw [if_neg c1, if_pos (show (40 : Int32) ≤ q * 4 + c from c2)] at g; exact g
    · have c1 := kl_nlt0 c1
      have c2 := kl_nle c2
      exact kl_in c1 (by omega)
    · rw [if_neg c1, if_neg (show ¬ (40 : Int32) ≤ q * 4 + c from c2)] at g
      rw [show I 23 (q * 4 + c).toNatClampNeg = a.1 23 (q * 4 + c).toNatClampNeg from k12_T hz 23 _ (by decide) (by decide)]; exact g
  have val : ∀ q : Int32, ∀ {Ψ : sm_Z → Prop}, Ψ (some (.int (va22 q a)), (xLay, I, L, kQ12 R)) → sm_wp sm_P S d 89 0 [.ref 22, .int q, .int (0 : Int32)] [] (xLay, I, L, kQ12 R) (0, 0) Ψ := by
    intro q Ψ g
    unfold va22 at g
    refine s12v22_X11_valueAt_0 ⟨fun c1 => ?_, fun c1 => ⟨fun c2 => ?_, fun c2 => ⟨?_, ?_⟩⟩⟩
    · rw [if_pos c1] at g; exact g
    · rw [if_neg c1, if_pos (show (10 : Int32) ≤ q from c2)] at g; exact g
    · have c1 := kl_nlt0 c1
      have c2 := kl_nle c2
      exact kl_in c1 (by omega)
    · rw [if_neg c1, if_neg (show ¬ (10 : Int32) ≤ q from c2)] at g
      rw [show I 22 q.toNatClampNeg = a.1 22 q.toNatClampNeg from k12_T hz 22 _ (by decide) (by decide)]; exact g
  refine s12_X10_lastSpan_0 ?_
  rw [e3]
  refine val _ ⟨_, I, L, rfl, s12_X10_firstSpan_0 ⟨_, I, L, rfl, part _ _ ⟨_, I, L, rfl, ?_⟩⟩⟩
  exact h
theorem k12_endSpan {x1 : Int32} (hz : kz 12 a I L I0 L0) (h : ∀ J L', kz 12 (en_sp x1 a) J L' I0 L0 → Φ (none, (xLay, J, L', kQ12 R))) : sm_wp sm_P S (d + 2) 271 0 [.ref 2, .int x1] [] (xLay, I, L, kQ12 R) (0, 0) Φ := by
  have e7 : I 2 7 = a.1 2 7 := hz.1.1 7 (by decide)
  have e8 : I 2 8 = a.1 2 8 := hz.1.1 8 (by decide)
  have e9 : I 2 9 = a.1 2 9 := hz.1.1 9 (by decide)
  have e10 : I 2 10 = a.1 2 10 := hz.1.1 10 (by decide)
  have e4 : I 12 4 = a.1 12 4 := k12_T hz 12 4 (by decide) (by decide)
  unfold en_sp at h
  refine s12_X7_endSpan_0 ⟨fun c => ⟨fun z => absurd z (by decide), fun _ => ⟨fun z => absurd z (by decide), fun _ => ?_⟩⟩, fun c => ⟨fun _ => ⟨fun _ => ?_, fun z => absurd rfl z⟩, fun z => absurd rfl z⟩⟩
  · rw [if_pos (by rw [← e7]; exact c)] at h
    rw [e8, e9, e4]
    refine sm_wp_mono (k12_sp29 (Ψ := fun z => ∃ (I4 : sm_I) (L5 : sm_L), z = (none, (xLay, I4, L5, (kQ12 R))) ∧ Φ (none, (xLay, I4, L5, (kQ12 R)))) (x4 := a.1 2 10) (x5 := x1) hz (fun J L' hJ => ⟨J, L', rfl, h J L' hJ⟩)) (fun z hq => ?_)
    obtain ⟨I1, L2, ez, q10, q8, w⟩ := hq
    refine ⟨I1, L2, ez, ?_⟩
    rw [q10, e10]
    exact w
  · rw [if_neg (by rw [← e7]; exact c)] at h
    refine k12_lastSpan hz ⟨_, I, L, rfl, ?_⟩
    rw [e8, e9]
    refine sm_wp_mono (k12_sp24 (Ψ := fun z => ∃ (I4 : sm_I) (L5 : sm_L), z = (none, (xLay, I4, L5, (kQ12 R))) ∧ Φ (none, (xLay, I4, L5, (kQ12 R)))) (x4 := a.1 2 10) (x5 := x1) hz (fun J L' hJ => ⟨J, L', rfl, h J L' hJ⟩)) (fun z hq => ?_)
    obtain ⟨I1, L2, ez, q10, q8, w⟩ := hq
    refine ⟨I1, L2, ez, ?_⟩
    rw [q10, e10]
    exact w
theorem kT_Q12 : kT 12 (kQ12 R) = kQ12 R := by
  funext x j
  unfold kT
  cases e : (Nat.beq x 2 && Nat.beq j 6) with
  | true =>
    obtain ⟨e1, e2⟩ := Bool.and_eq_true_iff.mp e
    rw [Nat.eq_of_beq_eq_true e1, Nat.eq_of_beq_eq_true e2]; rfl
  | false =>
    show (match (kTl x)[j]? with
      | some (some p) => some p
      | _ => kQ12 R x j) = kQ12 R x j
    by_cases c2 : x = 2
    · subst c2
      match j, e with
      | 0, _ => rfl
      | 1, _ => rfl
      | 2, _ => rfl
      | 3, _ => rfl
      | 4, _ => rfl
      | 5, _ => rfl
      | 6, _ => rfl
      | j + 7, _ => rfl
    · by_cases c3 : x = 3
      · subst c3
        match j with
        | 0 => rfl
        | 1 => rfl
        | 2 => rfl
        | j + 3 => rfl
      · by_cases c7 : x = 7
        · subst c7
          match j with
          | 0 => rfl
          | j + 1 => rfl
        · have : kTl x = [] := by
            unfold kTl
            rw [show Nat.beq x 2 = false from by cases q : Nat.beq x 2 with | true => exact absurd (Nat.eq_of_beq_eq_true q) c2 | false => rfl]
            rw [show Nat.beq x 3 = false from by cases q : Nat.beq x 3 with | true => exact absurd (Nat.eq_of_beq_eq_true q) c3 | false => rfl]
            rw [show Nat.beq x 7 = false from by cases q : Nat.beq x 7 with | true => exact absurd (Nat.eq_of_beq_eq_true q) c7 | false => rfl]
            rfl
          rw [this]; rfl
theorem k12_follow {x0 x1 : Int32} (h : Φ (some (.int (fw x0 x1)), (xLay, I, L, kQ12 R))) : sm_wp sm_P S d 241 0 [.int x0, .int x1] [] (xLay, I, L, kQ12 R) (0, 0) Φ := by
  rw [← kT_Q12] at h ⊢
  exact ks_follow h
theorem k12_takeInt {x1 x2 x3 : Int32} (hz : kz 12 a I L I0 L0) (h : ∀ J L', kz 12 (tk_int x1 x2 x3 a).2 J L' I0 L0 → Φ (some (.int (tk_int x1 x2 x3 a).1), (xLay, J, L', kQ12 R))) : sm_wp sm_P S (d + 3) 279 0 [.ref 2, .int x1, .int x2, .int x3] [] (xLay, I, L, kQ12 R) (0, 0) Φ := by
  unfold tk_int at h
  have go : ∀ x : Int32, x2 = 16 → x = sg_n x1 x3 → ((x1 = (5 : Int32) → sm_wp sm_P S (d + 2) 270 0 [.ref 2, .int x] [] (xLay, I, L, (kQ12 R)) (0, 0) (fun z => ∃ (I13 : sm_I) (L14 : sm_L), z = (none, (xLay, I13, L14, (kQ12 R))) ∧ Φ (some (.int (0 : Int32)), (xLay, I13, L14, (kQ12 R))))) ∧ (¬ x1 = (5 : Int32) → sm_wp sm_P S (d + 2) 241 0 [.int x1, .int x2] [] (xLay, I, L, (kQ12 R)) (0, 0) (fun z => ∃ (r6 : Int32) (I4 : sm_I) (L5 : sm_L), z = (some (.int r6), (xLay, I4, L5, (kQ12 R))) ∧ ((r6 = (26 : Int32) → sm_wp sm_P S (d + 2) 271 0 [.ref 2, .int x] [] (xLay, I4, L5, (kQ12 R)) (0, 0) (fun z => ∃ (I7 : sm_I) (L8 : sm_L), z = (none, (xLay, I7, L8, (kQ12 R))) ∧ Φ (some (.int (0 : Int32)), (xLay, I7, L8, (kQ12 R))))) ∧ (¬ r6 = (26 : Int32) → Φ (some (.int (0 : Int32)), (xLay, (sm_up I4 2 10 x), L5, (kQ12 R)))))))) := by
    intro x c ex
    rw [if_pos c, ← ex] at h
    refine ⟨fun c1 => ?_, fun c1 => k12_follow ⟨_, I, L, rfl, fun c2 => ?_, fun c2 => ?_⟩⟩
    · rw [if_pos c1] at h
      exact k12_endPO hz (fun J L' hJ => ⟨J, L', rfl, h J L' hJ⟩)
    · rw [if_neg c1, if_pos c2] at h
      exact k12_endSpan hz (fun J L' hJ => ⟨J, L', rfl, h J L' hJ⟩)
    · rw [if_neg c1, if_neg c2] at h
      exact h _ L (kz_r (by decide) (Or.inl ⟨rfl, by decide⟩) hz)
  refine s12_X7_takeInt_0 ⟨fun c => ?_, fun c => ?_⟩
  · refine s12_X3_isBehindMinus_0 ⟨fun b => ⟨_, I, L, rfl, fun z => absurd z (by decide), fun _ => go _ c (by unfold sg_n; rw [if_pos b])⟩, fun b => ⟨fun b2 => ⟨_, I, L, rfl, fun z => absurd z (by decide), fun _ => go _ c (by unfold sg_n; rw [if_neg b, if_pos b2])⟩, fun b2 => ⟨_, I, L, rfl, fun _ => go _ c (by unfold sg_n; rw [if_neg b, if_neg b2]), fun z => absurd rfl z⟩⟩⟩
  · rw [if_neg c] at h
    exact h I L hz
end
end
