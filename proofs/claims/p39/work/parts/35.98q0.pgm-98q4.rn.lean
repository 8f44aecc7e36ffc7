section
/-! conditions of the reference: tables and going through (wip/pe/symg.py) -/
theorem p_X12_copies_0 {S : sm_C} {d : Nat} {Φ : sm_Z → Prop} {I : sm_I} {L : sm_L} {R : sm_R} {x1 : Int32} {x2 : Int32} (h : sm_wp sm_P S d 116 1 [.ref 107, .int x1, .int x2, .int (0 : Int32)] [] (xLay, I, L, (kM R)) (0, 0) Φ) : sm_wp sm_P S d 116 0 [.ref 107, .int x1, .int x2] [] (xLay, I, L, (kM R)) (0, 0) Φ := sm_wp_step (h)
theorem p_X12_copies_1 {S : sm_C} {d : Nat} {Φ : sm_Z → Prop} {I : sm_I} {L : sm_L} {R : sm_R} {x1 : Int32} {x2 : Int32} {x3 : Int32} (h : (((169 : Int32) ≤ x3 → Φ (none, (xLay, I, L, (kM R)))) ∧ (¬ (169 : Int32) ≤ x3 → (vp_in (((169 : Int32) * x1) + x3) 12000) ∧ ∀ n1 : Int32, n1 = (I 143 (((169 : Int32) * x1) + x3).toNatClampNeg) → (vp_in (((169 : Int32) * x2) + x3) 12000) ∧ ∀ I2 : sm_I, I2 = (sm_up I 143 (((169 : Int32) * x2) + x3).toNatClampNeg n1) → sm_wp sm_P S d 116 1 [.ref 107, .int x1, .int x2, .int (x3 + (1 : Int32))] [] (xLay, I2, L, (kM R)) (0, 0) Φ))) : sm_wp sm_P S d 116 1 [.ref 107, .int x1, .int x2, .int x3] [] (xLay, I, L, (kM R)) (0, 0) Φ := sm_wp_step (⟨fun q3 => ((h).1 q3), fun q3 => ⟨(((h).2 q3)).1, ⟨(((((h).2 q3)).2 _ rfl)).1, ((((((h).2 q3)).2 _ rfl)).2 _ rfl)⟩⟩⟩)
theorem p_X12_bound_0 {S : sm_C} {d : Nat} {Φ : sm_Z → Prop} {I : sm_I} {L : sm_L} {R : sm_R} {x1 : Int32} {x2 : Int32} {x3 : Int32} (h : ∀ n1 : Int32, n1 = ((((169 : Int32) * (I 107 52)) + ((13 : Int32) * x2)) + x1) → (vp_in n1 12000) ∧ ((0 ≤ ((I 143 n1.toNatClampNeg) + x3) → ∀ n2 : Int32, n2 = ((((169 : Int32) * (I 107 52)) + ((13 : Int32) * x1)) + x2) → (vp_in n2 12000) ∧ ((x3 < (I 143 n2.toNatClampNeg) → sm_wp sm_P S d 106 5 [.ref 107, .int x1, .int x2, .int x3, .int ((169 : Int32) * (I 107 52)), .int (0 : Int32)] [] (xLay, I, L, (kM R)) (0, 0) Φ) ∧ (¬ x3 < (I 143 n2.toNatClampNeg) → Φ (some (.int (1 : Int32)), (xLay, I, L, (kM R)))))) ∧ (¬ 0 ≤ ((I 143 n1.toNatClampNeg) + x3) → Φ (some (.int (0 : Int32)), (xLay, I, L, (kM R)))))) : sm_wp sm_P S d 106 0 [.ref 107, .int x1, .int x2, .int x3] [] (xLay, I, L, (kM R)) (0, 0) Φ := sm_wp_step (⟨((h _ rfl)).1, ⟨fun q4 => ⟨((((((h _ rfl)).2).1 q4) _ rfl)).1, ⟨fun q3 => ((((((((h _ rfl)).2).1 q4) _ rfl)).2).1 q3), fun q3 => ⟨Or.inr rfl, ((((((((h _ rfl)).2).1 q4) _ rfl)).2).2 q3)⟩⟩⟩, fun q4 => ⟨Or.inl rfl, ((((h _ rfl)).2).2 q4)⟩⟩⟩)
theorem p_X12_bound_5 {S : sm_C} {d : Nat} {Φ : sm_Z → Prop} {I : sm_I} {L : sm_L} {R : sm_R} {x1 : Int32} {x2 : Int32} {x3 : Int32} {x4 : Int32} {x5 : Int32} (h : (((I 107 51) ≤ x5 → Φ (some (.int (1 : Int32)), (xLay, I, L, (kM R)))) ∧ (¬ (I 107 51) ≤ x5 → sm_wp sm_P S d 106 7 [.ref 107, .int x1, .int x2, .int x3, .int x4, .int x5, .int (0 : Int32)] [] (xLay, I, L, (kM R)) (0, 0) Φ))) : sm_wp sm_P S d 106 5 [.ref 107, .int x1, .int x2, .int x3, .int x4, .int x5] [] (xLay, I, L, (kM R)) (0, 0) Φ := sm_wp_step (⟨fun q1 => ⟨Or.inr rfl, ((h).1 q1)⟩, fun q1 => ((h).2 q1)⟩)
theorem p_X12_bound_7 {S : sm_C} {d : Nat} {Φ : sm_Z → Prop} {I : sm_I} {L : sm_L} {R : sm_R} {x1 : Int32} {x2 : Int32} {x3 : Int32} {x4 : Int32} {x5 : Int32} {x6 : Int32} (h : (((I 107 51) ≤ x6 → sm_wp sm_P S d 106 5 [.ref 107, .int x1, .int x2, .int x3, .int x4, .int (x5 + (1 : Int32))] [] (xLay, I, L, (kM R)) (0, 0) Φ) ∧ (¬ (I 107 51) ≤ x6 → ∀ n1 : Int32, n1 = ((x4 + ((13 : Int32) * x5)) + x1) → (vp_in n1 12000) ∧ ∀ n2 : Int32, n2 = ((x4 + ((13 : Int32) * x2)) + x6) → (vp_in n2 12000) ∧ ∀ n3 : Int32, n3 = (((I 143 n1.toNatClampNeg) + x3) + (I 143 n2.toNatClampNeg)) → ∀ n4 : Int32, n4 = ((x4 + ((13 : Int32) * x5)) + x6) → (vp_in n4 12000) ∧ (((I 143 n4.toNatClampNeg) ≤ n3 → sm_wp sm_P S d 106 7 [.ref 107, .int x1, .int x2, .int x3, .int x4, .int x5, .int (x6 + (1 : Int32))] [] (xLay, I, L, (kM R)) (0, 0) Φ) ∧ (¬ (I 143 n4.toNatClampNeg) ≤ n3 → ∀ n5 : Int32, n5 = ((x4 + ((13 : Int32) * x5)) + x6) → (vp_in n5 12000) ∧ ∀ I6 : sm_I, I6 = (sm_up I 143 n5.toNatClampNeg n3) → sm_wp sm_P S d 106 7 [.ref 107, .int x1, .int x2, .int x3, .int x4, .int x5, .int (x6 + (1 : Int32))] [] (xLay, I6, L, (kM R)) (0, 0) Φ))))) : sm_wp sm_P S d 106 7 [.ref 107, .int x1, .int x2, .int x3, .int x4, .int x5, .int x6] [] (xLay, I, L, (kM R)) (0, 0) Φ := sm_wp_step (⟨fun q8 => ((h).1 q8), fun q8 => ⟨((((h).2 q8) _ rfl)).1, ⟨((((((h).2 q8) _ rfl)).2 _ rfl)).1, ⟨(((((((((h).2 q8) _ rfl)).2 _ rfl)).2 _ rfl) _ rfl)).1, ⟨fun q7 => (((((((((((h).2 q8) _ rfl)).2 _ rfl)).2 _ rfl) _ rfl)).2).1 q7), fun q7 => ⟨(((((((((((((h).2 q8) _ rfl)).2 _ rfl)).2 _ rfl) _ rfl)).2).2 q7) _ rfl)).1, ((((((((((((((h).2 q8) _ rfl)).2 _ rfl)).2 _ rfl) _ rfl)).2).2 q7) _ rfl)).2 _ rfl)⟩⟩⟩⟩⟩⟩)
theorem p_X12_openAt_0 {S : sm_C} {d : Nat} {Φ : sm_Z → Prop} {I : sm_I} {L : sm_L} {R : sm_R} {x1 : Int32} (h : ((x1 = 0 → Φ (some (.int (-1 : Int32)), (xLay, I, L, (kM R)))) ∧ (¬ x1 = 0 → (vp_in (I 107 18) 2) ∧ ((x1 ≤ (I 122 (I 107 18).toNatClampNeg) → ∀ n1 : Int32, n1 = ((((10 : Int32) * (I 107 18)) + x1) - (1 : Int32)) → (vp_in n1 20) ∧ Φ (some (.int (I 135 n1.toNatClampNeg)), (xLay, I, L, (kM R)))) ∧ (¬ x1 ≤ (I 122 (I 107 18).toNatClampNeg) → Φ (some (.int (-1 : Int32)), (xLay, I, L, (kM R)))))))) : sm_wp sm_P S d 171 0 [.ref 107, .int x1] [] (xLay, I, L, (kM R)) (0, 0) Φ := sm_wp_step (⟨fun q3 => ((h).1 q3), fun q3 => ⟨(((h).2 q3)).1, ⟨fun q2 => ⟨(((((((h).2 q3)).2).1 q2) _ rfl)).1, (((((((h).2 q3)).2).1 q2) _ rfl)).2⟩, fun q2 => (((((h).2 q3)).2).2 q2)⟩⟩⟩)
theorem p_X12_atMost_0 {S : sm_C} {d : Nat} {Φ : sm_Z → Prop} {I : sm_I} {L : sm_L} {R : sm_R} {x1 : Int32} {x2 : Int32} {x3 : Int32} (h : (((I 107 53) = 0 → sm_wp sm_P S d 106 0 [.ref 107, .int x1, .int x2, .int x3] [] (xLay, I, L, (kM R)) (0, 0) (fun z => ∃ (r3 : Int32) (I1 : sm_I) (L2 : sm_L), z = (some (.int r3), (xLay, I1, L2, (kM R))) ∧ (r3 = 0 ∨ r3 = 1) ∧ Φ (some (.int r3), (xLay, I1, L2, (kM R))))) ∧ (¬ (I 107 53) = 0 → ((x1 = x2 → sm_wp sm_P S d 106 0 [.ref 107, .int x1, .int x2, .int x3] [] (xLay, I, L, (kM R)) (0, 0) (fun z => ∃ (r26 : Int32) (I24 : sm_I) (L25 : sm_L), z = (some (.int r26), (xLay, I24, L25, (kM R))) ∧ (r26 = 0 ∨ r26 = 1) ∧ Φ (some (.int r26), (xLay, I24, L25, (kM R))))) ∧ (¬ x1 = x2 → sm_wp sm_P S d 171 0 [.ref 107, .int x1] [] (xLay, I, L, (kM R)) (0, 0) (fun z => ∃ (r7 : Int32) (I5 : sm_I) (L6 : sm_L), z = (some (.int r7), (xLay, I5, L6, (kM R))) ∧ sm_wp sm_P S d 171 0 [.ref 107, .int x2] [] (xLay, I5, L6, (kM R)) (0, 0) (fun z => ∃ (r10 : Int32) (I8 : sm_I) (L9 : sm_L), z = (some (.int r10), (xLay, I8, L9, (kM R))) ∧ ((r7 = (-1 : Int32) → ((r10 = (-1 : Int32) → ∀ n18 : Int32, n18 = ((x3 + (0 : Int32)) - (0 : Int32)) → ((r7 = (-1 : Int32) → sm_wp sm_P S (d + 1) 98 12 [.ref 107, .int x2, .int r10, .int n18] [.int x1, .ref 107] (xLay, I8, L9, (kM R)) (0, 0) Φ) ∧ (¬ r7 = (-1 : Int32) → (vp_in r7 260) ∧ sm_wp sm_P S (d + 1) 98 12 [.ref 107, .int x2, .int r10, .int n18] [.int ((I8 131 r7.toNatClampNeg) + (1 : Int32)), .ref 107] (xLay, I8, L9, (kM R)) (0, 0) Φ))) ∧ (¬ r10 = (-1 : Int32) → (vp_in r10 260) ∧ ∀ n16 : Int32, n16 = ((x3 + (0 : Int32)) - (I8 133 r10.toNatClampNeg)) → ((r7 = (-1 : Int32) → sm_wp sm_P S (d + 1) 98 12 [.ref 107, .int x2, .int r10, .int n16] [.int x1, .ref 107] (xLay, I8, L9, (kM R)) (0, 0) Φ) ∧ (¬ r7 = (-1 : Int32) → (vp_in r7 260) ∧ sm_wp sm_P S (d + 1) 98 12 [.ref 107, .int x2, .int r10, .int n16] [.int ((I8 131 r7.toNatClampNeg) + (1 : Int32)), .ref 107] (xLay, I8, L9, (kM R)) (0, 0) Φ))))) ∧ (¬ r7 = (-1 : Int32) → (vp_in r7 260) ∧ ((r10 = (-1 : Int32) → ∀ n13 : Int32, n13 = ((x3 + (I8 132 r7.toNatClampNeg)) - (0 : Int32)) → ((r7 = (-1 : Int32) → sm_wp sm_P S (d + 1) 98 12 [.ref 107, .int x2, .int r10, .int n13] [.int x1, .ref 107] (xLay, I8, L9, (kM R)) (0, 0) Φ) ∧ (¬ r7 = (-1 : Int32) → (vp_in r7 260) ∧ sm_wp sm_P S (d + 1) 98 12 [.ref 107, .int x2, .int r10, .int n13] [.int ((I8 131 r7.toNatClampNeg) + (1 : Int32)), .ref 107] (xLay, I8, L9, (kM R)) (0, 0) Φ))) ∧ (¬ r10 = (-1 : Int32) → (vp_in r10 260) ∧ ∀ n11 : Int32, n11 = ((x3 + (I8 132 r7.toNatClampNeg)) - (I8 133 r10.toNatClampNeg)) → ((r7 = (-1 : Int32) → sm_wp sm_P S (d + 1) 98 12 [.ref 107, .int x2, .int r10, .int n11] [.int x1, .ref 107] (xLay, I8, L9, (kM R)) (0, 0) Φ) ∧ (¬ r7 = (-1 : Int32) → (vp_in r7 260) ∧ sm_wp sm_P S (d + 1) 98 12 [.ref 107, .int x2, .int r10, .int n11] [.int ((I8 131 r7.toNatClampNeg) + (1 : Int32)), .ref 107] (xLay, I8, L9, (kM R)) (0, 0) Φ))))))))))))) : sm_wp sm_P S (d + 1) 98 0 [.ref 107, .int x1, .int x2, .int x3] [] (xLay, I, L, (kM R)) (0, 0) Φ := sm_wp_step (⟨fun q29 => sm_ci0 (((h).1 q29)) (fun r3 I1 L2 q4 => ⟨(q4).1, (q4).2⟩), fun q29 => ⟨fun q28 => sm_ci0 (((((h).2 q29)).1 q28)) (fun r26 I24 L25 q27 => ⟨(q27).1, (q27).2⟩), fun q28 => sm_ci0 (((((h).2 q29)).2 q28)) (fun r7 I5 L6 q23 => sm_ci0 (q23) (fun r10 I8 L9 q22 => ⟨fun q21 => ⟨fun q20 => ⟨fun q19 => (((((((q22).1 q21)).1 q20) _ rfl)).1 q19), fun q19 => ⟨((((((((q22).1 q21)).1 q20) _ rfl)).2 q19)).1, ((((((((q22).1 q21)).1 q20) _ rfl)).2 q19)).2⟩⟩, fun q20 => ⟨(((((q22).1 q21)).2 q20)).1, ⟨fun q17 => ((((((((q22).1 q21)).2 q20)).2 _ rfl)).1 q17), fun q17 => ⟨(((((((((q22).1 q21)).2 q20)).2 _ rfl)).2 q17)).1, (((((((((q22).1 q21)).2 q20)).2 _ rfl)).2 q17)).2⟩⟩⟩⟩, fun q21 => ⟨(((q22).2 q21)).1, ⟨fun q15 => ⟨fun q14 => ((((((((q22).2 q21)).2).1 q15) _ rfl)).1 q14), fun q14 => ⟨(((((((((q22).2 q21)).2).1 q15) _ rfl)).2 q14)).1, (((((((((q22).2 q21)).2).1 q15) _ rfl)).2 q14)).2⟩⟩, fun q15 => ⟨((((((q22).2 q21)).2).2 q15)).1, ⟨fun q12 => (((((((((q22).2 q21)).2).2 q15)).2 _ rfl)).1 q12), fun q12 => ⟨((((((((((q22).2 q21)).2).2 q15)).2 _ rfl)).2 q12)).1, ((((((((((q22).2 q21)).2).2 q15)).2 _ rfl)).2 q12)).2⟩⟩⟩⟩⟩⟩))⟩⟩)
theorem p_X12_atMost_12 {S : sm_C} {d : Nat} {Φ : sm_Z → Prop} {I : sm_I} {L : sm_L} {R : sm_R} {x2 : Int32} {x5 : Int32} {x6 : Int32} {s1 : Int32} (h : ((x5 = (-1 : Int32) → sm_wp sm_P S (d + 1) 98 15 [.int x6] [.int x2, .int s1, .ref 107] (xLay, I, L, (kM R)) (0, 0) Φ) ∧ (¬ x5 = (-1 : Int32) → (vp_in x5 260) ∧ sm_wp sm_P S (d + 1) 98 15 [.int x6] [.int ((I 131 x5.toNatClampNeg) + (1 : Int32)), .int s1, .ref 107] (xLay, I, L, (kM R)) (0, 0) Φ))) : sm_wp sm_P S (d + 1) 98 12 [.ref 107, .int x2, .int x5, .int x6] [.int s1, .ref 107] (xLay, I, L, (kM R)) (0, 0) Φ := sm_wp_step (⟨fun q1 => ((h).1 q1), fun q1 => ⟨(((h).2 q1)).1, (((h).2 q1)).2⟩⟩)
theorem p_X12_atMost_15 {S : sm_C} {d : Nat} {Φ : sm_Z → Prop} {I : sm_I} {L : sm_L} {R : sm_R} {x6 : Int32} {s1 : Int32} {s2 : Int32} (h : sm_wp sm_P S d 106 0 [.ref 107, .int s1, .int s2, .int x6] [] (xLay, I, L, (kM R)) (0, 0) (fun z => ∃ (r3 : Int32) (I1 : sm_I) (L2 : sm_L), z = (some (.int r3), (xLay, I1, L2, (kM R))) ∧ (r3 = 0 ∨ r3 = 1) ∧ Φ (some (.int r3), (xLay, I1, L2, (kM R))))) : sm_wp sm_P S (d + 1) 98 15 [.int x6] [.int s2, .int s1, .ref 107] (xLay, I, L, (kM R)) (0, 0) Φ := sm_wp_step (sm_ci0 (h) (fun r3 I1 L2 q4 => ⟨(q4).1, (q4).2⟩))
theorem p_X12_between_0 {S : sm_C} {d : Nat} {Φ : sm_Z → Prop} {I : sm_I} {L : sm_L} {R : sm_R} {x1 : Int32} {x2 : Int32} {x3 : Int32} {x4 : Int32} (h : sm_wp sm_P S d 98 0 [.ref 107, .int x2, .int x1, .int x4] [] (xLay, I, L, (kM R)) (0, 0) (fun z => ∃ (r3 : Int32) (I1 : sm_I) (L2 : sm_L), z = (some (.int r3), (xLay, I1, L2, (kM R))) ∧ ((r3 = 0 → Φ (some (.int (0 : Int32)), (xLay, I1, L2, (kM R)))) ∧ (¬ r3 = 0 → sm_wp sm_P S d 98 0 [.ref 107, .int x1, .int x2, .int (-x3)] [] (xLay, I1, L2, (kM R)) (0, 0) (fun z => ∃ (r6 : Int32) (I4 : sm_I) (L5 : sm_L), z = (some (.int r6), (xLay, I4, L5, (kM R))) ∧ ((r6 = 0 → Φ (some (.int (0 : Int32)), (xLay, I4, L5, (kM R)))) ∧ (¬ r6 = 0 → Φ (some (.int (1 : Int32)), (xLay, I4, L5, (kM R)))))))))) : sm_wp sm_P S (d + 1) 104 0 [.ref 107, .int x1, .int x2, .int x3, .int x4] [] (xLay, I, L, (kM R)) (0, 0) Φ := sm_wp_step (sm_ci0 (h) (fun r3 I1 L2 q10 => ⟨fun q9 => ⟨Or.inl rfl, ((q10).1 q9)⟩, fun q9 => sm_ci0 (((q10).2 q9)) (fun r6 I4 L5 q8 => ⟨fun q7 => ⟨Or.inl rfl, ((q8).1 q7)⟩, fun q7 => ⟨Or.inr rfl, ((q8).2 q7)⟩⟩)⟩))
theorem p_X12_holdsSpan_0 {S : sm_C} {d : Nat} {Φ : sm_Z → Prop} {I : sm_I} {L : sm_L} {R : sm_R} {x1 : Int32} {x2 : Int32} (h : (vp_in x1 260) ∧ (vp_in x1 260) ∧ (vp_in x1 260) ∧ (vp_in x1 260) ∧ ∀ n1 : Int32, n1 = ((I 130 x1.toNatClampNeg) + (1 : Int32)) → ∀ n2 : Int32, n2 = ((I 131 x1.toNatClampNeg) + (1 : Int32)) → ∀ n3 : Int32, n3 = ((I 132 x1.toNatClampNeg) - x2) → ∀ n4 : Int32, n4 = ((I 133 x1.toNatClampNeg) + x2) → sm_wp sm_P S d 104 0 [.ref 107, .int n1, .int n2, .int n3, .int n4] [] (xLay, I, L, (kM R)) (0, 0) (fun z => ∃ (r7 : Int32) (I5 : sm_I) (L6 : sm_L), z = (some (.int r7), (xLay, I5, L6, (kM R))) ∧ (r7 = 0 ∨ r7 = 1) ∧ Φ (some (.int r7), (xLay, I5, L6, (kM R))))) : sm_wp sm_P S (d + 1) 139 0 [.ref 107, .int x1, .int x2] [] (xLay, I, L, (kM R)) (0, 0) Φ := sm_wp_step (⟨(h).1, ⟨((h).2).1, ⟨(((h).2).2).1, ⟨((((h).2).2).2).1, sm_ci0 (((((((((h).2).2).2).2 _ rfl) _ rfl) _ rfl) _ rfl)) (fun r7 I5 L6 q8 => ⟨(q8).1, (q8).2⟩)⟩⟩⟩⟩)
theorem p_X12_begins_0 {S : sm_C} {d : Nat} {Φ : sm_Z → Prop} {I : sm_I} {L : sm_L} {R : sm_R} {x1 : Int32} (h : ∀ I1 : sm_I, I1 = (sm_up (sm_up I 107 51 x1) 107 52 (0 : Int32)) → sm_wp sm_P S (d + 1) 103 1 [.ref 107, .int (0 : Int32)] [] (xLay, I1, L, (kM R)) (0, 0) Φ) : sm_wp sm_P S (d + 1) 103 0 [.ref 107, .int x1] [] (xLay, I, L, (kM R)) (0, 0) Φ := sm_wp_step ((h _ rfl))
theorem p_X12_begins_1 {S : sm_C} {d : Nat} {Φ : sm_Z → Prop} {I : sm_I} {L : sm_L} {R : sm_R} {x2 : Int32} (h : (((169 : Int32) ≤ x2 → ∀ n1 : Int32, n1 = ((240 : Int32) + ((4 : Int32) * (I 107 18))) → sm_wp sm_P S (d + 1) 103 8 [.ref 107, .int (1 : Int32), .int n1] [] (xLay, I, L, (kM R)) (0, 0) Φ) ∧ (¬ (169 : Int32) ≤ x2 → (¬ (13 : Int32) = 0) ∧ (¬ (13 : Int32) = 0) ∧ (((x2 / (13 : Int32)) = (x2 - x2 / (13 : Int32) * (13 : Int32)) → (vp_in x2 12000) ∧ ∀ I2 : sm_I, I2 = (sm_up I 143 x2.toNatClampNeg (0 : Int32)) → sm_wp sm_P S (d + 1) 103 1 [.ref 107, .int (x2 + (1 : Int32))] [] (xLay, I2, L, (kM R)) (0, 0) Φ) ∧ (¬ (x2 / (13 : Int32)) = (x2 - x2 / (13 : Int32) * (13 : Int32)) → (¬ (13 : Int32) = 0) ∧ (((x2 - x2 / (13 : Int32) * (13 : Int32)) = 0 → (vp_in x2 12000) ∧ ∀ I4 : sm_I, I4 = (sm_up I 143 x2.toNatClampNeg (0 : Int32)) → sm_wp sm_P S (d + 1) 103 1 [.ref 107, .int (x2 + (1 : Int32))] [] (xLay, I4, L, (kM R)) (0, 0) Φ) ∧ (¬ (x2 - x2 / (13 : Int32) * (13 : Int32)) = 0 → (vp_in x2 12000) ∧ ∀ I3 : sm_I, I3 = (sm_up I 143 x2.toNatClampNeg (1440 : Int32)) → sm_wp sm_P S (d + 1) 103 1 [.ref 107, .int (x2 + (1 : Int32))] [] (xLay, I3, L, (kM R)) (0, 0) Φ))))))) : sm_wp sm_P S (d + 1) 103 1 [.ref 107, .int x2] [] (xLay, I, L, (kM R)) (0, 0) Φ := sm_wp_step (⟨fun q7 => (((h).1 q7) _ rfl), fun q7 => ⟨(((h).2 q7)).1, ⟨((((h).2 q7)).2).1, ⟨fun q6 => ⟨(((((((h).2 q7)).2).2).1 q6)).1, ((((((((h).2 q7)).2).2).1 q6)).2 _ rfl)⟩, fun q6 => ⟨(((((((h).2 q7)).2).2).2 q6)).1, ⟨fun q5 => ⟨((((((((((h).2 q7)).2).2).2 q6)).2).1 q5)).1, (((((((((((h).2 q7)).2).2).2 q6)).2).1 q5)).2 _ rfl)⟩, fun q5 => ⟨((((((((((h).2 q7)).2).2).2 q6)).2).2 q5)).1, (((((((((((h).2 q7)).2).2).2 q6)).2).2 q5)).2 _ rfl)⟩⟩⟩⟩⟩⟩⟩)
theorem p_X12_begins_8 {S : sm_C} {d : Nat} {Φ : sm_Z → Prop} {I : sm_I} {L : sm_L} {R : sm_R} {x2 : Int32} {x3 : Int32} (h : (vp_in (I 107 18) 2) ∧ (((((240 : Int32) + ((4 : Int32) * (I 107 18))) + (I 134 (I 107 18).toNatClampNeg)) ≤ x3 → sm_wp sm_P S (d + 1) 103 19 [.ref 107, .int x2, .int (0 : Int32)] [] (xLay, I, L, (kM R)) (0, 0) Φ) ∧ (¬ (((240 : Int32) + ((4 : Int32) * (I 107 18))) + (I 134 (I 107 18).toNatClampNeg)) ≤ x3 → ((x2 = 0 → sm_wp sm_P S (d + 1) 103 19 [.ref 107, .int x2, .int (0 : Int32)] [] (xLay, I, L, (kM R)) (0, 0) Φ) ∧ (¬ x2 = 0 → (((I 107 53) = 0 → sm_wp sm_P S d 139 0 [.ref 107, .int x3, .int (0 : Int32)] [] (xLay, I, L, (kM R)) (0, 0) (fun z => ∃ (r3 : Int32) (I1 : sm_I) (L2 : sm_L), z = (some (.int r3), (xLay, I1, L2, (kM R))) ∧ sm_wp sm_P S (d + 1) 103 8 [.ref 107, .int r3, .int (x3 + (1 : Int32))] [] (xLay, I1, L2, (kM R)) (0, 0) Φ)) ∧ (¬ (I 107 53) = 0 → (vp_in x3 260) ∧ (vp_in x3 260) ∧ ∀ n5 : Int32, n5 = ((I 131 x3.toNatClampNeg) + (1 : Int32)) → sm_wp sm_P S d 106 0 [.ref 107, .int n5, .int (0 : Int32), .int (I 132 x3.toNatClampNeg)] [] (xLay, I, L, (kM R)) (0, 0) (fun z => ∃ (r8 : Int32) (I6 : sm_I) (L7 : sm_L), z = (some (.int r8), (xLay, I6, L7, (kM R))) ∧ ((r8 = 0 → sm_wp sm_P S (d + 1) 103 8 [.ref 107, .int (0 : Int32), .int (x3 + (1 : Int32))] [] (xLay, I6, L7, (kM R)) (0, 0) Φ) ∧ (¬ r8 = 0 → (vp_in x3 260) ∧ (vp_in x3 260) ∧ ∀ n9 : Int32, n9 = ((I6 131 x3.toNatClampNeg) + (1 : Int32)) → ∀ n10 : Int32, n10 = ((1440 : Int32) - (I6 133 x3.toNatClampNeg)) → sm_wp sm_P S d 106 0 [.ref 107, .int (0 : Int32), .int n9, .int n10] [] (xLay, I6, L7, (kM R)) (0, 0) (fun z => ∃ (r13 : Int32) (I11 : sm_I) (L12 : sm_L), z = (some (.int r13), (xLay, I11, L12, (kM R))) ∧ ((r13 = 0 → sm_wp sm_P S (d + 1) 103 8 [.ref 107, .int (0 : Int32), .int (x3 + (1 : Int32))] [] (xLay, I11, L12, (kM R)) (0, 0) Φ) ∧ (¬ r13 = 0 → sm_wp sm_P S (d + 1) 103 8 [.ref 107, .int (1 : Int32), .int (x3 + (1 : Int32))] [] (xLay, I11, L12, (kM R)) (0, 0) Φ))))))))))))) : sm_wp sm_P S (d + 1) 103 8 [.ref 107, .int x2, .int x3] [] (xLay, I, L, (kM R)) (0, 0) Φ := sm_wp_step (⟨(h).1, ⟨fun q20 => (((h).2).1 q20), fun q20 => ⟨fun q19 => (((((h).2).2 q20)).1 q19), fun q19 => ⟨fun q18 => sm_ci0 ((((((((h).2).2 q20)).2 q19)).1 q18)) (fun r3 I1 L2 q4 => q4), fun q18 => ⟨((((((((h).2).2 q20)).2 q19)).2 q18)).1, ⟨(((((((((h).2).2 q20)).2 q19)).2 q18)).2).1, sm_ci0 (((((((((((h).2).2 q20)).2 q19)).2 q18)).2).2 _ rfl)) (fun r8 I6 L7 q17 => ⟨fun q16 => ((q17).1 q16), fun q16 => ⟨(((q17).2 q16)).1, ⟨((((q17).2 q16)).2).1, sm_ci0 (((((((q17).2 q16)).2).2 _ rfl) _ rfl)) (fun r13 I11 L12 q15 => ⟨fun q14 => ((q15).1 q14), fun q14 => ((q15).2 q14)⟩)⟩⟩⟩)⟩⟩⟩⟩⟩⟩)
theorem p_X12_begins_19 {S : sm_C} {d : Nat} {Φ : sm_Z → Prop} {I : sm_I} {L : sm_L} {R : sm_R} {x2 : Int32} {x3 : Int32} (h : (((I 107 54) ≤ x3 → (x2 = 0 ∨ x2 = 1) ∧ Φ (some (.int x2), (xLay, I, L, (kM R)))) ∧ (¬ (I 107 54) ≤ x3 → ((x2 = 0 → (x2 = 0 ∨ x2 = 1) ∧ Φ (some (.int x2), (xLay, I, L, (kM R)))) ∧ (¬ x2 = 0 → (vp_in x3 6) ∧ (vp_in x3 6) ∧ (vp_in x3 6) ∧ (vp_in x3 6) ∧ ∀ n1 : Int32, n1 = ((I 144 x3.toNatClampNeg) + (1 : Int32)) → ∀ n2 : Int32, n2 = ((I 145 x3.toNatClampNeg) + (1 : Int32)) → sm_wp sm_P S d 104 0 [.ref 107, .int n1, .int n2, .int (I 146 x3.toNatClampNeg), .int (I 147 x3.toNatClampNeg)] [] (xLay, I, L, (kM R)) (0, 0) (fun z => ∃ (r5 : Int32) (I3 : sm_I) (L4 : sm_L), z = (some (.int r5), (xLay, I3, L4, (kM R))) ∧ sm_wp sm_P S (d + 1) 103 19 [.ref 107, .int r5, .int (x3 + (1 : Int32))] [] (xLay, I3, L4, (kM R)) (0, 0) Φ)))))) : sm_wp sm_P S (d + 1) 103 19 [.ref 107, .int x2, .int x3] [] (xLay, I, L, (kM R)) (0, 0) Φ := sm_wp_step (⟨fun q8 => ⟨(((h).1 q8)).1, (((h).1 q8)).2⟩, fun q8 => ⟨fun q7 => ⟨(((((h).2 q8)).1 q7)).1, (((((h).2 q8)).1 q7)).2⟩, fun q7 => ⟨(((((h).2 q8)).2 q7)).1, ⟨((((((h).2 q8)).2 q7)).2).1, ⟨(((((((h).2 q8)).2 q7)).2).2).1, ⟨((((((((h).2 q8)).2 q7)).2).2).2).1, sm_ci0 (((((((((((h).2 q8)).2 q7)).2).2).2).2 _ rfl) _ rfl)) (fun r5 I3 L4 q6 => q6)⟩⟩⟩⟩⟩⟩)
theorem p_X12_chooses_0 {S : sm_C} {d : Nat} {Φ : sm_Z → Prop} {I : sm_I} {L : sm_L} {R : sm_R} {x1 : Int32} {x2 : Int32} (h : (((10 : Int32) ≤ x1 → (((60 : Int32) ≤ x1 → (vp_in (x1 - (60 : Int32)) 10) ∧ ∀ n1 : Int32, n1 = (I 152 (x1 - (60 : Int32)).toNatClampNeg) → (((60 : Int32) ≤ x1 → (vp_in (x1 - (60 : Int32)) 10) ∧ ∀ n2 : Int32, n2 = ((I 151 (x1 - (60 : Int32)).toNatClampNeg) + (1 : Int32)) → (((60 : Int32) ≤ x1 → (vp_in (I 107 18) 2) ∧ sm_wp sm_P S (d + 1) 115 19 [.ref 107, .int x2, .int n1, .int n2] [.int ((I 122 (I 107 18).toNatClampNeg) + (1 : Int32))] (xLay, I, L, (kM R)) (0, 0) Φ) ∧ (¬ (60 : Int32) ≤ x1 → (vp_in (x1 - (10 : Int32)) 45) ∧ sm_wp sm_P S (d + 1) 115 19 [.ref 107, .int x2, .int n1, .int n2] [.int ((I 141 (x1 - (10 : Int32)).toNatClampNeg) + (1 : Int32))] (xLay, I, L, (kM R)) (0, 0) Φ))) ∧ (¬ (60 : Int32) ≤ x1 → (vp_in (x1 - (10 : Int32)) 45) ∧ ∀ n4 : Int32, n4 = ((I 140 (x1 - (10 : Int32)).toNatClampNeg) + (1 : Int32)) → (((60 : Int32) ≤ x1 → (vp_in (I 107 18) 2) ∧ sm_wp sm_P S (d + 1) 115 19 [.ref 107, .int x2, .int n1, .int n4] [.int ((I 122 (I 107 18).toNatClampNeg) + (1 : Int32))] (xLay, I, L, (kM R)) (0, 0) Φ) ∧ (¬ (60 : Int32) ≤ x1 → (vp_in (x1 - (10 : Int32)) 45) ∧ sm_wp sm_P S (d + 1) 115 19 [.ref 107, .int x2, .int n1, .int n4] [.int ((I 141 (x1 - (10 : Int32)).toNatClampNeg) + (1 : Int32))] (xLay, I, L, (kM R)) (0, 0) Φ))))) ∧ (¬ (60 : Int32) ≤ x1 → (vp_in (x1 - (10 : Int32)) 45) ∧ ∀ n7 : Int32, n7 = (I 142 (x1 - (10 : Int32)).toNatClampNeg) → (((60 : Int32) ≤ x1 → (vp_in (x1 - (60 : Int32)) 10) ∧ ∀ n8 : Int32, n8 = ((I 151 (x1 - (60 : Int32)).toNatClampNeg) + (1 : Int32)) → (((60 : Int32) ≤ x1 → (vp_in (I 107 18) 2) ∧ sm_wp sm_P S (d + 1) 115 19 [.ref 107, .int x2, .int n7, .int n8] [.int ((I 122 (I 107 18).toNatClampNeg) + (1 : Int32))] (xLay, I, L, (kM R)) (0, 0) Φ) ∧ (¬ (60 : Int32) ≤ x1 → (vp_in (x1 - (10 : Int32)) 45) ∧ sm_wp sm_P S (d + 1) 115 19 [.ref 107, .int x2, .int n7, .int n8] [.int ((I 141 (x1 - (10 : Int32)).toNatClampNeg) + (1 : Int32))] (xLay, I, L, (kM R)) (0, 0) Φ))) ∧ (¬ (60 : Int32) ≤ x1 → (vp_in (x1 - (10 : Int32)) 45) ∧ ∀ n10 : Int32, n10 = ((I 140 (x1 - (10 : Int32)).toNatClampNeg) + (1 : Int32)) → (((60 : Int32) ≤ x1 → (vp_in (I 107 18) 2) ∧ sm_wp sm_P S (d + 1) 115 19 [.ref 107, .int x2, .int n7, .int n10] [.int ((I 122 (I 107 18).toNatClampNeg) + (1 : Int32))] (xLay, I, L, (kM R)) (0, 0) Φ) ∧ (¬ (60 : Int32) ≤ x1 → (vp_in (x1 - (10 : Int32)) 45) ∧ sm_wp sm_P S (d + 1) 115 19 [.ref 107, .int x2, .int n7, .int n10] [.int ((I 141 (x1 - (10 : Int32)).toNatClampNeg) + (1 : Int32))] (xLay, I, L, (kM R)) (0, 0) Φ))))))) ∧ (¬ (10 : Int32) ≤ x1 → ∀ n14 : Int32, n14 = (((4 : Int32) * (((10 : Int32) * (I 107 18)) + x1)) + x2) → (((((I 107 68) >>> (x1 &&& 31)) &&& (1 : Int32)) = (1 : Int32) → sm_wp sm_P S (d + 1) 115 5 [.ref 107, .int n14, .int (I 107 69), .int ((3 : Int32) * n14)] [] (xLay, I, L, (kM R)) (0, 0) Φ) ∧ (¬ (((I 107 68) >>> (x1 &&& 31)) &&& (1 : Int32)) = (1 : Int32) → sm_wp sm_P S (d + 1) 115 5 [.ref 107, .int n14, .int (0 : Int32), .int ((3 : Int32) * n14)] [] (xLay, I, L, (kM R)) (0, 0) Φ))))) : sm_wp sm_P S (d + 1) 115 0 [.ref 107, .int x1, .int x2] [] (xLay, I, L, (kM R)) (0, 0) Φ := sm_wp_step (⟨fun q16 => ⟨fun q13 => ⟨(((((h).1 q16)).1 q13)).1, ⟨fun q6 => ⟨(((((((((h).1 q16)).1 q13)).2 _ rfl)).1 q6)).1, ⟨fun q3 => ⟨(((((((((((((h).1 q16)).1 q13)).2 _ rfl)).1 q6)).2 _ rfl)).1 q3)).1, (((((((((((((h).1 q16)).1 q13)).2 _ rfl)).1 q6)).2 _ rfl)).1 q3)).2⟩, fun q3 => ⟨(((((((((((((h).1 q16)).1 q13)).2 _ rfl)).1 q6)).2 _ rfl)).2 q3)).1, (((((((((((((h).1 q16)).1 q13)).2 _ rfl)).1 q6)).2 _ rfl)).2 q3)).2⟩⟩⟩, fun q6 => ⟨(((((((((h).1 q16)).1 q13)).2 _ rfl)).2 q6)).1, ⟨fun q5 => ⟨(((((((((((((h).1 q16)).1 q13)).2 _ rfl)).2 q6)).2 _ rfl)).1 q5)).1, (((((((((((((h).1 q16)).1 q13)).2 _ rfl)).2 q6)).2 _ rfl)).1 q5)).2⟩, fun q5 => ⟨(((((((((((((h).1 q16)).1 q13)).2 _ rfl)).2 q6)).2 _ rfl)).2 q5)).1, (((((((((((((h).1 q16)).1 q13)).2 _ rfl)).2 q6)).2 _ rfl)).2 q5)).2⟩⟩⟩⟩⟩, fun q13 => ⟨(((((h).1 q16)).2 q13)).1, ⟨fun q12 => ⟨(((((((((h).1 q16)).2 q13)).2 _ rfl)).1 q12)).1, ⟨fun q9 => ⟨(((((((((((((h).1 q16)).2 q13)).2 _ rfl)).1 q12)).2 _ rfl)).1 q9)).1, (((((((((((((h).1 q16)).2 q13)).2 _ rfl)).1 q12)).2 _ rfl)).1 q9)).2⟩, fun q9 => ⟨(((((((((((((h).1 q16)).2 q13)).2 _ rfl)).1 q12)).2 _ rfl)).2 q9)).1, (((((((((((((h).1 q16)).2 q13)).2 _ rfl)).1 q12)).2 _ rfl)).2 q9)).2⟩⟩⟩, fun q12 => ⟨(((((((((h).1 q16)).2 q13)).2 _ rfl)).2 q12)).1, ⟨fun q11 => ⟨(((((((((((((h).1 q16)).2 q13)).2 _ rfl)).2 q12)).2 _ rfl)).1 q11)).1, (((((((((((((h).1 q16)).2 q13)).2 _ rfl)).2 q12)).2 _ rfl)).1 q11)).2⟩, fun q11 => ⟨(((((((((((((h).1 q16)).2 q13)).2 _ rfl)).2 q12)).2 _ rfl)).2 q11)).1, (((((((((((((h).1 q16)).2 q13)).2 _ rfl)).2 q12)).2 _ rfl)).2 q11)).2⟩⟩⟩⟩⟩⟩, fun q16 => ⟨fun q15 => (((((h).2 q16) _ rfl)).1 q15), fun q15 => (((((h).2 q16) _ rfl)).2 q15)⟩⟩)
theorem p_X12_chooses_5 {S : sm_C} {d : Nat} {Φ : sm_Z → Prop} {I : sm_I} {L : sm_L} {R : sm_R} {x3 : Int32} {x4 : Int32} {x5 : Int32} (h : (vp_in x3 80) ∧ (((((3 : Int32) * x3) + (I 129 x3.toNatClampNeg)) ≤ x5 → Φ (some (.int (1 : Int32)), (xLay, I, L, (kM R)))) ∧ (¬ (((3 : Int32) * x3) + (I 129 x3.toNatClampNeg)) ≤ x5 → sm_wp sm_P S d 139 0 [.ref 107, .int x5, .int x4] [] (xLay, I, L, (kM R)) (0, 0) (fun z => ∃ (r3 : Int32) (I1 : sm_I) (L2 : sm_L), z = (some (.int r3), (xLay, I1, L2, (kM R))) ∧ ((r3 = 0 → Φ (some (.int (0 : Int32)), (xLay, I1, L2, (kM R)))) ∧ (¬ r3 = 0 → sm_wp sm_P S (d + 1) 115 5 [.ref 107, .int x3, .int x4, .int (x5 + (1 : Int32))] [] (xLay, I1, L2, (kM R)) (0, 0) Φ)))))) : sm_wp sm_P S (d + 1) 115 5 [.ref 107, .int x3, .int x4, .int x5] [] (xLay, I, L, (kM R)) (0, 0) Φ := sm_wp_step (⟨(h).1, ⟨fun q6 => ⟨Or.inr rfl, (((h).2).1 q6)⟩, fun q6 => sm_ci0 ((((h).2).2 q6)) (fun r3 I1 L2 q5 => ⟨fun q4 => ⟨Or.inl rfl, ((q5).1 q4)⟩, fun q4 => ((q5).2 q4)⟩)⟩⟩)
theorem p_X12_chooses_19 {S : sm_C} {d : Nat} {Φ : sm_Z → Prop} {I : sm_I} {L : sm_L} {R : sm_R} {x2 : Int32} {x3 : Int32} {x4 : Int32} {s0 : Int32} (h : ((x2 = 0 → sm_wp sm_P S d 98 0 [.ref 107, .int s0, .int x4, .int (-x3)] [] (xLay, I, L, (kM R)) (0, 0) (fun z => ∃ (r7 : Int32) (I5 : sm_I) (L6 : sm_L), z = (some (.int r7), (xLay, I5, L6, (kM R))) ∧ sm_wp sm_P S (d + 1) 115 22 [] [.int r7] (xLay, I5, L6, (kM R)) (0, 0) Φ)) ∧ (¬ x2 = 0 → sm_wp sm_P S d 98 0 [.ref 107, .int x4, .int s0, .int (-x3)] [] (xLay, I, L, (kM R)) (0, 0) (fun z => ∃ (r3 : Int32) (I1 : sm_I) (L2 : sm_L), z = (some (.int r3), (xLay, I1, L2, (kM R))) ∧ sm_wp sm_P S (d + 1) 115 22 [] [.int r3] (xLay, I1, L2, (kM R)) (0, 0) Φ)))) : sm_wp sm_P S (d + 1) 115 19 [.ref 107, .int x2, .int x3, .int x4] [.int s0] (xLay, I, L, (kM R)) (0, 0) Φ := sm_wp_step (⟨fun q9 => sm_ci0 (((h).1 q9)) (fun r7 I5 L6 q8 => q8), fun q9 => sm_ci0 (((h).2 q9)) (fun r3 I1 L2 q4 => q4)⟩)
theorem p_X12_chooses_22 {S : sm_C} {d : Nat} {Φ : sm_Z → Prop} {I : sm_I} {L : sm_L} {R : sm_R} {s0 : Int32} (h : (s0 = 0 ∨ s0 = 1) ∧ Φ (some (.int s0), (xLay, I, L, (kM R)))) : sm_wp sm_P S (d + 1) 115 22 [] [.int s0] (xLay, I, L, (kM R)) (0, 0) Φ := sm_wp_step (⟨(h).1, (h).2⟩)
theorem p_X12_lists_0 {S : sm_C} {d : Nat} {Φ : sm_Z → Prop} {I : sm_I} {L : sm_L} {R : sm_R} {x1 : Int32} (h : sm_wp sm_P S d 160 1 [.ref 107, .int x1, .int (0 : Int32)] [] (xLay, (sm_up I 107 59 (0 : Int32)), L, (kM R)) (0, 0) Φ) : sm_wp sm_P S d 160 0 [.ref 107, .int x1] [] (xLay, I, L, (kM R)) (0, 0) Φ := sm_wp_step (h)
theorem p_X12_lists_1 {S : sm_C} {d : Nat} {Φ : sm_Z → Prop} {I : sm_I} {L : sm_L} {R : sm_R} {x1 : Int32} {x2 : Int32} (h : (vp_in (I 107 18) 2) ∧ (((I 125 (I 107 18).toNatClampNeg) ≤ x2 → sm_wp sm_P S d 160 7 [.ref 107, .int (0 : Int32)] [] (xLay, I, L, (kM R)) (0, 0) Φ) ∧ (¬ (I 125 (I 107 18).toNatClampNeg) ≤ x2 → ((((x1 >>> (x2 &&& 31)) &&& (1 : Int32)) = 0 → sm_wp sm_P S d 160 1 [.ref 107, .int x1, .int (x2 + (1 : Int32))] [] (xLay, I, L, (kM R)) (0, 0) Φ) ∧ (¬ ((x1 >>> (x2 &&& 31)) &&& (1 : Int32)) = 0 → (vp_in (I 107 59) 70) ∧ ∀ I1 : sm_I, I1 = (sm_up I 148 (I 107 59).toNatClampNeg x2) → ∀ I2 : sm_I, I2 = (sm_up I1 107 59 ((I1 107 59) + (1 : Int32))) → sm_wp sm_P S d 160 1 [.ref 107, .int x1, .int (x2 + (1 : Int32))] [] (xLay, I2, L, (kM R)) (0, 0) Φ))))) : sm_wp sm_P S d 160 1 [.ref 107, .int x1, .int x2] [] (xLay, I, L, (kM R)) (0, 0) Φ := sm_wp_step (⟨(h).1, ⟨fun q4 => (((h).2).1 q4), fun q4 => ⟨fun q3 => (((((h).2).2 q4)).1 q3), fun q3 => ⟨((((((h).2).2 q4)).2 q3)).1, ((((((((h).2).2 q4)).2 q3)).2 _ rfl) _ rfl)⟩⟩⟩⟩)
theorem p_X12_lists_7 {S : sm_C} {d : Nat} {Φ : sm_Z → Prop} {I : sm_I} {L : sm_L} {R : sm_R} {x2 : Int32} (h : (((I 107 46) ≤ x2 → sm_wp sm_P S d 160 10 [.ref 107, .int (0 : Int32)] [] (xLay, I, L, (kM R)) (0, 0) Φ) ∧ (¬ (I 107 46) ≤ x2 → (vp_in (I 107 59) 70) ∧ ∀ I1 : sm_I, I1 = (sm_up I 148 (I 107 59).toNatClampNeg ((10 : Int32) + x2)) → ∀ I2 : sm_I, I2 = (sm_up I1 107 59 ((I1 107 59) + (1 : Int32))) → sm_wp sm_P S d 160 7 [.ref 107, .int (x2 + (1 : Int32))] [] (xLay, I2, L, (kM R)) (0, 0) Φ))) : sm_wp sm_P S d 160 7 [.ref 107, .int x2] [] (xLay, I, L, (kM R)) (0, 0) Φ := sm_wp_step (⟨fun q3 => ((h).1 q3), fun q3 => ⟨(((h).2 q3)).1, (((((h).2 q3)).2 _ rfl) _ rfl)⟩⟩)
theorem p_X12_lists_10 {S : sm_C} {d : Nat} {Φ : sm_Z → Prop} {I : sm_I} {L : sm_L} {R : sm_R} {x2 : Int32} (h : (((I 107 67) ≤ x2 → Φ (none, (xLay, I, L, (kM R)))) ∧ (¬ (I 107 67) ≤ x2 → (vp_in (I 107 59) 70) ∧ ∀ I1 : sm_I, I1 = (sm_up I 148 (I 107 59).toNatClampNeg ((60 : Int32) + x2)) → ∀ I2 : sm_I, I2 = (sm_up I1 107 59 ((I1 107 59) + (1 : Int32))) → sm_wp sm_P S d 160 10 [.ref 107, .int (x2 + (1 : Int32))] [] (xLay, I2, L, (kM R)) (0, 0) Φ))) : sm_wp sm_P S d 160 10 [.ref 107, .int x2] [] (xLay, I, L, (kM R)) (0, 0) Φ := sm_wp_step (⟨fun q3 => ((h).1 q3), fun q3 => ⟨(((h).2 q3)).1, (((((h).2 q3)).2 _ rfl) _ rfl)⟩⟩)
theorem p_X12_notes_0 {S : sm_C} {d : Nat} {Φ : sm_Z → Prop} {I : sm_I} {L : sm_L} {R : sm_R} {x1 : Int32} {x2 : Int32} {x3 : Int32} (h : (vp_in ((I 107 63) - (1 : Int32)) 1000) ∧ ∀ I1 : sm_I, I1 = (sm_up I 154 ((I 107 63) - (1 : Int32)).toNatClampNeg (vp_nar .byte (x1).toInt8.toInt32)) → (vp_in ((I1 107 63) - (1 : Int32)) 1000) ∧ ∀ I2 : sm_I, I2 = (sm_up I1 155 ((I1 107 63) - (1 : Int32)).toNatClampNeg (vp_nar .byte (x2).toInt8.toInt32)) → (vp_in ((I2 107 63) - (1 : Int32)) 1000) ∧ ∀ I3 : sm_I, I3 = (sm_up I2 156 ((I2 107 63) - (1 : Int32)).toNatClampNeg (vp_nar .boolean x3)) → Φ (none, (xLay, I3, L, (kM R)))) : sm_wp sm_P S d 168 0 [.ref 107, .int x1, .int x2, .int x3] [] (xLay, I, L, (kM R)) (0, 0) Φ := sm_wp_step (⟨(h).1, ⟨(((h).2 _ rfl)).1, ⟨(((((h).2 _ rfl)).2 _ rfl)).1, ((((((h).2 _ rfl)).2 _ rfl)).2 _ rfl)⟩⟩⟩)
theorem p_X12_undoubted_0 {S : sm_C} {d : Nat} {Φ : sm_Z → Prop} {I : sm_I} {L : sm_L} {R : sm_R} (h : sm_wp sm_P S d 208 1 [.ref 107, .int (0 : Int32), .int (0 : Int32)] [] (xLay, I, L, (kM R)) (0, 0) Φ) : sm_wp sm_P S d 208 0 [.ref 107] [] (xLay, I, L, (kM R)) (0, 0) Φ := sm_wp_step (h)
theorem p_X12_undoubted_1 {S : sm_C} {d : Nat} {Φ : sm_Z → Prop} {I : sm_I} {L : sm_L} {R : sm_R} {x1 : Int32} {x2 : Int32} (h : (vp_in (I 107 18) 2) ∧ (((I 125 (I 107 18).toNatClampNeg) ≤ x2 → Φ (some (.int x1), (xLay, I, L, (kM R)))) ∧ (¬ (I 125 (I 107 18).toNatClampNeg) ≤ x2 → (vp_in x2 10) ∧ (((I 137 x2.toNatClampNeg) = 0 → ∀ n1 : Int32, n1 = (x1 ||| ((1 : Int32) <<< (x2 &&& 31))) → sm_wp sm_P S d 208 1 [.ref 107, .int n1, .int (x2 + (1 : Int32))] [] (xLay, I, L, (kM R)) (0, 0) Φ) ∧ (¬ (I 137 x2.toNatClampNeg) = 0 → sm_wp sm_P S d 208 1 [.ref 107, .int x1, .int (x2 + (1 : Int32))] [] (xLay, I, L, (kM R)) (0, 0) Φ))))) : sm_wp sm_P S d 208 1 [.ref 107, .int x1, .int x2] [] (xLay, I, L, (kM R)) (0, 0) Φ := sm_wp_step (⟨(h).1, ⟨fun q3 => (((h).2).1 q3), fun q3 => ⟨((((h).2).2 q3)).1, ⟨fun q2 => (((((((h).2).2 q3)).2).1 q2) _ rfl), fun q2 => ((((((h).2).2 q3)).2).2 q2)⟩⟩⟩⟩)
theorem p_X12_searches_0 {S : sm_C} {d : Nat} {Φ : sm_Z → Prop} {I : sm_I} {L : sm_L} {R : sm_R} {x1 : Int32} (h : ∀ I1 : sm_I, I1 = (sm_up (sm_up I 107 63 (0 : Int32)) 107 64 (0 : Int32)) → (((I1 107 59) = 0 → Φ (some (.int (1 : Int32)), (xLay, I1, L, (kM R)))) ∧ (¬ (I1 107 59) = 0 → (vp_in (0 : Int32) 70) ∧ ∀ I2 : sm_I, I2 = (sm_up I1 150 (0 : Int32).toNatClampNeg (0 : Int32)) → sm_wp sm_P S (d + 1) 186 3 [.ref 107, .int x1, .int (0 : Int32), .int (0 : Int32)] [] (xLay, I2, L, (kM R)) (0, 0) Φ))) : sm_wp sm_P S (d + 1) 186 0 [.ref 107, .int x1] [] (xLay, I, L, (kM R)) (0, 0) Φ := sm_wp_step (⟨Or.inl rfl, ⟨fun q3 => (((h _ rfl)).1 q3), fun q3 => ⟨((((h _ rfl)).2 q3)).1, (((((h _ rfl)).2 q3)).2 _ rfl)⟩⟩⟩)
theorem p_X12_searches_3 {S : sm_C} {d : Nat} {Φ : sm_Z → Prop} {I : sm_I} {L : sm_L} {R : sm_R} {x1 : Int32} {x2 : Int32} {x3 : Int32} (h : ((x3 < 0 → Φ (some (.int x2), (xLay, I, L, (kM R)))) ∧ (¬ x3 < 0 → (vp_in x3 70) ∧ (vp_in x3 70) ∧ sm_wp sm_P S d 114 0 [.ref 107, .int (I 148 x3.toNatClampNeg)] [] (xLay, I, L, (kM R)) (0, 0) (fun z => ∃ (r3 : Int32) (I1 : sm_I) (L2 : sm_L), z = (some (.int r3), (xLay, I1, L2, (kM R))) ∧ (((I 150 x3.toNatClampNeg) = r3 → sm_wp sm_P S (d + 1) 186 3 [.ref 107, .int x1, .int x2, .int (x3 + (-1 : Int32))] [] (xLay, I1, L2, (kM R)) (0, 0) Φ) ∧ (¬ (I 150 x3.toNatClampNeg) = r3 → (vp_in x3 70) ∧ (vp_in x3 70) ∧ ∀ n4 : Int32, n4 = ((I1 150 x3.toNatClampNeg) + (1 : Int32)) → (vp_in x3 70) ∧ ∀ I5 : sm_I, I5 = (sm_up I1 150 x3.toNatClampNeg n4) → ∀ I6 : sm_I, I6 = (sm_up I5 107 63 ((I5 107 63) + (1 : Int32))) → (((I6 107 63) ≤ (1000 : Int32) → sm_wp sm_P S d 116 0 [.ref 107, .int x3, .int (x3 + (1 : Int32))] [] (xLay, I6, L2, (kM R)) (0, 0) (fun z => ∃ (I7 : sm_I) (L8 : sm_L), z = (none, (xLay, I7, L8, (kM R))) ∧ ∀ I10 : sm_I, I10 = (sm_up I7 107 52 (x3 + (1 : Int32))) → (vp_in x3 70) ∧ sm_wp sm_P S d 115 0 [.ref 107, .int (I10 148 x3.toNatClampNeg), .int (I1 150 x3.toNatClampNeg)] [] (xLay, I10, L8, (kM R)) (0, 0) (fun z => ∃ (r13 : Int32) (I11 : sm_I) (L12 : sm_L), z = (some (.int r13), (xLay, I11, L12, (kM R))) ∧ ((x1 = 0 → ((r13 = 0 → sm_wp sm_P S (d + 1) 186 3 [.ref 107, .int x1, .int x2, .int x3] [] (xLay, I11, L12, (kM R)) (0, 0) Φ) ∧ (¬ r13 = 0 → (vp_in x3 70) ∧ ∀ I14 : sm_I, I14 = (sm_up I11 149 x3.toNatClampNeg (I1 150 x3.toNatClampNeg)) → (((I14 107 59) ≤ (x3 + (1 : Int32)) → ((x1 = 0 → Φ (some (.int (1 : Int32)), (xLay, I14, L12, (kM R)))) ∧ (¬ x1 = 0 → sm_wp sm_P S (d + 1) 186 17 [.ref 107, .int x1, .int x2, .int x3, .int (0 : Int32)] [] (xLay, I14, L12, (kM R)) (0, 0) Φ))) ∧ (¬ (I14 107 59) ≤ (x3 + (1 : Int32)) → (vp_in (x3 + (1 : Int32)) 70) ∧ ∀ I16 : sm_I, I16 = (sm_up I14 150 (x3 + (1 : Int32)).toNatClampNeg (0 : Int32)) → sm_wp sm_P S (d + 1) 186 3 [.ref 107, .int x1, .int x2, .int (x3 + (1 : Int32))] [] (xLay, I16, L12, (kM R)) (0, 0) Φ))))) ∧ (¬ x1 = 0 → (vp_in x3 70) ∧ sm_wp sm_P S d 168 0 [.ref 107, .int (I11 148 x3.toNatClampNeg), .int (I1 150 x3.toNatClampNeg), .int r13] [] (xLay, I11, L12, (kM R)) (0, 0) (fun z => ∃ (I19 : sm_I) (L20 : sm_L), z = (none, (xLay, I19, L20, (kM R))) ∧ ((r13 = 0 → sm_wp sm_P S (d + 1) 186 3 [.ref 107, .int x1, .int x2, .int x3] [] (xLay, I19, L20, (kM R)) (0, 0) Φ) ∧ (¬ r13 = 0 → (vp_in x3 70) ∧ ∀ I22 : sm_I, I22 = (sm_up I19 149 x3.toNatClampNeg (I1 150 x3.toNatClampNeg)) → (((I22 107 59) ≤ (x3 + (1 : Int32)) → ((x1 = 0 → Φ (some (.int (1 : Int32)), (xLay, I22, L20, (kM R)))) ∧ (¬ x1 = 0 → sm_wp sm_P S (d + 1) 186 17 [.ref 107, .int x1, .int x2, .int x3, .int (0 : Int32)] [] (xLay, I22, L20, (kM R)) (0, 0) Φ))) ∧ (¬ (I22 107 59) ≤ (x3 + (1 : Int32)) → (vp_in (x3 + (1 : Int32)) 70) ∧ ∀ I24 : sm_I, I24 = (sm_up I22 150 (x3 + (1 : Int32)).toNatClampNeg (0 : Int32)) → sm_wp sm_P S (d + 1) 186 3 [.ref 107, .int x1, .int x2, .int (x3 + (1 : Int32))] [] (xLay, I24, L20, (kM R)) (0, 0) Φ)))))))))) ∧ (¬ (I6 107 63) ≤ (1000 : Int32) → ∀ I31 : sm_I, I31 = (sm_up I6 107 64 (1 : Int32)) → Φ (some (.int x2), (xLay, I31, L2, (kM R))))))))))) : sm_wp sm_P S (d + 1) 186 3 [.ref 107, .int x1, .int x2, .int x3] [] (xLay, I, L, (kM R)) (0, 0) Φ := sm_wp_step (⟨fun q35 => ((h).1 q35), fun q35 => ⟨(((h).2 q35)).1, ⟨((((h).2 q35)).2).1, sm_ci0 (((((h).2 q35)).2).2) (fun r3 I1 L2 q34 => ⟨fun q33 => ((q34).1 q33), fun q33 => ⟨(((q34).2 q33)).1, ⟨((((q34).2 q33)).2).1, ⟨((((((q34).2 q33)).2).2 _ rfl)).1, ⟨fun q32 => sm_cv0 (((((((((((q34).2 q33)).2).2 _ rfl)).2 _ rfl) _ rfl)).1 q32)) (fun I7 L8 q30 => ⟨((q30 _ rfl)).1, sm_ci0 (((q30 _ rfl)).2) (fun r13 I11 L12 q29 => ⟨fun q28 => ⟨fun q18 => ((((q29).1 q28)).1 q18), fun q18 => ⟨(((((q29).1 q28)).2 q18)).1, ⟨fun q17 => ⟨fun q15 => ((((((((((q29).1 q28)).2 q18)).2 _ rfl)).1 q17)).1 q15), fun q15 => ((((((((((q29).1 q28)).2 q18)).2 _ rfl)).1 q17)).2 q15)⟩, fun q17 => ⟨(((((((((q29).1 q28)).2 q18)).2 _ rfl)).2 q17)).1, ((((((((((q29).1 q28)).2 q18)).2 _ rfl)).2 q17)).2 _ rfl)⟩⟩⟩⟩, fun q28 => ⟨(((q29).2 q28)).1, sm_cv0 ((((q29).2 q28)).2) (fun I19 L20 q27 => ⟨fun q26 => ((q27).1 q26), fun q26 => ⟨(((q27).2 q26)).1, ⟨fun q25 => ⟨fun q23 => ((((((((q27).2 q26)).2 _ rfl)).1 q25)).1 q23), fun q23 => ((((((((q27).2 q26)).2 _ rfl)).1 q25)).2 q23)⟩, fun q25 => ⟨(((((((q27).2 q26)).2 _ rfl)).2 q25)).1, ((((((((q27).2 q26)).2 _ rfl)).2 q25)).2 _ rfl)⟩⟩⟩⟩)⟩⟩)⟩), fun q32 => ⟨Or.inr rfl, (((((((((((q34).2 q33)).2).2 _ rfl)).2 _ rfl) _ rfl)).2 q32) _ rfl)⟩⟩⟩⟩⟩⟩)⟩⟩⟩)
theorem p_X12_searches_17 {S : sm_C} {d : Nat} {Φ : sm_Z → Prop} {I : sm_I} {L : sm_L} {R : sm_R} {x1 : Int32} {x2 : Int32} {x3 : Int32} {x6 : Int32} (h : (((I 107 59) ≤ x6 → sm_wp sm_P S (d + 1) 186 3 [.ref 107, .int x1, .int (x2 + (1 : Int32)), .int x3] [] (xLay, I, L, (kM R)) (0, 0) Φ) ∧ (¬ (I 107 59) ≤ x6 → (vp_in x6 70) ∧ ∀ n1 : Int32, n1 = ((I 149 x6.toNatClampNeg)).toInt8.toInt32 → (vp_in (((55 : Int32) * x2) + x6) 55100) ∧ ∀ I2 : sm_I, I2 = (sm_up I 153 (((55 : Int32) * x2) + x6).toNatClampNeg (vp_nar .byte n1)) → sm_wp sm_P S (d + 1) 186 17 [.ref 107, .int x1, .int x2, .int x3, .int (x6 + (1 : Int32))] [] (xLay, I2, L, (kM R)) (0, 0) Φ))) : sm_wp sm_P S (d + 1) 186 17 [.ref 107, .int x1, .int x2, .int x3, .int x6] [] (xLay, I, L, (kM R)) (0, 0) Φ := sm_wp_step (⟨fun q3 => ((h).1 q3), fun q3 => ⟨(((h).2 q3)).1, ⟨(((((h).2 q3)).2 _ rfl)).1, ((((((h).2 q3)).2 _ rfl)).2 _ rfl)⟩⟩⟩)
theorem p_X12_goesAll_0 {S : sm_C} {d : Nat} {Φ : sm_Z → Prop} {I : sm_I} {L : sm_L} {R : sm_R} (h : (((I 107 70) = 0 → ∀ I1 : sm_I, I1 = (sm_up (sm_up I 107 53 (0 : Int32)) 107 68 (0 : Int32)) → ∀ I2 : sm_I, I2 = (sm_up I1 107 67 (0 : Int32)) → sm_wp sm_P S d 208 0 [.ref 107] [] (xLay, I2, L, (kM R)) (0, 0) (fun z => ∃ (r5 : Int32) (I3 : sm_I) (L4 : sm_L), z = (some (.int r5), (xLay, I3, L4, (kM R))) ∧ sm_wp sm_P S d 160 0 [.ref 107, .int r5] [] (xLay, I3, L4, (kM R)) (0, 0) (fun z => ∃ (I6 : sm_I) (L7 : sm_L), z = (none, (xLay, I6, L7, (kM R))) ∧ ∀ I9 : sm_I, I9 = (sm_up I6 107 74 (I6 107 59)) → ∀ I10 : sm_I, I10 = (sm_up I9 107 73 (0 : Int32)) → ∀ I11 : sm_I, I11 = (sm_up I10 107 63 (0 : Int32)) → ∀ I12 : sm_I, I12 = (sm_up I11 107 64 (0 : Int32)) → (vp_in (I12 107 18) 2) ∧ ∀ n13 : Int32, n13 = ((I12 122 (I12 107 18).toNatClampNeg) + (1 : Int32)) → sm_wp sm_P S d 103 0 [.ref 107, .int n13] [] (xLay, I12, L7, (kM R)) (0, 0) (fun z => ∃ (r16 : Int32) (I14 : sm_I) (L15 : sm_L), z = (some (.int r16), (xLay, I14, L15, (kM R))) ∧ ((r16 = 0 → ((I14 107 64) = 0 ∨ (I14 107 64) = 1) ∧ ∀ I17 : sm_I, I17 = (sm_up I14 107 71 (I14 107 64)) → ∀ I18 : sm_I, I18 = (sm_up I17 107 72 (I17 107 63)) → ∀ I19 : sm_I, I19 = (sm_up I18 107 70 (1 : Int32)) → Φ (none, (xLay, I19, L15, (kM R)))) ∧ (¬ r16 = 0 → sm_wp sm_P S d 186 0 [.ref 107, .int (1 : Int32)] [] (xLay, I14, L15, (kM R)) (0, 0) (fun z => ∃ (r22 : Int32) (I20 : sm_I) (L21 : sm_L), z = (some (.int r22), (xLay, I20, L21, (kM R))) ∧ ∀ n23 : Int32, n23 = ((sm_up I20 107 73 r22) 107 64) → (n23 = 0 ∨ n23 = 1) ∧ ∀ I24 : sm_I, I24 = (sm_up (sm_up I20 107 73 r22) 107 71 n23) → ∀ I25 : sm_I, I25 = (sm_up I24 107 72 (I24 107 63)) → ∀ I26 : sm_I, I26 = (sm_up I25 107 70 (1 : Int32)) → Φ (none, (xLay, I26, L21, (kM R)))))))))) ∧ (¬ (I 107 70) = 0 → Φ (none, (xLay, I, L, (kM R)))))) : sm_wp sm_P S (d + 1) 135 0 [.ref 107] [] (xLay, I, L, (kM R)) (0, 0) Φ := sm_wp_step (⟨fun q32 => ⟨Or.inl rfl, sm_ci0 (((((h).1 q32) _ rfl) _ rfl)) (fun r5 I3 L4 q31 => sm_cv0 (q31) (fun I6 L7 q30 => ⟨Or.inl rfl, ⟨(((((q30 _ rfl) _ rfl) _ rfl) _ rfl)).1, sm_ci0 (((((((q30 _ rfl) _ rfl) _ rfl) _ rfl)).2 _ rfl)) (fun r16 I14 L15 q29 => ⟨fun q28 => ⟨(((q29).1 q28)).1, ⟨Or.inr rfl, ((((((q29).1 q28)).2 _ rfl) _ rfl) _ rfl)⟩⟩, fun q28 => sm_ci0 (((q29).2 q28)) (fun r22 I20 L21 q27 => ⟨((q27 _ rfl)).1, ⟨Or.inr rfl, (((((q27 _ rfl)).2 _ rfl) _ rfl) _ rfl)⟩⟩)⟩)⟩⟩))⟩, fun q32 => ((h).2 q32)⟩)
end
section
/-! the reference's bound: the greatest table under one more -/
section
variable {S : sm_C} {d : Nat} {Φ : sm_Z → Prop} {I : sm_I} {L : sm_L} {R : sm_R}
def mT (I : sm_I) (pg i j : Nat) : Int := (I 143 (169 * pg + 13 * j + i)).toInt
def chg (pg : Nat) (I J : sm_I) : Prop := ∀ p q, ¬ (p = 143 ∧ 169 * pg ≤ q ∧ q < 169 * pg + 169) → J p q = I p q
theorem chg_0 {pg : Nat} {I : sm_I} : chg pg I I := fun _ _ _ => rfl
theorem chg_t {pg : Nat} {I J K : sm_I} (a : chg pg I J) (b : chg pg J K) : chg pg I K := fun p q h => (b p q h).trans (a p q h)
def bI (pg n : Nat) (I J : sm_I) (D : Nat → Nat → Int) (i j : Nat) (w : Int) (u v : Nat) : Prop := chg pg I J ∧ ∀ a b, a < n → b < n → mT J pg b a = if a < u ∨ (a = u ∧ b < v) then tU D i j w b a else D b a
theorem rx_b5 {I0 : sm_I} {pg n i j : Nat} {x1 x2 w x4 : Int32} {D : Nat → Nat → Int} (hn : (I0 107 51).toInt = n) (p69 : pg ≤ 69) (n13 : n ≤ 13) (hj : x1.toInt = j) (hi : x2.toInt = i) (jn : j < n) (in_ : i < n) (w0 : -120000 ≤ w.toInt) (w1 : w.toInt ≤ 120000) (h4 : x4.toInt = ((169 * pg : Nat) : Int)) (bD : ∀ a b, a < n → b < n → -1440 ≤ D a b ∧ D a b ≤ 1440) (k : 0 ≤ D j i + w.toInt) (h : ∀ J, chg pg I0 J → (∀ a b, a < n → b < n → mT J pg a b = tU D i j w.toInt a b) → Φ (some (.int 1), (xLay, J, L, kM R))) : ∀ (m u : Nat) (x5 : Int32) (J : sm_I), x5.toInt = u → u + m = n → bI pg n I0 J D i j w.toInt u 0 → sm_wp sm_P S d 106 5 [.ref 107, .int x1, .int x2, .int w, .int x4, .int x5] [] (xLay, J, L, kM R) (0, 0) Φ := by
  have c13 : (13 : Int32).toInt = 13 := by decide
  have te := tU_e (n := n) (D := D) k
  intro m
  induction m with
  | zero =>
    intro u x5 J h5 hm hb
    have e51 : J 107 51 = I0 107 51 := hb.1 107 51 (by omega)
    refine p_X12_bound_5 ⟨fun _ => h J hb.1 (fun a b ha hb' => ?_), fun a => ?_⟩
    · rw [hb.2 b a hb' ha, if_pos (Or.inl (by omega))]
    · have a := kl_nle a
      rw [e51] at a
      omega
  | succ m ih =>
    intro u x5 J h5 hm hb
    have e51 : J 107 51 = I0 107 51 := hb.1 107 51 (by omega)
    have s5 := ml_in1 (x := x5) (by omega)
    refine p_X12_bound_5 ⟨fun a => ?_, fun _ => ?_⟩
    · have a := kl_le.mp a
      rw [e51] at a
      omega
    have inner : ∀ (l v : Nat) (x6 : Int32) (J : sm_I), x6.toInt = v → v + l = n → bI pg n I0 J D i j w.toInt u v → sm_wp sm_P S d 106 7 [.ref 107, .int x1, .int x2, .int w, .int x4, .int x5, .int x6] [] (xLay, J, L, kM R) (0, 0) Φ := by
      intro l
      induction l with
      | zero =>
        intro v x6 J h6 hl hb
        have e51 : J 107 51 = I0 107 51 := hb.1 107 51 (by omega)
        refine p_X12_bound_7 ⟨fun _ => ih (u + 1) _ J (by omega) (by omega) ⟨hb.1, fun a b ha hb' => ?_⟩, fun a => ?_⟩
        · rw [hb.2 a b ha hb']
          by_cases c : a < u ∨ (a = u ∧ b < v)
          · rw [if_pos c, if_pos (Or.inl (by omega))]
          · rw [if_neg c, if_neg (by omega)]
        · have a := kl_nle a
          rw [e51] at a
          omega
      | succ l il =>
        intro v x6 J h6 hl hb
        have e51 : J 107 51 = I0 107 51 := hb.1 107 51 (by omega)
        have s6 := ml_in1 (x := x6) (by omega)
        have m5 : ((13 : Int32) * x5).toInt = 13 * (u : Int) := ml_mu c13 h5 (by omega) (by omega)
        have m2 : ((13 : Int32) * x2).toInt = 13 * (i : Int) := ml_mu c13 hi (by omega) (by omega)
        have a5 : (x4 + (13 : Int32) * x5).toInt = ((169 * pg + 13 * u : Nat) : Int) := (ml_ad h4 m5 (by omega) (by omega)).trans (by omega)
        have a2 : (x4 + (13 : Int32) * x2).toInt = ((169 * pg + 13 * i : Nat) : Int) := (ml_ad h4 m2 (by omega) (by omega)).trans (by omega)
        refine p_X12_bound_7 ⟨fun a => ?_, fun _ n1 e1 => ?_⟩
        · have a := kl_le.mp a
          rw [e51] at a
          omega
        have q1 : n1.toInt = ((169 * pg + 13 * u + j : Nat) : Int) := by rw [e1]; exact (ml_ad a5 hj (by omega) (by omega)).trans (by omega)
        refine ⟨kl_in (by omega) (by omega), fun n2 e2 => ?_⟩
        have q2 : n2.toInt = ((169 * pg + 13 * i + v : Nat) : Int) := by rw [e2]; exact (ml_ad a2 h6 (by omega) (by omega)).trans (by omega)
        refine ⟨kl_in (by omega) (by omega), fun n3 e3 => ?_⟩
        rw [tk_nat q1, tk_nat q2] at e3
        have r1 : (J 143 (169 * pg + 13 * u + j)).toInt = D j u := by
          have g := hb.2 u j (by omega) jn
          rw [te.1 u] at g
          rw [show (J 143 (169 * pg + 13 * u + j)).toInt = mT J pg j u from rfl, g]
          split <;> rfl
        have r2 : (J 143 (169 * pg + 13 * i + v)).toInt = D v i := by
          have g := hb.2 i v in_ (by omega)
          rw [te.2 v] at g
          rw [show (J 143 (169 * pg + 13 * i + v)).toInt = mT J pg v i from rfl, g]
          split <;> rfl
        have b1 := bD j u jn (by omega)
        have b2 := bD v i (by omega) in_
        have q3 : n3.toInt = D j u + w.toInt + D v i := by
          rw [e3]
          exact ml_ad (ml_ad r1 rfl (by omega) (by omega)) r2 (by omega) (by omega)
        intro n4 e4
        have q4 : n4.toInt = ((169 * pg + 13 * u + v : Nat) : Int) := by rw [e4]; exact (ml_ad a5 h6 (by omega) (by omega)).trans (by omega)
        rw [tk_nat q4]
        have r4 : (J 143 (169 * pg + 13 * u + v)).toInt = D v u := by
          have g := hb.2 u v (by omega) (by omega)
          rw [if_neg (by omega)] at g
          exact g
        refine ⟨kl_in (by omega) (by omega), fun c => ?_, fun c n5 e5 => ⟨?_, fun J6 e6 => ?_⟩⟩
        · have c := kl_le.mp c
          refine il (v + 1) _ J (by omega) (by omega) ⟨hb.1, fun a b ha hb' => ?_⟩
          rw [hb.2 a b ha hb']
          by_cases c1 : a < u ∨ (a = u ∧ b < v)
          · rw [if_pos c1, if_pos (by omega)]
          · rw [if_neg c1]
            by_cases c2 : a = u ∧ b = v
            · rw [if_pos (by omega), c2.1, c2.2]
              unfold tU
              rw [if_neg (by omega)]
            · rw [if_neg (by omega)]
        · rw [e5, ← e4]
          exact kl_in (by omega) (by omega)
        · have c := kl_nle c
          rw [e5, ← e4, tk_nat q4] at e6
          refine il (v + 1) _ J6 (by omega) (by omega) ⟨fun p q hq => ?_, fun a b ha hb' => ?_⟩
          · rw [e6, en_up_ne _ _ _ _ (by omega)]; exact hb.1 p q hq
          · by_cases c2 : a = u ∧ b = v
            · rw [if_pos (by omega), c2.1, c2.2]
              unfold mT tU
              rw [e6, en_up_eq, q3, if_pos (by omega)]
              omega
            · have g := hb.2 a b ha hb'
              have e : mT J6 pg b a = mT J pg b a := by
                unfold mT
                rw [e6, en_up_ne _ _ _ _ (by omega)]
              rw [e, g]
              by_cases c1 : a < u ∨ (a = u ∧ b < v)
              · rw [if_pos c1, if_pos (by omega)]
              · rw [if_neg c1, if_neg (by omega)]
    exact inner n 0 0 J (by decide) (by omega) hb
theorem rx_bound {pg n i j : Nat} {x1 x2 w : Int32} {C : List tC} (hpg : (I 107 52).toInt = pg) (p69 : pg ≤ 69) (hn : (I 107 51).toInt = n) (n13 : n ≤ 13) (hj : x1.toInt = j) (hi : x2.toInt = i) (jn : j < n) (in_ : i < n) (w0 : -120000 ≤ w.toInt) (w1 : w.toInt ≤ 120000) (T : ttop n C (mT I pg)) (h0 : tno n ((i, j, w.toInt) :: C) → Φ (some (.int 0), (xLay, I, L, kM R))) (h1 : ∀ J, chg pg I J → ttop n ((i, j, w.toInt) :: C) (mT J pg) → Φ (some (.int 1), (xLay, J, L, kM R))) : sm_wp sm_P S d 106 0 [.ref 107, .int x1, .int x2, .int w] [] (xLay, I, L, kM R) (0, 0) Φ := by
  have c13 : (13 : Int32).toInt = 13 := by decide
  have c169 : (169 : Int32).toInt = 169 := by decide
  have bD := ttop_b T
  have m1 : ((169 : Int32) * I 107 52).toInt = 169 * (pg : Int) := ml_mu c169 hpg (by omega) (by omega)
  have m2 : ((13 : Int32) * x2).toInt = 13 * (i : Int) := ml_mu c13 hi (by omega) (by omega)
  have m3 : ((13 : Int32) * x1).toInt = 13 * (j : Int) := ml_mu c13 hj (by omega) (by omega)
  refine p_X12_bound_0 (fun n1 e1 => ?_)
  have q1 : n1.toInt = ((169 * pg + 13 * i + j : Nat) : Int) := by
    rw [e1]
    exact (ml_ad (ml_ad m1 m2 (by omega) (by omega)) hj (by omega) (by omega)).trans (by omega)
  rw [tk_nat q1]
  have r1 : (I 143 (169 * pg + 13 * i + j)).toInt = mT I pg j i := rfl
  have b1 := bD j i jn in_
  have s1 : (I 143 (169 * pg + 13 * i + j) + w).toInt = mT I pg j i + w.toInt := ml_ad r1 rfl (by omega) (by omega)
  refine ⟨kl_in (by omega) (by omega), fun a n2 e2 => ?_, fun a => h0 (t_no T in_ jn ?_)⟩
  · have a := kl_le.mp a
    rw [kl_0, s1] at a
    have q2 : n2.toInt = ((169 * pg + 13 * j + i : Nat) : Int) := by
      rw [e2]
      exact (ml_ad (ml_ad m1 m3 (by omega) (by omega)) hi (by omega) (by omega)).trans (by omega)
    rw [tk_nat q2]
    refine ⟨kl_in (by omega) (by omega), fun b => ?_, fun b => h1 I chg_0 (t_same T ?_)⟩
    · refine rx_b5 (D := mT I pg) hn p69 n13 hj hi jn in_ w0 w1 (by rw [m1]; omega) bD a (fun J cg eq => h1 J cg (ttop_eq (fun a b ha hb => (eq a b ha hb).symm) (t_up T in_ jn a))) n 0 0 I (by decide) (by omega) ⟨chg_0, fun a b _ _ => ?_⟩
      rw [if_neg (by omega)]
    · have b := kl_nlt b
      exact b
  · have a := kl_nle a
    rw [kl_0, s1] at a
    exact a
end
end
section
/-! the reference's choices as constraints on the table -/
section
variable {S : sm_C} {d : Nat} {Φ : sm_Z → Prop} {I : sm_I} {L : sm_L} {R : sm_R}
def rR (pg n : Nat) (C : List tC) (I : sm_I) (r : Int32) (J : sm_I) : Prop := chg pg I J ∧ ((r = 0 ∧ tno n C) ∨ (r = 1 ∧ ttop n C (mT J pg)))
def oA (I : sm_I) (l i : Nat) : Int32 := if i = 0 ∨ (I 122 l).toInt < i then -1 else I 135 (10 * l + i - 1)
def su (I : sm_I) (l i : Nat) : Nat := if oA I l i = -1 then i else (I 131 (oA I l i).toNatClampNeg).toNatClampNeg + 1
def fa (I : sm_I) (l i : Nat) : Int := if oA I l i = -1 then 0 else (I 133 (oA I l i).toNatClampNeg).toInt
def na (I : sm_I) (l i : Nat) : Int := if oA I l i = -1 then 0 else (I 132 (oA I l i).toNatClampNeg).toInt
def rhd (I : sm_I) (l : Nat) (c : tC) : tC := if I 107 53 = 0 ∨ c.1 = c.2.1 then c else (su I l c.1, su I l c.2.1, c.2.2 - fa I l c.1 + na I l c.2.1)
def hok (I : sm_I) (l n : Nat) : Prop := I 107 53 = 0 ∨ ∀ i, i < n → su I l i < n ∧ (-1440 ≤ fa I l i ∧ fa I l i ≤ 1440) ∧ (-1440 ≤ na I l i ∧ na I l i ≤ 1440) ∧ (oA I l i = -1 ∨ ((0 ≤ (oA I l i).toInt ∧ (oA I l i).toInt < 260) ∧ 0 ≤ (I 131 (oA I l i).toNatClampNeg).toInt))
/-- what a call needs of the reference -/
def rB0 (I : sm_I) (pg n l : Nat) : Prop := (I 107 52).toInt = pg ∧ pg ≤ 69 ∧ (I 107 51).toInt = n ∧ n ≤ 12 ∧ (I 107 18).toInt = l ∧ l ≤ 1 ∧ (0 ≤ (I 122 l).toInt ∧ (I 122 l).toInt ≤ 10) ∧ hok I l n
theorem oA_cg {pg : Nat} {I J : sm_I} (h : chg pg I J) (l i : Nat) : oA J l i = oA I l i := by
  unfold oA
  rw [h 122 l (by omega), h 135 _ (by omega)]
theorem su_cg {pg : Nat} {I J : sm_I} (h : chg pg I J) (l i : Nat) : su J l i = su I l i ∧ fa J l i = fa I l i ∧ na J l i = na I l i := by
  unfold su fa na
  rw [oA_cg h, h 131 _ (by omega), h 132 _ (by omega), h 133 _ (by omega)]
  exact ⟨rfl, rfl, rfl⟩
theorem rhd_cg {pg : Nat} {I J : sm_I} (h : chg pg I J) (l : Nat) : rhd J l = rhd I l := by
  funext c
  unfold rhd
  rw [h 107 53 (by omega), (su_cg h l c.1).1, (su_cg h l c.2.1).1, (su_cg h l c.1).2.1, (su_cg h l c.2.1).2.2]
theorem rB0_cg {pg n l : Nat} {I J : sm_I} (h : chg pg I J) (b : rB0 I pg n l) : rB0 J pg n l := by
  obtain ⟨b1, b2, b3, b4, b5, b6, b7, b8⟩ := b
  refine ⟨by rw [h 107 52 (by omega)]; exact b1, b2, by rw [h 107 51 (by omega)]; exact b3, b4, by rw [h 107 18 (by omega)]; exact b5, b6, by rw [h 122 l (by omega)]; exact b7, ?_⟩
  rcases b8 with e | e
  · exact Or.inl (by rw [h 107 53 (by omega)]; exact e)
  · refine Or.inr (fun i hi => ?_)
    rw [(su_cg h l i).1, (su_cg h l i).2.1, (su_cg h l i).2.2, oA_cg h, h 131 _ (by omega)]
    exact e i hi
theorem rx_openAt {x : Int32} {i l : Nat} (hx : x.toInt = i) (hl : (I 107 18).toInt = l) (l1 : l ≤ 1) (b : 0 ≤ (I 122 l).toInt ∧ (I 122 l).toInt ≤ 10) (h : Φ (some (.int (oA I l i)), (xLay, I, L, kM R))) : sm_wp sm_P S d 171 0 [.ref 107, .int x] [] (xLay, I, L, kM R) (0, 0) Φ := by
  have nl := tk_nat hl
  have c10 : (10 : Int32).toInt = 10 := by decide
  refine p_X12_openAt_0 ⟨fun e => ?_, fun e => ⟨kl_in (by omega) (by omega), ?_⟩⟩
  · rw [e] at hx
    have : oA I l i = -1 := if_pos (Or.inl (by rw [kl_0] at hx; omega))
    rw [this] at h; exact h
  · rw [nl]
    have i0 : i ≠ 0 := fun q => e (en_ofI (by rw [hx, q]; decide))
    refine ⟨fun a n1 e1 => ?_, fun a => ?_⟩
    · have a := kl_le.mp a
      have m : ((10 : Int32) * I 107 18).toInt = 10 * (l : Int) := ml_mu c10 hl (by omega) (by omega)
      have s : ((10 : Int32) * I 107 18 + x).toInt = 10 * (l : Int) + i := ml_ad m hx (by omega) (by omega)
      have s1 : n1.toInt = ((10 * l + i - 1 : Nat) : Int) := by
        rw [e1, Int32.toInt_sub, kl_1, s]
        exact en_bmod (by omega) (by omega) (Or.inl (by omega))
      refine ⟨kl_in (by omega) (by omega), ?_⟩
      rw [tk_nat s1]
      have : oA I l i = I 135 (10 * l + i - 1) := if_neg (by omega)
      rw [this] at h; exact h
    · have a := kl_nle a
      have : oA I l i = -1 := if_pos (Or.inr (by omega))
      rw [this] at h; exact h
theorem rx_atMost {pg n i j l : Nat} {x1 x2 w : Int32} {C : List tC} (B : rB0 I pg n l) (hj : x1.toInt = j) (hi : x2.toInt = i) (jn : j < n) (in_ : i < n) (w0 : -110000 ≤ w.toInt) (w1 : w.toInt ≤ 110000) (T : ttop n C (mT I pg)) (h : ∀ r J, rR pg n (rhd I l (i, j, w.toInt) :: C) I r J → Φ (some (.int r), (xLay, J, L, kM R))) : sm_wp sm_P S (d + 1) 98 0 [.ref 107, .int x1, .int x2, .int w] [] (xLay, I, L, kM R) (0, 0) Φ := by
  obtain ⟨b1, b2, b3, b4, b5, b6, b7, b8⟩ := B
  refine p_X12_atMost_0 ⟨fun e => ?_, fun e => ⟨fun e2 => ?_, fun e2 => ?_⟩⟩
  · have er : rhd I l (i, j, w.toInt) = (i, j, w.toInt) := if_pos (Or.inl e)
    rw [er] at h
    exact rx_bound b1 b2 b3 (by omega) hj hi jn in_ (by omega) (by omega) T (fun q => ⟨_, I, L, rfl, Or.inl rfl, h 0 I ⟨chg_0, Or.inl ⟨rfl, q⟩⟩⟩) (fun J cg q => ⟨_, J, L, rfl, Or.inr rfl, h 1 J ⟨cg, Or.inr ⟨rfl, q⟩⟩⟩)
  · have eij : i = j := by rw [e2] at hj; omega
    have er : rhd I l (i, j, w.toInt) = (i, j, w.toInt) := if_pos (Or.inr eij)
    rw [er] at h
    exact rx_bound b1 b2 b3 (by omega) hj hi jn in_ (by omega) (by omega) T (fun q => ⟨_, I, L, rfl, Or.inl rfl, h 0 I ⟨chg_0, Or.inl ⟨rfl, q⟩⟩⟩) (fun J cg q => ⟨_, J, L, rfl, Or.inr rfl, h 1 J ⟨cg, Or.inr ⟨rfl, q⟩⟩⟩)
  · have nij : i ≠ j := fun q => e2 (en_ofI (by rw [hj, hi, q]))
    have er : rhd I l (i, j, w.toInt) = (su I l i, su I l j, w.toInt - fa I l i + na I l j) := if_neg (by rintro (q | q); exact e q; exact nij q)
    rw [er] at h
    have H := b8.resolve_left e
    obtain ⟨i1, i2, -, i4⟩ := H i in_
    obtain ⟨j1, -, j3, j4⟩ := H j jn
    have fin : ∀ s1 s2 n6 : Int32, s1.toInt = su I l j → s2.toInt = su I l i → n6.toInt = w.toInt - fa I l i + na I l j → sm_wp sm_P S (d + 1) 98 15 [.int n6] [.int s2, .int s1, .ref 107] (xLay, I, L, kM R) (0, 0) Φ := fun s1 s2 n6 e1 e2 e3 => by
      refine p_X12_atMost_15 (rx_bound b1 b2 b3 (by omega) e1 e2 j1 i1 (by omega) (by omega) T (fun q => ⟨_, I, L, rfl, Or.inl rfl, h 0 I ⟨chg_0, Or.inl ⟨rfl, ?_⟩⟩⟩) (fun J cg q => ⟨_, J, L, rfl, Or.inr rfl, h 1 J ⟨cg, Or.inr ⟨rfl, ?_⟩⟩⟩))
      · rw [e3] at q; exact q
      · rw [e3] at q; exact q
    have f12 : ∀ s1 n6 : Int32, s1.toInt = su I l j → n6.toInt = w.toInt - fa I l i + na I l j → sm_wp sm_P S (d + 1) 98 12 [.ref 107, .int x2, .int (oA I l i), .int n6] [.int s1, .ref 107] (xLay, I, L, kM R) (0, 0) Φ := fun s1 n6 e1 e3 => by
      refine p_X12_atMost_12 ⟨fun q => fin s1 x2 n6 e1 ?_ e3, fun q => ?_⟩
      · have : su I l i = i := if_pos q
        rw [this]; exact hi
      · have k := i4.resolve_left q
        have b9 : (I 131 (oA I l i).toNatClampNeg).toInt < 100 := by
          have : su I l i = (I 131 (oA I l i).toNatClampNeg).toNatClampNeg + 1 := if_neg q
          have := kl_nat k.2
          omega
        refine ⟨kl_in k.1.1 k.1.2, fin s1 _ n6 e1 ?_ e3⟩
        have : su I l i = (I 131 (oA I l i).toNatClampNeg).toNatClampNeg + 1 := if_neg q
        have n := kl_nat k.2
        rw [this, ml_in1 (by omega)]
        omega
    have z : (0 : Int32).toInt = 0 := kl_0
    refine rx_openAt hj b5 b6 b7 ⟨_, I, L, rfl, rx_openAt hi b5 b6 b7 ⟨_, I, L, rfl, fun q => ⟨fun p => ?_, fun p => ?_⟩, fun q => ?_⟩⟩
    · -- neither
      have sj : su I l j = j := if_pos q
      have fi : fa I l i = 0 := if_pos p
      have nj : na I l j = 0 := if_pos q
      refine fun n18 e18 => ⟨fun _ => f12 x1 n18 (by rw [sj]; exact hj) ?_, fun q' => absurd q q'⟩
      rw [e18, Int32.toInt_sub, ml_ad rfl z (by omega) (by omega), z, fi, nj]
      exact en_bmod (by omega) (by omega) (Or.inl (by omega))
    · have sj : su I l j = j := if_pos q
      have fi : fa I l i = (I 133 (oA I l i).toNatClampNeg).toInt := if_neg p
      have nj : na I l j = 0 := if_pos q
      have k := i4.resolve_left p
      refine ⟨kl_in k.1.1 k.1.2, fun n16 e16 => ⟨fun _ => f12 x1 n16 (by rw [sj]; exact hj) ?_, fun q' => absurd q q'⟩⟩
      rw [e16, Int32.toInt_sub, ml_ad rfl z (by omega) (by omega), ← fi, nj]
      exact en_bmod (by omega) (by omega) (Or.inl (by omega))
    · have k := j4.resolve_left q
      have sj : su I l j = (I 131 (oA I l j).toNatClampNeg).toNatClampNeg + 1 := if_neg q
      have nj : na I l j = (I 132 (oA I l j).toNatClampNeg).toInt := if_neg q
      have nk := kl_nat k.2
      have vj : vp_in (oA I l j) 260 := kl_in k.1.1 k.1.2
      have s131 : (I 131 (oA I l j).toNatClampNeg + 1).toInt = su I l j := by rw [sj, ml_in1 (by omega)]; omega
      refine ⟨vj, fun p => ?_, fun p => ?_⟩
      · have fi : fa I l i = 0 := if_pos p
        refine fun n13 e13 => ⟨fun q' => absurd q' q, fun _ => ⟨vj, f12 _ n13 s131 ?_⟩⟩
        rw [e13, Int32.toInt_sub, ml_ad rfl nj.symm (by omega) (by omega), z, fi]
        exact en_bmod (by omega) (by omega) (Or.inl (by omega))
      · have fi : fa I l i = (I 133 (oA I l i).toNatClampNeg).toInt := if_neg p
        have ki := i4.resolve_left p
        refine ⟨kl_in ki.1.1 ki.1.2, fun n11 e11 => ⟨fun q' => absurd q' q, fun _ => ⟨vj, f12 _ n11 s131 ?_⟩⟩⟩
        rw [e11, Int32.toInt_sub, ml_ad rfl nj.symm (by omega) (by omega), ← fi]
        exact en_bmod (by omega) (by omega) (Or.inl (by omega))
/-- both ways -/
def bC (f : tC → tC) (x y : Nat) (a b : Int) : List tC := [f (y, x, -a), f (x, y, b)]
theorem rx_between {pg n i j l : Nat} {x1 x2 a b : Int32} {C : List tC} (B : rB0 I pg n l) (hi : x1.toInt = i) (hj : x2.toInt = j) (in_ : i < n) (jn : j < n) (a0 : -80000 ≤ a.toInt) (a1 : a.toInt ≤ 80000) (b0 : -80000 ≤ b.toInt) (b1 : b.toInt ≤ 80000) (T : ttop n C (mT I pg)) (h : ∀ r J, rR pg n (bC (rhd I l) i j a.toInt b.toInt ++ C) I r J → Φ (some (.int r), (xLay, J, L, kM R))) : sm_wp sm_P S (d + 2) 104 0 [.ref 107, .int x1, .int x2, .int a, .int b] [] (xLay, I, L, kM R) (0, 0) Φ := by
  have na : (-a).toInt = -a.toInt := by rw [Int32.toInt_neg]; exact en_bmod (by omega) (by omega) (Or.inl rfl)
  refine p_X12_between_0 (rx_atMost B hj hi jn in_ (by omega) (by omega) T (fun r J q => ⟨r, J, L, rfl, ?_, ?_⟩))
  · intro r0
    obtain ⟨cg, ⟨-, q⟩ | ⟨r1, -⟩⟩ := q
    · exact h 0 J ⟨cg, Or.inl ⟨rfl, tno_cg (fun c hc => List.mem_cons_of_mem _ hc) q⟩⟩
    · rw [r0] at r1; exact absurd r1 (by decide)
  · intro r0
    obtain ⟨cg, ⟨r1, -⟩ | ⟨-, q⟩⟩ := q
    · exact absurd r1 r0
    · refine rx_atMost (rB0_cg cg B) hi hj in_ jn (by omega) (by omega) q (fun r2 J2 q2 => ⟨r2, J2, L, rfl, ?_, ?_⟩)
      · intro r0
        rw [na, rhd_cg cg] at q2
        obtain ⟨cg2, ⟨-, q2⟩ | ⟨r1, -⟩⟩ := q2
        · exact h 0 J2 ⟨chg_t cg cg2, Or.inl ⟨rfl, q2⟩⟩
        · rw [r0] at r1; exact absurd r1 (by decide)
      · intro r0
        rw [na, rhd_cg cg] at q2
        obtain ⟨cg2, ⟨r1, -⟩ | ⟨-, q2⟩⟩ := q2
        · exact absurd r1 r0
        · exact h 1 J2 ⟨chg_t cg cg2, Or.inr ⟨rfl, q2⟩⟩
def nd (x : Int32) : Nat := (x.toInt + 1).toNat
def spC (I : sm_I) (f : tC → tC) (p : Nat) (g : Int) : List tC := bC f (nd (I 130 p)) (nd (I 131 p)) ((I 132 p).toInt - g) ((I 133 p).toInt + g)
/-- a span that can be laid on the table -/
def sspk (I : sm_I) (n p : Nat) : Prop := p < 260 ∧ (0 ≤ (I 130 p).toInt ∧ (I 130 p).toInt + 1 < n) ∧ (-1 ≤ (I 131 p).toInt ∧ (I 131 p).toInt + 1 < n) ∧ (-1440 ≤ (I 132 p).toInt ∧ (I 132 p).toInt ≤ 1440) ∧ (-1440 ≤ (I 133 p).toInt ∧ (I 133 p).toInt ≤ 1440)
theorem sspk_cg {pg n p : Nat} {I J : sm_I} (h : chg pg I J) (k : sspk I n p) : sspk J n p := by
  unfold sspk at k ⊢
  rw [h 130 p (by omega), h 131 p (by omega), h 132 p (by omega), h 133 p (by omega)]; exact k
theorem spC_cg {pg : Nat} {I J : sm_I} (h : chg pg I J) (f : tC → tC) (p : Nat) (g : Int) : spC J f p g = spC I f p g := by
  unfold spC
  rw [h 130 p (by omega), h 131 p (by omega), h 132 p (by omega), h 133 p (by omega)]
theorem rx_holds {pg n l p : Nat} {x g : Int32} {C : List tC} (B : rB0 I pg n l) (hx : x.toInt = p) (k : sspk I n p) (g0 : 0 ≤ g.toInt) (g1 : g.toInt ≤ 5000) (T : ttop n C (mT I pg)) (h : ∀ r J, rR pg n (spC I (rhd I l) p g.toInt ++ C) I r J → Φ (some (.int r), (xLay, J, L, kM R))) : sm_wp sm_P S (d + 3) 139 0 [.ref 107, .int x, .int g] [] (xLay, I, L, kM R) (0, 0) Φ := by
  obtain ⟨k1, k2, k3, k4, k5⟩ := k
  have n12 := B.2.2.2.1
  have px := tk_nat hx
  have v : vp_in x 260 := kl_in (by omega) (by omega)
  refine p_X12_holdsSpan_0 ⟨v, v, v, v, ?_⟩
  rw [px]
  intro n1 e1 n2 e2 n3 e3 n4 e4
  have s1 : n1.toInt = ((nd (I 130 p) : Nat) : Int) := by rw [e1, ml_in1 (by omega)]; unfold nd; omega
  have s2 : n2.toInt = ((nd (I 131 p) : Nat) : Int) := by rw [e2, ml_in1 (by omega)]; unfold nd; omega
  have s3 : n3.toInt = (I 132 p).toInt - g.toInt := by rw [e3, Int32.toInt_sub]; exact en_bmod (by omega) (by omega) (Or.inl rfl)
  have s4 : n4.toInt = (I 133 p).toInt + g.toInt := by rw [e4]; exact ml_ad rfl rfl (by omega) (by omega)
  refine rx_between B s1 s2 (by unfold nd; omega) (by unfold nd; omega) (by omega) (by omega) (by omega) (by omega) T (fun r J q => ⟨r, J, L, rfl, ?_, h r J ?_⟩)
  · rcases q.2 with ⟨e, -⟩ | ⟨e, -⟩
    · exact Or.inl e
    · exact Or.inr e
  · rw [s3, s4] at q; exact q
/-- the spans of one choice -/
def spL (I : sm_I) (f : tC → tC) (g : Int) (p : Nat) : Nat → List tC
  | 0 => []
  | m + 1 => spC I f (p + m) g ++ spL I f g p m
theorem spL_le {I : sm_I} {f : tC → tC} {g : Int} {p : Nat} {c : tC} : ∀ m m', m ≤ m' → c ∈ spL I f g p m → c ∈ spL I f g p m' := by
  intro m m' h hc
  obtain ⟨k, rfl⟩ : ∃ k, m' = m + k := ⟨m' - m, by omega⟩
  clear h
  induction k with
  | zero => exact hc
  | succ k ih => exact List.mem_append.mpr (Or.inr ih)
theorem rx_ch5 {I0 : sm_I} {pg n l q N : Nat} {x3 x4 : Int32} {C : List tC} (B : rB0 I0 pg n l) (h3 : x3.toInt = q) (q80 : q < 80) (hN : (I0 129 q).toInt = N) (N3 : N ≤ 3) (g0 : 0 ≤ x4.toInt) (g1 : x4.toInt ≤ 5000) (ok : ∀ i, i < N → sspk I0 n (3 * q + i)) (h : ∀ r J, rR pg n (spL I0 (rhd I0 l) x4.toInt (3 * q) N ++ C) I0 r J → Φ (some (.int r), (xLay, J, L, kM R))) : ∀ (m i : Nat) (x5 : Int32) (J : sm_I), x5.toInt = ((3 * q + i : Nat) : Int) → i + m = N → chg pg I0 J → ttop n (spL I0 (rhd I0 l) x4.toInt (3 * q) i ++ C) (mT J pg) → sm_wp sm_P S (d + 4) 115 5 [.ref 107, .int x3, .int x4, .int x5] [] (xLay, J, L, kM R) (0, 0) Φ := by
  have c3 : (3 : Int32).toInt = 3 := by decide
  have px := tk_nat h3
  have m3 : ((3 : Int32) * x3).toInt = 3 * (q : Int) := ml_mu c3 h3 (by omega) (by omega)
  intro m
  induction m with
  | zero =>
    intro i x5 J h5 hm cg T
    have e : i = N := by omega
    subst e
    have e129 : J 129 q = I0 129 q := cg 129 q (by omega)
    refine p_X12_chooses_5 ⟨kl_in (by omega) (by omega), ?_⟩
    rw [px, e129]
    refine ⟨fun _ => h 1 J ⟨cg, Or.inr ⟨rfl, T⟩⟩, fun a => ?_⟩
    have a := kl_nle a
    rw [ml_ad m3 hN (by omega) (by omega)] at a
    omega
  | succ m ih =>
    intro i x5 J h5 hm cg T
    have s5 := ml_in1 (x := x5) (by omega)
    have e129 : J 129 q = I0 129 q := cg 129 q (by omega)
    refine p_X12_chooses_5 ⟨kl_in (by omega) (by omega), ?_⟩
    rw [px, e129]
    refine ⟨fun a => ?_, fun _ => ?_⟩
    · have a := kl_le.mp a
      rw [ml_ad m3 hN (by omega) (by omega)] at a
      omega
    refine rx_holds (rB0_cg cg B) h5 (sspk_cg cg (ok i (by omega))) g0 g1 T (fun r J2 z => ⟨r, J2, L, rfl, ?_, ?_⟩)
    · intro r0
      obtain ⟨cg2, ⟨-, z⟩ | ⟨r1, -⟩⟩ := z
      · refine h 0 J2 ⟨chg_t cg cg2, Or.inl ⟨rfl, tno_cg (fun c hc => ?_) z⟩⟩
        rw [rhd_cg cg, spC_cg cg, ← List.append_assoc] at hc
        rcases List.mem_append.mp hc with hc | hc
        · exact List.mem_append.mpr (Or.inl (spL_le (i + 1) N (by omega) hc))
        · exact List.mem_append.mpr (Or.inr hc)
      · rw [r0] at r1; exact absurd r1 (by decide)
    · intro r0
      obtain ⟨cg2, ⟨r1, -⟩ | ⟨-, z⟩⟩ := z
      · exact absurd r1 r0
      · refine ih (i + 1) _ J2 (by omega) (by omega) (chg_t cg cg2) ?_
        rw [rhd_cg cg, spC_cg cg, ← List.append_assoc] at z
        exact z
end
end
section
/-! the reference: a choice, the list of ITEMS, the beginning -/
section
variable {S : sm_C} {d : Nat} {Φ : sm_Z → Prop} {I : sm_I} {L : sm_L} {R : sm_R}
def gv (I : sm_I) (s : Nat) : Int := if ((I 107 68) >>> (Int32.ofNat s &&& 31)) &&& (1 : Int32) = (1 : Int32) then (I 107 69).toInt else 0
theorem rx_chS {pg n l s c N : Nat} {x1 x2 : Int32} {C : List tC} (B : rB0 I pg n l) (hs : x1.toInt = s) (s10 : s < 10) (hc : x2.toInt = c) (c4 : c < 4) (hN : (I 129 (4 * (10 * l + s) + c)).toInt = N) (N3 : N ≤ 3) (g0 : 0 ≤ (I 107 69).toInt) (g1 : (I 107 69).toInt ≤ 5000) (ok : ∀ i, i < N → sspk I n (3 * (4 * (10 * l + s) + c) + i)) (T : ttop n C (mT I pg)) (h : ∀ r J, rR pg n (spL I (rhd I l) (gv I s) (3 * (4 * (10 * l + s) + c)) N ++ C) I r J → Φ (some (.int r), (xLay, J, L, kM R))) : sm_wp sm_P S (d + 4) 115 0 [.ref 107, .int x1, .int x2] [] (xLay, I, L, kM R) (0, 0) Φ := by
  have hl := B.2.2.2.2.1
  have l1 := B.2.2.2.2.2.1
  have c10 : (10 : Int32).toInt = 10 := by decide
  have c4' : (4 : Int32).toInt = 4 := by decide
  have c3 : (3 : Int32).toInt = 3 := by decide
  have ex : x1 = Int32.ofNat s := en_ofI (by rw [hs, Int32.toInt_ofNat_of_lt (by omega)])
  have m1 : ((10 : Int32) * I 107 18).toInt = 10 * (l : Int) := ml_mu c10 hl (by omega) (by omega)
  have m2 : ((10 : Int32) * I 107 18 + x1).toInt = ((10 * l + s : Nat) : Int) := (ml_ad m1 hs (by omega) (by omega)).trans (by omega)
  have m3 : ((4 : Int32) * ((10 : Int32) * I 107 18 + x1)).toInt = 4 * ((10 * l + s : Nat) : Int) := ml_mu c4' m2 (by omega) (by omega)
  refine p_X12_chooses_0 ⟨fun a => ?_, fun _ n14 e14 => ?_⟩
  · have a := kl_le.mp a
    omega
  have s14 : n14.toInt = ((4 * (10 * l + s) + c : Nat) : Int) := by rw [e14]; exact (ml_ad m3 hc (by omega) (by omega)).trans (by omega)
  have s3 : ((3 : Int32) * n14).toInt = ((3 * (4 * (10 * l + s) + c) + 0 : Nat) : Int) := (ml_mu c3 s14 (by omega) (by omega)).trans (by omega)
  rw [ex]
  unfold gv at h
  refine ⟨fun e => ?_, fun e => ?_⟩
  · rw [if_pos e] at h
    exact rx_ch5 B s14 (by omega) hN N3 g0 g1 ok h N 0 _ I s3 (Nat.zero_add _) chg_0 T
  · rw [if_neg e] at h
    exact rx_ch5 (x4 := 0) B s14 (by omega) hN N3 (by decide) (by decide) ok (by rw [kl_0]; exact h) N 0 _ I s3 (Nat.zero_add _) chg_0 T
def mvC (f : tC → tC) (le gr : Nat) (w : Int) (c : Nat) : List tC := [if c = 0 then f (le, gr, -w) else f (gr, le, -w)]
theorem rx_ch19 {pg n l c le gr : Nat} {x2 x3 x4 s0 : Int32} {C : List tC} (B : rB0 I pg n l) (hc : x2.toInt = c) (w0 : -105000 ≤ x3.toInt) (w1 : x3.toInt ≤ 105000) (h4 : x4.toInt = le) (h0 : s0.toInt = gr) (ln : le < n) (gn : gr < n) (T : ttop n C (mT I pg)) (h : ∀ r J, rR pg n (mvC (rhd I l) le gr x3.toInt c ++ C) I r J → Φ (some (.int r), (xLay, J, L, kM R))) : sm_wp sm_P S (d + 2) 115 19 [.ref 107, .int x2, .int x3, .int x4] [.int s0] (xLay, I, L, kM R) (0, 0) Φ := by
  have nw : (-x3).toInt = -x3.toInt := by rw [Int32.toInt_neg]; exact en_bmod (by omega) (by omega) (Or.inl rfl)
  refine p_X12_chooses_19 ⟨fun e => ?_, fun e => ?_⟩
  · have c0 : c = 0 := by rw [e, kl_0] at hc; omega
    unfold mvC at h
    rw [if_pos c0] at h
    refine rx_atMost B h0 h4 gn ln (by omega) (by omega) T (fun r J q => ⟨r, J, L, rfl, p_X12_chooses_22 ⟨?_, h r J ?_⟩⟩)
    · rcases q.2 with ⟨e, -⟩ | ⟨e, -⟩
      · exact Or.inl e
      · exact Or.inr e
    · rw [nw] at q; exact q
  · have c0 : c ≠ 0 := fun q => e (en_ofI (by rw [hc, q]; decide))
    unfold mvC at h
    rw [if_neg c0] at h
    refine rx_atMost B h4 h0 ln gn (by omega) (by omega) T (fun r J q => ⟨r, J, L, rfl, p_X12_chooses_22 ⟨?_, h r J ?_⟩⟩)
    · rcases q.2 with ⟨e, -⟩ | ⟨e, -⟩
      · exact Or.inl e
      · exact Or.inr e
    · rw [nw] at q; exact q
theorem rx_chM {pg n l m c : Nat} {x1 x2 : Int32} {C : List tC} (B : rB0 I pg n l) (hm : x1.toInt = ((10 + m : Nat) : Int)) (m45 : m < 45) (hc : x2.toInt = c) (a0 : 0 ≤ (I 140 m).toInt) (an : (I 140 m).toInt + 1 < n) (b0 : 0 ≤ (I 141 m).toInt) (bn : (I 141 m).toInt + 1 < n) (w0 : -105000 ≤ (I 142 m).toInt) (w1 : (I 142 m).toInt ≤ 105000) (T : ttop n C (mT I pg)) (h : ∀ r J, rR pg n (mvC (rhd I l) (nd (I 140 m)) (nd (I 141 m)) (I 142 m).toInt c ++ C) I r J → Φ (some (.int r), (xLay, J, L, kM R))) : sm_wp sm_P S (d + 2) 115 0 [.ref 107, .int x1, .int x2] [] (xLay, I, L, kM R) (0, 0) Φ := by
  have c10 : (10 : Int32).toInt = 10 := by decide
  have c60 : (60 : Int32).toInt = 60 := by decide
  have n12 := B.2.2.2.1
  have s1 : (x1 - 10).toInt = (m : Int) := by
    rw [Int32.toInt_sub, c10]
    exact en_bmod (by omega) (by omega) (Or.inl (by omega))
  have p1 := tk_nat s1
  have v : vp_in (x1 - 10) 45 := kl_in (by omega) (by omega)
  have n60 : ¬ (60 : Int32) ≤ x1 := fun q => by have := kl_le.mp q; omega
  refine p_X12_chooses_0 ⟨fun _ => ⟨fun a => absurd a n60, fun _ => ⟨v, ?_⟩⟩, fun a => ?_⟩
  · rw [p1]
    refine fun n7 e7 => ⟨fun a => absurd a n60, fun _ => ⟨v, fun n10 e10 => ⟨fun a => absurd a n60, fun _ => ⟨v, ?_⟩⟩⟩⟩
    rw [e7]
    exact rx_ch19 (d := d) B hc w0 w1 (by rw [e10, ml_in1 (by omega)]; unfold nd; omega) (by rw [ml_in1 (by omega)]; unfold nd; omega) (by unfold nd; omega) (by unfold nd; omega) T h
  · have a := kl_nle a
    omega
/-- the list of ITEMS -/
def isb (set : Int32) (k : Nat) : Bool := !decide (((set >>> (Int32.ofNat k &&& 31)) &&& (1 : Int32)) = 0)
def sL (set : Int32) : Nat → List Nat
  | 0 => []
  | k + 1 => sL set k ++ (if isb set k = true then [k] else [])
def mL (b : Nat) : Nat → List Nat
  | 0 => []
  | k + 1 => mL b k ++ [b + k]
theorem sL_len (set : Int32) : ∀ k, (sL set k).length ≤ k := by
  intro k
  induction k with
  | zero => exact Nat.le_refl _
  | succ k ih =>
    show (sL set k ++ (if isb set k = true then [k] else [])).length ≤ k + 1
    rw [List.length_append]
    split
    · show (sL set k).length + 1 ≤ k + 1
      omega
    · show (sL set k).length + 0 ≤ k + 1
      omega
theorem mL_len (b : Nat) : ∀ k, (mL b k).length = k := by
  intro k
  induction k with
  | zero => rfl
  | succ k ih =>
    show (mL b k ++ [b + k]).length = k + 1
    rw [List.length_append, ih]; rfl
def lM (I : sm_I) (xs : List Nat) : Prop := (I 107 59).toInt = xs.length ∧ ∀ k, k < xs.length → I 148 k = Int32.ofNat (xs.getD k 0)
theorem nG_l {xs ys : List Nat} {k : Nat} (h : k < xs.length) : (xs ++ ys).getD k 0 = xs.getD k 0 := by
  rw [List.getD_eq_getElem?_getD, List.getD_eq_getElem?_getD, List.getElem?_append_left h]
theorem nG_n {xs : List Nat} {a : Nat} : (xs ++ [a]).getD xs.length 0 = a := by
  rw [List.getD_eq_getElem?_getD, List.getElem?_append_right (Nat.le_refl _)]
  simp
def chl (I J : sm_I) : Prop := ∀ p j, p ≠ 148 → ¬ (p = 107 ∧ j = 59) → J p j = I p j
theorem lM_add {I I1 I2 : sm_I} {xs : List Nat} {a : Nat} {v : Int32} (h : lM I xs) (h70 : xs.length < 70) (hv : v = Int32.ofNat a) (e1 : I1 = sm_up I 148 (I 107 59).toNatClampNeg v) (e2 : I2 = sm_up I1 107 59 (I1 107 59 + 1)) : lM I2 (xs ++ [a]) ∧ chl I I2 := by
  obtain ⟨h1, h2⟩ := h
  have p := tk_nat h1
  have e59 : I1 107 59 = I 107 59 := by rw [e1, en_up_ne _ _ _ _ (by omega)]
  have s := ml_in1 (x := I 107 59) (by omega)
  refine ⟨⟨?_, fun k hk => ?_⟩, fun p j a b => by rw [e2, en_up_ne _ _ _ _ b, e1, en_up_ne _ _ _ _ (by omega)]⟩
  · rw [e2, en_up_eq, e59, s, h1, List.length_append]; rfl
  · rw [List.length_append] at hk
    have hk : k < xs.length + 1 := hk
    rw [e2, en_up_ne _ _ _ _ (by omega), e1, p]
    by_cases c : k = xs.length
    · rw [c, en_up_eq, nG_n, hv]
    · rw [en_up_ne _ _ _ _ (by omega), nG_l (by omega)]
      exact h2 k (by omega)
def itL (set : Int32) (s m e : Nat) : List Nat := sL set s ++ mL 10 m ++ mL 60 e
theorem rx_lists {set : Int32} {l s m e : Nat} (hl : (I 107 18).toInt = l) (l1 : l ≤ 1) (hs : (I 125 l).toInt = s) (s10 : s ≤ 10) (hm : (I 107 46).toInt = m) (m45 : m ≤ 45) (he : (I 107 67).toInt = e) (e10 : e ≤ 10) (h : ∀ J, chl I J → lM J (itL set s m e) → Φ (none, (xLay, J, L, kM R))) : sm_wp sm_P S d 160 0 [.ref 107, .int set] [] (xLay, I, L, kM R) (0, 0) Φ := by
  have c10 : (10 : Int32).toInt = 10 := by decide
  have c60 : (60 : Int32).toInt = 60 := by decide
  -- extras
  have ex : ∀ (k i : Nat) (x : Int32) (J : sm_I), x.toInt = i → i + k = e → chl I J → lM J (sL set s ++ mL 10 m ++ mL 60 i) → sm_wp sm_P S d 160 10 [.ref 107, .int x] [] (xLay, J, L, kM R) (0, 0) Φ := by
    intro k
    induction k with
    | zero =>
      intro i x J hx hk cg hL
      have e67 : J 107 67 = I 107 67 := cg 107 67 (by decide) (by decide)
      refine p_X12_lists_10 ⟨fun _ => h J cg (by have : i = e := by omega
                                                 rw [← this]; exact hL), fun a => ?_⟩
      have a := kl_nle a
      rw [e67] at a
      omega
    | succ k ih =>
      intro i x J hx hk cg hL
      have e67 : J 107 67 = I 107 67 := cg 107 67 (by decide) (by decide)
      have s1 := ml_in1 (x := x) (by omega)
      have len : (sL set s ++ mL 10 m ++ mL 60 i).length ≤ 10 + 45 + i := by
        rw [List.length_append, List.length_append, mL_len, mL_len]
        have := sL_len set s
        omega
      refine p_X12_lists_10 ⟨fun a => ?_, fun _ => ⟨kl_in (by rw [hL.1]; omega) (by rw [hL.1]; omega), fun I1 e1 I2 e2 => ?_⟩⟩
      · have a := kl_le.mp a
        rw [e67] at a
        omega
      have v : (60 : Int32) + x = Int32.ofNat (60 + i) := en_ofI (by rw [ml_ad c60 hx (by omega) (by omega), Int32.toInt_ofNat_of_lt (by omega)]; omega)
      obtain ⟨g1, g2⟩ := lM_add hL (by omega) v e1 e2
      refine ih (i + 1) _ I2 (by omega) (by omega) (fun p j a b => (g2 p j a b).trans (cg p j a b)) ?_
      rw [List.append_assoc] at g1
      exact g1
  -- moves
  have mv : ∀ (k i : Nat) (x : Int32) (J : sm_I), x.toInt = i → i + k = m → chl I J → lM J (sL set s ++ mL 10 i) → sm_wp sm_P S d 160 7 [.ref 107, .int x] [] (xLay, J, L, kM R) (0, 0) Φ := by
    intro k
    induction k with
    | zero =>
      intro i x J hx hk cg hL
      have e46 : J 107 46 = I 107 46 := cg 107 46 (by decide) (by decide)
      refine p_X12_lists_7 ⟨fun _ => ex e 0 0 J (by decide) (by omega) cg ?_, fun a => ?_⟩
      · have : i = m := by omega
        rw [← this]
        show lM J (sL set s ++ mL 10 i ++ [])
        rw [List.append_nil]; exact hL
      · have a := kl_nle a
        rw [e46] at a
        omega
    | succ k ih =>
      intro i x J hx hk cg hL
      have e46 : J 107 46 = I 107 46 := cg 107 46 (by decide) (by decide)
      have s1 := ml_in1 (x := x) (by omega)
      have len : (sL set s ++ mL 10 i).length ≤ 10 + i := by
        rw [List.length_append, mL_len]
        have := sL_len set s
        omega
      refine p_X12_lists_7 ⟨fun a => ?_, fun _ => ⟨kl_in (by rw [hL.1]; omega) (by rw [hL.1]; omega), fun I1 e1 I2 e2 => ?_⟩⟩
      · have a := kl_le.mp a
        rw [e46] at a
        omega
      have v : (10 : Int32) + x = Int32.ofNat (10 + i) := en_ofI (by rw [ml_ad c10 hx (by omega) (by omega), Int32.toInt_ofNat_of_lt (by omega)]; omega)
      obtain ⟨g1, g2⟩ := lM_add hL (by omega) v e1 e2
      refine ih (i + 1) _ I2 (by omega) (by omega) (fun p j a b => (g2 p j a b).trans (cg p j a b)) ?_
      rw [List.append_assoc] at g1
      exact g1
  -- sayings
  have nl := tk_nat hl
  have sy : ∀ (k i : Nat) (x : Int32) (J : sm_I), x.toInt = i → i + k = s → chl I J → lM J (sL set i) → sm_wp sm_P S d 160 1 [.ref 107, .int set, .int x] [] (xLay, J, L, kM R) (0, 0) Φ := by
    intro k
    induction k with
    | zero =>
      intro i x J hx hk cg hL
      have e18 : J 107 18 = I 107 18 := cg 107 18 (by decide) (by decide)
      have e125 : J 125 l = I 125 l := cg 125 l (by decide) (by omega)
      refine p_X12_lists_1 ⟨kl_in (by rw [e18]; omega) (by rw [e18]; omega), ?_⟩
      rw [e18, nl, e125]
      refine ⟨fun _ => mv m 0 0 J (by decide) (by omega) cg ?_, fun a => ?_⟩
      · have : i = s := by omega
        rw [← this]
        show lM J (sL set i ++ [])
        rw [List.append_nil]; exact hL
      · have a := kl_nle a
        omega
    | succ k ih =>
      intro i x J hx hk cg hL
      have e18 : J 107 18 = I 107 18 := cg 107 18 (by decide) (by decide)
      have e125 : J 125 l = I 125 l := cg 125 l (by decide) (by omega)
      have s1 := ml_in1 (x := x) (by omega)
      have ex : x = Int32.ofNat i := en_ofI (by rw [hx, Int32.toInt_ofNat_of_lt (by omega)])
      have len := sL_len set i
      refine p_X12_lists_1 ⟨kl_in (by rw [e18]; omega) (by rw [e18]; omega), ?_⟩
      rw [e18, nl, e125]
      refine ⟨fun a => ?_, fun _ => ⟨fun q => ?_, fun q => ⟨kl_in (by rw [hL.1]; omega) (by rw [hL.1]; omega), fun I1 e1 I2 e2 => ?_⟩⟩⟩
      · have a := kl_le.mp a
        omega
      · refine ih (i + 1) _ J (by omega) (by omega) cg ?_
        show lM J (sL set i ++ (if isb set i = true then [i] else []))
        rw [if_neg (by unfold isb; rw [← ex, decide_eq_true q]; decide), List.append_nil]
        exact hL
      · obtain ⟨g1, g2⟩ := lM_add hL (by omega) ex e1 e2
        refine ih (i + 1) _ I2 (by omega) (by omega) (fun p j a b => (g2 p j a b).trans (cg p j a b)) ?_
        show lM I2 (sL set i ++ (if isb set i = true then [i] else []))
        rw [if_pos (by unfold isb; rw [← ex, decide_eq_false q]; rfl)]
        exact g1
  refine p_X12_lists_0 (sy s 0 0 _ (by decide) (by omega) (fun p j _ b => en_up_ne _ _ _ _ b) ⟨?_, fun k hk => absurd hk (Nat.not_lt_zero k)⟩)
  rw [en_up_eq]; rfl
/-- the SAYINGS that are not DOUBTED, as bits -/
theorem rx_undoubted {l s : Nat} (hl : (I 107 18).toInt = l) (l1 : l ≤ 1) (hs : (I 125 l).toInt = s) (s10 : s ≤ 10) (h : Φ (some (.int (sb (fun k => if I 137 k = 0 then 1 else 0) s)), (xLay, I, L, kM R))) : sm_wp sm_P S d 208 0 [.ref 107] [] (xLay, I, L, kM R) (0, 0) Φ := by
  have nl := tk_nat hl
  have v : vp_in (I 107 18) 2 := kl_in (by omega) (by omega)
  have lp : ∀ (k i : Nat) (x1 x2 : Int32), x2.toInt = i → i + k = s → x1 = sb (fun k => if I 137 k = 0 then 1 else 0) i → sm_wp sm_P S d 208 1 [.ref 107, .int x1, .int x2] [] (xLay, I, L, kM R) (0, 0) Φ := by
    intro k
    induction k with
    | zero =>
      intro i x1 x2 hx hk e
      refine p_X12_undoubted_1 ⟨v, ?_⟩
      rw [nl]
      refine ⟨fun _ => ?_, fun a => ?_⟩
      · have : i = s := by omega
        rw [e, this]; exact h
      · have a := kl_nle a
        omega
    | succ k ih =>
      intro i x1 x2 hx hk e
      have s1 := ml_in1 (x := x2) (by omega)
      have ex : x2 = Int32.ofNat i := en_ofI (by rw [hx, Int32.toInt_ofNat_of_lt (by omega)])
      refine p_X12_undoubted_1 ⟨v, ?_⟩
      rw [nl, tk_nat hx]
      refine ⟨fun a => ?_, fun _ => ⟨kl_in (by omega) (by omega), fun q n1 e1 => ?_, fun q => ?_⟩⟩
      · have a := kl_le.mp a
        omega
      · refine ih (i + 1) _ _ (by omega) (by omega) ?_
        rw [e1, e, ex]
        show _ = (if (if I 137 i = 0 then (1 : Int32) else 0) = 0 then sb _ i else sb _ i ||| ((1 : Int32) <<< (Int32.ofNat i &&& 31)))
        rw [if_pos q, if_neg (by decide)]
      · refine ih (i + 1) _ _ (by omega) (by omega) ?_
        rw [e]
        show _ = (if (if I 137 i = 0 then (1 : Int32) else 0) = 0 then sb _ i else sb _ i ||| ((1 : Int32) <<< (Int32.ofNat i &&& 31)))
        rw [if_neg q, if_pos rfl]
  exact p_X12_undoubted_0 (lp s 0 0 0 (by decide) (by omega) rfl)
end
end
section
/-! the reference: copies of a table, the beginning -/
section
variable {S : sm_C} {d : Nat} {Φ : sm_Z → Prop} {I : sm_I} {L : sm_L} {R : sm_R}
theorem rx_copies {a b : Nat} {x1 x2 : Int32} (h1 : x1.toInt = a) (h2 : x2.toInt = b) (a70 : a ≤ 70) (b70 : b ≤ 70) (ne : a ≠ b) (h : ∀ J, chg b I J → (∀ q, q < 169 → J 143 (169 * b + q) = I 143 (169 * a + q)) → Φ (none, (xLay, J, L, kM R))) : sm_wp sm_P S d 116 0 [.ref 107, .int x1, .int x2] [] (xLay, I, L, kM R) (0, 0) Φ := by
  have c169 : (169 : Int32).toInt = 169 := by decide
  have m1 : ((169 : Int32) * x1).toInt = 169 * (a : Int) := ml_mu c169 h1 (by omega) (by omega)
  have m2 : ((169 : Int32) * x2).toInt = 169 * (b : Int) := ml_mu c169 h2 (by omega) (by omega)
  have lp : ∀ (k i : Nat) (x : Int32) (J : sm_I), x.toInt = i → i + k = 169 → chg b I J → (∀ q, q < i → J 143 (169 * b + q) = I 143 (169 * a + q)) → sm_wp sm_P S d 116 1 [.ref 107, .int x1, .int x2, .int x] [] (xLay, J, L, kM R) (0, 0) Φ := by
    intro k
    induction k with
    | zero =>
      intro i x J hx hk cg hq
      refine p_X12_copies_1 ⟨fun _ => h J cg (fun q h' => hq q (by omega)), fun z => ?_⟩
      have z := kl_nle z
      omega
    | succ k ih =>
      intro i x J hx hk cg hq
      have s1 := ml_in1 (x := x) (by omega)
      have q1 : ((169 : Int32) * x1 + x).toInt = ((169 * a + i : Nat) : Int) := (ml_ad m1 hx (by omega) (by omega)).trans (by omega)
      have q2 : ((169 : Int32) * x2 + x).toInt = ((169 * b + i : Nat) : Int) := (ml_ad m2 hx (by omega) (by omega)).trans (by omega)
      refine p_X12_copies_1 ⟨fun z => ?_, fun _ => ⟨kl_in (by omega) (by omega), fun n1 e1 => ⟨kl_in (by omega) (by omega), fun I2 e2 => ?_⟩⟩⟩
      · have z := kl_le.mp z
        omega
      rw [tk_nat q1, cg 143 _ (by omega)] at e1
      rw [tk_nat q2] at e2
      refine ih (i + 1) _ I2 (by omega) (by omega) (fun p j hp => by rw [e2, en_up_ne _ _ _ _ (by omega)]; exact cg p j hp) (fun q h' => ?_)
      by_cases e : q = i
      · rw [e, e2, en_up_eq, e1]
      · rw [e2, en_up_ne _ _ _ _ (by omega)]; exact hq q (by omega)
  exact p_X12_copies_0 (lp 169 0 0 I (by decide) (by omega) chg_0 (fun q h' => absurd h' (Nat.not_lt_zero q)))
theorem mT_cp {a b : Nat} {I J : sm_I} (h : ∀ q, q < 169 → J 143 (169 * b + q) = I 143 (169 * a + q)) {i j : Nat} (hi : i < 13) (hj : j < 13) : mT J b i j = mT I a i j := by
  unfold mT
  rw [show 169 * b + 13 * j + i = 169 * b + (13 * j + i) by omega, show 169 * a + 13 * j + i = 169 * a + (13 * j + i) by omega, h _ (by omega)]
theorem dv169 : ∀ i : Nat, i < 169 → ((Int32.ofNat i) / (13 : Int32)).toInt = ((i / 13 : Nat) : Int) ∧ ((Int32.ofNat i) - (Int32.ofNat i) / (13 : Int32) * (13 : Int32)).toInt = ((i % 13 : Nat) : Int) := by decide +kernel
/-- TIMES that nobody can choose, as constraints: soft a span, hard two bounds -/
def opC (I : sm_I) (l k : Nat) : List tC := if I 107 53 = 0 then spC I (rhd I l) k 0 else [(nd (I 131 k), 0, 1440 - (I 133 k).toInt), (0, nd (I 131 k), (I 132 k).toInt)]
def opL (I : sm_I) (l p : Nat) : Nat → List tC
  | 0 => []
  | m + 1 => opC I l (p + m) ++ opL I l p m
def moL (I : sm_I) (f : tC → tC) : Nat → List tC
  | 0 => []
  | m + 1 => bC f (nd (I 144 m)) (nd (I 145 m)) (I 146 m).toInt (I 147 m).toInt ++ moL I f m
theorem opL_le {I : sm_I} {l p : Nat} {c : tC} : ∀ m m', m ≤ m' → c ∈ opL I l p m → c ∈ opL I l p m' := by
  intro m m' h hc
  obtain ⟨k, rfl⟩ : ∃ k, m' = m + k := ⟨m' - m, by omega⟩
  clear h
  induction k with
  | zero => exact hc
  | succ k ih => exact List.mem_append.mpr (Or.inr ih)
theorem moL_le {I : sm_I} {f : tC → tC} {c : tC} : ∀ m m', m ≤ m' → c ∈ moL I f m → c ∈ moL I f m' := by
  intro m m' h hc
  obtain ⟨k, rfl⟩ : ∃ k, m' = m + k := ⟨m' - m, by omega⟩
  clear h
  induction k with
  | zero => exact hc
  | succ k ih => exact List.mem_append.mpr (Or.inr ih)
/-- what holds always -/
def baC (I : sm_I) (l : Nat) : List tC := moL I (rhd I l) (I 107 54).toNatClampNeg ++ opL I l (240 + 4 * l) (I 134 l).toNatClampNeg
def mook (I : sm_I) (n k : Nat) : Prop := (0 ≤ (I 144 k).toInt ∧ (I 144 k).toInt + 1 < n) ∧ (-1 ≤ (I 145 k).toInt ∧ (I 145 k).toInt + 1 < n) ∧ (-1440 ≤ (I 146 k).toInt ∧ (I 146 k).toInt ≤ 1440) ∧ (-1440 ≤ (I 147 k).toInt ∧ (I 147 k).toInt ≤ 1440)
theorem rn_mo {K : sm_I} {n l M O : Nat} (B : rB0 K 0 n l) (h : ∀ r J, rR 0 n (moL K (rhd K l) M ++ opL K l (240 + 4 * l) O) K r J → Φ (some (.int r), (xLay, J, L, kM R))) (hM : (K 107 54).toInt = M) (M6 : M ≤ 6) (omK : ∀ k, k < M → mook K n k) (n12 : n ≤ 12) : ∀ (k i : Nat) (x2 x3 : Int32) (J : sm_I), x3.toInt = i → i + k = M → chg 0 K J → ((x2 = 0 ∧ tno n (moL K (rhd K l) M ++ opL K l (240 + 4 * l) O)) ∨ (x2 = 1 ∧ ttop n (moL K (rhd K l) i ++ opL K l (240 + 4 * l) O) (mT J 0))) → sm_wp sm_P S (d + 4) 103 19 [.ref 107, .int x2, .int x3] [] (xLay, J, L, kM R) (0, 0) Φ := by
  intro k
  induction k with
  | zero =>
    intro i x2 x3 J h3 hk cg T
    have e54 : J 107 54 = K 107 54 := cg 107 54 (by omega)
    have ei : i = M := by omega
    subst ei
    refine p_X12_begins_19 ⟨fun _ => ⟨?_, h x2 J ⟨cg, T⟩⟩, fun a => ?_⟩
    · rcases T with ⟨e, -⟩ | ⟨e, -⟩
      · exact Or.inl e
      · exact Or.inr e
    · have a := kl_nle a
      rw [e54] at a
      omega
  | succ k ih =>
    intro i x2 x3 J h3 hk cg T
    have e54 : J 107 54 = K 107 54 := cg 107 54 (by omega)
    have s3 := ml_in1 (x := x3) (by omega)
    have p3 := tk_nat h3
    have v : vp_in x3 6 := kl_in (by omega) (by omega)
    refine p_X12_begins_19 ⟨fun a => ?_, fun _ => ⟨fun e => ?_, fun e => ⟨v, v, v, v, ?_⟩⟩⟩
    · have a := kl_le.mp a
      rw [e54] at a
      omega
    · rcases T with ⟨-, T⟩ | ⟨e2, -⟩
      · exact ⟨Or.inl e, h x2 J ⟨cg, Or.inl ⟨e, T⟩⟩⟩
      · rw [e] at e2; exact absurd e2 (by decide)
    · rcases T with ⟨e2, -⟩ | ⟨-, T⟩
      · exact absurd e2 e
      obtain ⟨o1, o2, o3, o4⟩ := omK i (by omega)
      rw [p3, cg 144 i (by omega), cg 145 i (by omega), cg 146 i (by omega), cg 147 i (by omega)]
      intro n1 e1 n2 e2
      have q1 : n1.toInt = ((nd (K 144 i) : Nat) : Int) := by rw [e1, ml_in1 (by omega)]; unfold nd; omega
      have q2 : n2.toInt = ((nd (K 145 i) : Nat) : Int) := by rw [e2, ml_in1 (by omega)]; unfold nd; omega
      refine rx_between (d := d + 1) (rB0_cg cg B) q1 q2 (by unfold nd; omega) (by unfold nd; omega) (by omega) (by omega) (by omega) (by omega) T (fun r J2 z => ⟨r, J2, L, rfl, ?_⟩)
      rw [rhd_cg cg, ← List.append_assoc] at z
      obtain ⟨cg2, z⟩ := z
      refine ih (i + 1) r _ J2 (by omega) (by omega) (chg_t cg cg2) ?_
      rcases z with ⟨e, z⟩ | ⟨e, z⟩
      · refine Or.inl ⟨e, tno_cg (fun c hc => ?_) z⟩
        rcases List.mem_append.mp hc with hc | hc
        · exact List.mem_append.mpr (Or.inl (moL_le (i + 1) M (by omega) hc))
        · exact List.mem_append.mpr (Or.inr hc)
      · exact Or.inr ⟨e, z⟩
theorem rn_op {K : sm_I} {n l M O : Nat} (B : rB0 K 0 n l) (h : ∀ r J, rR 0 n (moL K (rhd K l) M ++ opL K l (240 + 4 * l) O) K r J → Φ (some (.int r), (xLay, J, L, kM R))) (hM : (K 107 54).toInt = M) (M6 : M ≤ 6) (omK : ∀ k, k < M → mook K n k) (n1 : 1 ≤ n) (n12 : n ≤ 12) (hO : (K 134 l).toInt = O) (O4 : O ≤ 4) (okK : ∀ k, k < O → sspk K n (240 + 4 * l + k)) (l1 : l ≤ 1) : ∀ (k i : Nat) (x2 x3 : Int32) (J : sm_I), x3.toInt = ((240 + 4 * l + i : Nat) : Int) → i + k = O → chg 0 K J → ((x2 = 0 ∧ tno n (opL K l (240 + 4 * l) O)) ∨ (x2 = 1 ∧ ttop n (opL K l (240 + 4 * l) i) (mT J 0))) → sm_wp sm_P S (d + 4) 103 8 [.ref 107, .int x2, .int x3] [] (xLay, J, L, kM R) (0, 0) Φ := by
  have mo := rn_mo (d := d) (S := S) (L := L) (R := R) B h hM M6 omK n12
  -- behind a failure
  have bad : ∀ J, chg 0 K J → tno n (opL K l (240 + 4 * l) O) → sm_wp sm_P S (d + 4) 103 19 [.ref 107, .int 0, .int 0] [] (xLay, J, L, kM R) (0, 0) Φ := fun J cg z => mo M 0 0 0 J (by decide) (by omega) cg (Or.inl ⟨rfl, tno_cg (fun c hc => List.mem_append.mpr (Or.inr hc)) z⟩)
  have c240 : (240 : Int32).toInt = 240 := by decide
  have c4 : (4 : Int32).toInt = 4 := by decide
  have c1440 : (1440 : Int32).toInt = 1440 := by decide
  have hlK : (K 107 18).toInt = l := B.2.2.2.2.1
  intro k
  induction k with
  | zero =>
    intro i x2 x3 J h3 hk cg T
    have e18 : J 107 18 = K 107 18 := cg 107 18 (by omega)
    have e134 : J 134 l = K 134 l := cg 134 l (by omega)
    have nl : (J 107 18).toNatClampNeg = l := tk_nat (by rw [e18]; exact hlK)
    have m : ((4 : Int32) * J 107 18).toInt = 4 * (l : Int) := ml_mu c4 (by rw [e18]; exact hlK) (by omega) (by omega)
    have s := ml_ad (ml_ad c240 m (by omega) (by omega)) hO (by omega) (by omega)
    have ei : i = O := by omega
    subst ei
    refine p_X12_begins_8 ⟨kl_in (by rw [e18]; omega) (by rw [e18]; omega), ?_⟩
    rw [nl, e134]
    refine ⟨fun _ => ?_, fun a => ?_⟩
    · rcases T with ⟨e, T⟩ | ⟨e, T⟩
      · rw [e]; exact bad J cg T
      · rw [e]; exact mo M 0 1 0 J (by decide) (by omega) cg (Or.inr ⟨rfl, T⟩)
    · have a := kl_nle a
      rw [s] at a
      omega
  | succ k ih =>
    intro i x2 x3 J h3 hk cg T
    have e18 : J 107 18 = K 107 18 := cg 107 18 (by omega)
    have e134 : J 134 l = K 134 l := cg 134 l (by omega)
    have nl : (J 107 18).toNatClampNeg = l := tk_nat (by rw [e18]; exact hlK)
    have m : ((4 : Int32) * J 107 18).toInt = 4 * (l : Int) := ml_mu c4 (by rw [e18]; exact hlK) (by omega) (by omega)
    have s := ml_ad (ml_ad c240 m (by omega) (by omega)) hO (by omega) (by omega)
    have s3 := ml_in1 (x := x3) (by omega)
    have p3 := tk_nat h3
    have v : vp_in x3 260 := kl_in (by omega) (by omega)
    have sp := okK i (by omega)
    refine p_X12_begins_8 ⟨kl_in (by rw [e18]; omega) (by rw [e18]; omega), ?_⟩
    rw [nl, e134]
    refine ⟨fun a => ?_, fun _ => ⟨fun e => ?_, fun e => ?_⟩⟩
    · have a := kl_le.mp a
      rw [s] at a
      omega
    · rcases T with ⟨-, T⟩ | ⟨e2, -⟩
      · rw [e]; exact bad J cg T
      · rw [e] at e2; exact absurd e2 (by decide)
    rcases T with ⟨e2, -⟩ | ⟨-, T⟩
    · exact absurd e2 e
    refine ⟨fun z => ?_, fun z => ⟨v, v, ?_⟩⟩
    · refine rx_holds (d := d) (rB0_cg cg B) h3 (sspk_cg cg sp) (by decide) (by decide) T (fun r J2 q => ⟨r, J2, L, rfl, ?_⟩)
      obtain ⟨cg2, q⟩ := q
      have eC : spC J (rhd J l) (240 + 4 * l + i) (0 : Int32).toInt ++ opL K l (240 + 4 * l) i = opL K l (240 + 4 * l) (i + 1) := by
        show _ = opC K l (240 + 4 * l + i) ++ opL K l (240 + 4 * l) i
        unfold opC
        rw [if_pos (by rw [← cg 107 53 (by omega)]; exact z), rhd_cg cg, spC_cg cg, kl_0]
      rw [eC] at q
      refine ih (i + 1) r _ J2 (by omega) (by omega) (chg_t cg cg2) ?_
      rcases q with ⟨e, q⟩ | ⟨e, q⟩
      · exact Or.inl ⟨e, tno_cg (fun c hc => opL_le (i + 1) O (by omega) hc) q⟩
      · exact Or.inr ⟨e, q⟩
    · obtain ⟨o0, o1, o2, o3, o4⟩ := sp
      have Bj := rB0_cg cg B
      rw [p3, cg 131 _ (by omega), cg 132 _ (by omega)]
      intro n5 e5
      have q5 : n5.toInt = ((nd (K 131 (240 + 4 * l + i)) : Nat) : Int) := by rw [e5, ml_in1 (by omega)]; unfold nd; omega
      have nz : K 107 53 ≠ 0 := fun q => z (by rw [cg 107 53 (by omega)]; exact q)
      have eC : opL K l (240 + 4 * l) (i + 1) = (nd (K 131 (240 + 4 * l + i)), 0, 1440 - (K 133 (240 + 4 * l + i)).toInt) :: (0, nd (K 131 (240 + 4 * l + i)), (K 132 (240 + 4 * l + i)).toInt) :: opL K l (240 + 4 * l) i := by
        show opC K l (240 + 4 * l + i) ++ opL K l (240 + 4 * l) i = _
        unfold opC
        rw [if_neg nz]; rfl
      have up1 : ∀ J2 : sm_I, tno n ((0, nd (K 131 (240 + 4 * l + i)), (K 132 (240 + 4 * l + i)).toInt) :: opL K l (240 + 4 * l) i) → tno n (opL K l (240 + 4 * l) O) := fun _ q => tno_cg (fun c hc => opL_le (i + 1) O (by omega) (by rw [eC]; exact List.mem_cons_of_mem _ hc)) q
      refine rx_bound (j := nd (K 131 (240 + 4 * l + i))) (i := 0) Bj.1 (by decide) Bj.2.2.1 (by omega) q5 kl_0 (by unfold nd; omega) (by omega) (by omega) (by omega) T (fun q => ⟨_, J, L, rfl, fun _ => ih (i + 1) 0 _ J (by omega) (by omega) cg (Or.inl ⟨rfl, up1 J q⟩), fun y => absurd rfl y⟩) (fun J2 cg2 q => ⟨_, J2, L, rfl, fun y => absurd y (by decide), fun _ => ⟨v, v, ?_⟩⟩)
      have cgt := chg_t cg cg2
      have Bj2 := rB0_cg cgt B
      rw [cgt 131 _ (by omega), cgt 133 _ (by omega)]
      intro n9 e9 n10 e10
      have q9 : n9.toInt = ((nd (K 131 (240 + 4 * l + i)) : Nat) : Int) := by rw [e9, ml_in1 (by omega)]; unfold nd; omega
      have q10 : n10.toInt = 1440 - (K 133 (240 + 4 * l + i)).toInt := by rw [e10, Int32.toInt_sub, c1440]; exact en_bmod (by omega) (by omega) (Or.inl rfl)
      refine rx_bound (j := 0) (i := nd (K 131 (240 + 4 * l + i))) Bj2.1 (by decide) Bj2.2.2.1 (by omega) kl_0 q9 (by omega) (by unfold nd; omega) (by omega) (by omega) q (fun q2 => ⟨_, J2, L, rfl, fun _ => ih (i + 1) 0 _ J2 (by omega) (by omega) cgt (Or.inl ⟨rfl, ?_⟩), fun y => absurd rfl y⟩) (fun J3 cg3 q2 => ⟨_, J3, L, rfl, fun y => absurd y (by decide), fun _ => ih (i + 1) 1 _ J3 (by omega) (by omega) (chg_t cgt cg3) (Or.inr ⟨rfl, ?_⟩)⟩)
      · rw [q10] at q2
        exact tno_cg (fun c hc => opL_le (i + 1) O (by omega) (by rw [eC]; exact hc)) q2
      · rw [q10] at q2
        rw [eC]; exact q2
theorem rn_bl {K : sm_I} {n l M O : Nat} (B : rB0 K 0 n l) (h : ∀ r J, rR 0 n (moL K (rhd K l) M ++ opL K l (240 + 4 * l) O) K r J → Φ (some (.int r), (xLay, J, L, kM R))) (hM : (K 107 54).toInt = M) (M6 : M ≤ 6) (omK : ∀ k, k < M → mook K n k) (n1 : 1 ≤ n) (n12 : n ≤ 12) (hO : (K 134 l).toInt = O) (O4 : O ≤ 4) (okK : ∀ k, k < O → sspk K n (240 + 4 * l + k)) (l1 : l ≤ 1) : ∀ (k i : Nat) (x2 : Int32) (J : sm_I), x2.toInt = i → i + k = 169 → chg 0 K J → (∀ q, q < i → J 143 q = if q / 13 = q % 13 ∨ q % 13 = 0 then 0 else 1440) → sm_wp sm_P S (d + 4) 103 1 [.ref 107, .int x2] [] (xLay, J, L, kM R) (0, 0) Φ := by
  have op := rn_op (d := d) (S := S) (L := L) (R := R) B h hM M6 omK n1 n12 hO O4 okK l1
  have c240 : (240 : Int32).toInt = 240 := by decide
  have c4 : (4 : Int32).toInt = 4 := by decide
  have c1440 : (1440 : Int32).toInt = 1440 := by decide
  have hlK : (K 107 18).toInt = l := B.2.2.2.2.1
  have c169 : (169 : Int32).toInt = 169 := by decide
  intro k
  induction k with
  | zero =>
    intro i x2 J h2 hk cg hq
    refine p_X12_begins_1 ⟨fun _ n1 e1 => ?_, fun a => ?_⟩
    · have e18 : J 107 18 = K 107 18 := cg 107 18 (by omega)
      have m : ((4 : Int32) * J 107 18).toInt = 4 * (l : Int) := ml_mu c4 (by rw [e18]; exact hlK) (by omega) (by omega)
      refine op O 0 1 n1 J (by rw [e1, ml_ad c240 m (by omega) (by omega)]; omega) (by omega) cg (Or.inr ⟨rfl, ttop_eq (fun a b ha hb => ?_) (t_0 n)⟩)
      unfold mT tD0
      rw [hq _ (by omega)]
      have d1 : (169 * 0 + 13 * b + a) / 13 = b := by omega
      have d2 : (169 * 0 + 13 * b + a) % 13 = a := by omega
      rw [d1, d2]
      by_cases c : b = a ∨ a = 0
      · rw [if_pos c, if_pos (by omega)]; decide
      · rw [if_neg c, if_neg (by omega)]; decide
    · have a := kl_nle a
      omega
  | succ k ih =>
    intro i x2 J h2 hk cg hq
    have s2 := ml_in1 (x := x2) (by omega)
    have ex : x2 = Int32.ofNat i := en_ofI (by rw [h2, Int32.toInt_ofNat_of_lt (by omega)])
    have p2 := tk_nat h2
    obtain ⟨d1, d2⟩ := dv169 i (by omega)
    rw [← ex] at d1 d2
    have v : vp_in x2 12000 := kl_in (by omega) (by omega)
    have nz : ¬ (13 : Int32) = 0 := by decide
    have nx : ∀ (w : Int32) (I2 : sm_I), I2 = sm_up J 143 x2.toNatClampNeg w → (w = if i / 13 = i % 13 ∨ i % 13 = 0 then 0 else 1440) → sm_wp sm_P S (d + 4) 103 1 [.ref 107, .int (x2 + (1 : Int32))] [] (xLay, I2, L, kM R) (0, 0) Φ := fun w I2 e ew => by
      rw [p2] at e
      refine ih (i + 1) _ I2 (by omega) (by omega) (fun p j hp => by rw [e, en_up_ne _ _ _ _ (by omega)]; exact cg p j hp) (fun q hq' => ?_)
      by_cases c : q = i
      · rw [c, e, en_up_eq]; exact ew
      · rw [e, en_up_ne _ _ _ _ (by omega)]; exact hq q (by omega)
    refine p_X12_begins_1 ⟨fun a => ?_, fun _ => ⟨nz, nz, fun c => ⟨v, fun I2 e => nx 0 I2 e ?_⟩, fun c => ⟨nz, fun c2 => ⟨v, fun I4 e => nx 0 I4 e ?_⟩, fun c2 => ⟨v, fun I3 e => nx 1440 I3 e ?_⟩⟩⟩⟩
    · have a := kl_le.mp a
      omega
    · have c := congrArg Int32.toInt c
      rw [d1, d2] at c
      rw [if_pos (Or.inl (by omega))]
    · have c2 := congrArg Int32.toInt c2
      rw [d2, kl_0] at c2
      rw [if_pos (Or.inr (by omega))]
    · have n1 : i / 13 ≠ i % 13 := fun q => c (en_ofI (by rw [d1, d2, q]))
      have n2 : i % 13 ≠ 0 := fun q => c2 (en_ofI (by rw [d2, q]; decide))
      rw [if_neg (by omega)]
def kfr (I K : sm_I) : Prop := ∀ p j, ¬ (p = 107 ∧ (j = 51 ∨ j = 52)) → K p j = I p j
theorem k_oA {I K : sm_I} (ko : kfr I K) (l i : Nat) : oA K l i = oA I l i := by
  unfold oA
  rw [ko 122 l (by omega), ko 135 _ (by omega)]
theorem k_su {I K : sm_I} (ko : kfr I K) (l i : Nat) : su K l i = su I l i ∧ fa K l i = fa I l i ∧ na K l i = na I l i := by
  unfold su fa na
  rw [k_oA ko, ko 131 _ (by omega), ko 132 _ (by omega), ko 133 _ (by omega)]
  exact ⟨rfl, rfl, rfl⟩
theorem k_rh {I K : sm_I} (ko : kfr I K) (l : Nat) : rhd K l = rhd I l := by
  funext c
  unfold rhd
  rw [ko 107 53 (by omega), (k_su ko l c.1).1, (k_su ko l c.2.1).1, (k_su ko l c.1).2.1, (k_su ko l c.2.1).2.2]
theorem k_sp {I K : sm_I} (ko : kfr I K) (f : tC → tC) (p : Nat) (g : Int) : spC K f p g = spC I f p g := by
  unfold spC
  rw [ko 130 p (by omega), ko 131 p (by omega), ko 132 p (by omega), ko 133 p (by omega)]
theorem k_op {I K : sm_I} (ko : kfr I K) (l p : Nat) : opC K l p = opC I l p := by
  unfold opC
  rw [k_sp ko, k_rh ko, ko 107 53 (by omega), ko 131 p (by omega), ko 132 p (by omega), ko 133 p (by omega)]
theorem k_opL {I K : sm_I} (ko : kfr I K) (l p : Nat) : ∀ m, opL K l p m = opL I l p m := by
  intro m
  induction m with
  | zero => rfl
  | succ m ih =>
    show opC K l (p + m) ++ opL K l p m = opC I l (p + m) ++ opL I l p m
    rw [ih, k_op ko]
theorem k_moL {I K : sm_I} (ko : kfr I K) (f : tC → tC) : ∀ m, moL K f m = moL I f m := by
  intro m
  induction m with
  | zero => rfl
  | succ m ih =>
    show bC f (nd (K 144 m)) (nd (K 145 m)) (K 146 m).toInt (K 147 m).toInt ++ moL K f m = bC f (nd (I 144 m)) (nd (I 145 m)) (I 146 m).toInt (I 147 m).toInt ++ moL I f m
    rw [ih, ko 144 m (by omega), ko 145 m (by omega), ko 146 m (by omega), ko 147 m (by omega)]
theorem k_ho {I K : sm_I} {l n : Nat} (ko : kfr I K) (H : hok I l n) : hok K l n := by
  rcases H with e | e
  · exact Or.inl (by rw [ko 107 53 (by omega)]; exact e)
  · refine Or.inr (fun i hi => ?_)
    rw [(k_su ko l i).1, (k_su ko l i).2.1, (k_su ko l i).2.2, k_oA ko, ko 131 _ (by omega)]
    exact e i hi
theorem k_sk {I K : sm_I} {n p : Nat} (ko : kfr I K) (k : sspk I n p) : sspk K n p := by
  unfold sspk at k ⊢
  rw [ko 130 p (by omega), ko 131 p (by omega), ko 132 p (by omega), ko 133 p (by omega)]; exact k
theorem k_mo {I K : sm_I} {n p : Nat} (ko : kfr I K) (k : mook I n p) : mook K n p := by
  unfold mook at k ⊢
  rw [ko 144 p (by omega), ko 145 p (by omega), ko 146 p (by omega), ko 147 p (by omega)]; exact k
theorem rn_K {n l : Nat} {x : Int32} {K : sm_I} (eK : K = sm_up (sm_up I 107 51 x) 107 52 0) (hx : x.toInt = n) (n12 : n ≤ 12) (hl : (I 107 18).toInt = l) (l1 : l ≤ 1) (bt : 0 ≤ (I 122 l).toInt ∧ (I 122 l).toInt ≤ 10) (H : hok I l n) : kfr I K ∧ rB0 K 0 n l := by
  have ko : kfr I K := fun p j a => by rw [eK, en_up_ne _ _ _ _ (by omega), en_up_ne _ _ _ _ (by omega)]
  have k51 : K 107 51 = x := by rw [eK, en_up_ne _ _ _ _ (by omega), en_up_eq]
  have k52 : K 107 52 = 0 := by rw [eK, en_up_eq]
  have z : (K 107 52).toInt = ((0 : Nat) : Int) := by rw [k52, kl_0]; rfl
  exact ⟨ko, z, Nat.zero_le _, by rw [k51]; exact hx, n12, by rw [ko 107 18 (by omega)]; exact hl, l1, by rw [ko 122 l (by omega)]; exact bt, k_ho ko H⟩
theorem k_ba {I K : sm_I} {l : Nat} (ko : kfr I K) : baC I l = moL K (rhd K l) (K 107 54).toNatClampNeg ++ opL K l (240 + 4 * l) (K 134 l).toNatClampNeg := by
  unfold baC
  rw [k_rh ko, k_moL ko, k_opL ko, ko 107 54 (by omega), ko 134 l (by omega)]
theorem rx_begins {n l : Nat} {x : Int32} (hx : x.toInt = n) (n1 : 1 ≤ n) (n12 : n ≤ 12) (hl : (I 107 18).toInt = l) (l1 : l ≤ 1) (bt : 0 ≤ (I 122 l).toInt ∧ (I 122 l).toInt ≤ 10) (H : hok I l n) (bo : 0 ≤ (I 134 l).toInt ∧ (I 134 l).toInt ≤ 4) (ok : ∀ k, k < (I 134 l).toNatClampNeg → sspk I n (240 + 4 * l + k)) (bm : 0 ≤ (I 107 54).toInt ∧ (I 107 54).toInt ≤ 6) (om : ∀ k, k < (I 107 54).toNatClampNeg → mook I n k) (h : ∀ r J, rR 0 n (baC I l) (sm_up (sm_up I 107 51 x) 107 52 0) r J → Φ (some (.int r), (xLay, J, L, kM R))) : sm_wp sm_P S (d + 4) 103 0 [.ref 107, .int x] [] (xLay, I, L, kM R) (0, 0) Φ := by
  obtain ⟨K, eK⟩ : ∃ K, K = sm_up (sm_up I 107 51 x) 107 52 0 := ⟨_, rfl⟩
  rw [← eK] at h
  obtain ⟨ko, B⟩ := rn_K eK hx n12 hl l1 bt H
  have bae := k_ba (l := l) ko
  have z1 : K 107 54 = I 107 54 := ko 107 54 (by omega)
  have z2 : K 134 l = I 134 l := ko 134 l (by omega)
  have okK : ∀ k, k < (K 134 l).toNatClampNeg → sspk K n (240 + 4 * l + k) := fun k hk => by
    rw [z2] at hk
    exact k_sk ko (ok k hk)
  have omK : ∀ k, k < (K 107 54).toNatClampNeg → mook K n k := fun k hk => by
    rw [z1] at hk
    exact k_mo ko (om k hk)
  have nm := kl_nat bm.1
  have no := kl_nat bo.1
  rw [bae] at h
  have bmK : (K 107 54).toInt = (I 107 54).toInt := by rw [z1]
  have boK : (K 134 l).toInt = (I 134 l).toInt := by rw [z2]
  obtain ⟨M, eM⟩ : ∃ M, M = (K 107 54).toNatClampNeg := ⟨_, rfl⟩
  obtain ⟨O, eO⟩ : ∃ O, O = (K 134 l).toNatClampNeg := ⟨_, rfl⟩
  have hM : (K 107 54).toInt = M := by rw [eM, z1]; exact nm.symm
  have hO : (K 134 l).toInt = O := by rw [eO, z2]; exact no.symm
  rw [← eM] at h omK
  rw [← eO] at h okK
  have M6 : M ≤ 6 := by omega
  have O4 : O ≤ 4 := by omega
  have bl := rn_bl (d := d) (S := S) (L := L) (R := R) B h hM M6 omK n1 n12 hO O4 okK l1
  exact p_X12_begins_0 (fun I1 e1 => by
    rw [e1, ← eK]
    exact bl 169 0 0 K (by decide) (by omega) chg_0 (fun q hq => absurd hq (Nat.not_lt_zero q)))
end
end
