section
/-! conditions of the class: hour, gap, ends, can, with kF behind each call; told = 12 (wip/pe/symg5.py) -/
theorem ph12_X11_can_0 {S : sm_C} {d : Nat} {Φ : sm_Z → Prop} {I : sm_I} {L : sm_L} {R : sm_R} {x1 : Int32} {x2 : Int32} (h : sm_wp sm_P S d 63 0 [.ref 0, .int x1] [] (xLay, I, L, (kF12_74 R)) (0, 0) (fun z => ∃ (r4 : Int32) (I1 : sm_I) (L2 : sm_L) (R3 : sm_R), z = (some (.int r4), (xLay, I1, L2, (kF12_74 R3))) ∧ ((r4 = 0 → Φ (some (.int (-1 : Int32)), (xLay, I1, L2, (kF12_74 R3)))) ∧ (¬ r4 = 0 → sm_wp sm_P S d 58 0 [.int x2] [] (xLay, I1, L2, (kF12_74 R3)) (0, 0) (fun z => ∃ (r8 : Int32) (I5 : sm_I) (L6 : sm_L) (R7 : sm_R), z = (some (.int r8), (xLay, I5, L6, (kF12_74 R7))) ∧ ((r8 = 0 → Φ (some (.int (-1 : Int32)), (xLay, I5, L6, (kF12_74 R7)))) ∧ (¬ r8 = 0 → sm_wp sm_P S d 56 0 [.ref 0] [] (xLay, I5, L6, (kF12_74 R7)) (0, 0) (fun z => ∃ (r12 : Int32) (I9 : sm_I) (L10 : sm_L) (R11 : sm_R), z = (some (.int r12), (xLay, I9, L10, (kF12_74 R11))) ∧ ((r12 = 0 → Φ (some (.int (-3 : Int32)), (xLay, I9, L10, (kF12_74 R11)))) ∧ (¬ r12 = 0 → sm_wp sm_P S (d + 1) 34 6 [.ref 0, .int x1, .int x2, .int (0 : Int32), .int (0 : Int32)] [] (xLay, I9, L10, (kF12_74 R11)) (0, 0) Φ)))))))))) : sm_wp sm_P S (d + 1) 34 0 [.ref 0, .int x1, .int x2] [] (xLay, I, L, (kF12_74 R)) (0, 0) Φ := sm_wp_step (sm_ciH (h) (fun r4 I1 L2 R3 q18 => ⟨fun q17 => ((q18).1 q17), fun q17 => sm_ciH (((q18).2 q17)) (fun r8 I5 L6 R7 q16 => ⟨fun q15 => ((q16).1 q15), fun q15 => sm_ciH (((q16).2 q15)) (fun r12 I9 L10 R11 q14 => ⟨fun q13 => ((q14).1 q13), fun q13 => ((q14).2 q13)⟩)⟩)⟩))
theorem ph12_X11_can_6 {S : sm_C} {d : Nat} {Φ : sm_Z → Prop} {I : sm_I} {L : sm_L} {R : sm_R} {x1 : Int32} {x2 : Int32} {x3 : Int32} {x4 : Int32} (h : (((I 74 14) ≤ x4 → Φ (some (.int x3), (xLay, I, L, (kF12_74 R)))) ∧ (¬ (I 74 14) ≤ x4 → sm_wp sm_P S d 68 0 [.ref 0, .int x4] [] (xLay, I, L, (kF12_74 R)) (0, 0) (fun z => ∃ (r4 : Int32) (I1 : sm_I) (L2 : sm_L) (R3 : sm_R), z = (some (.int r4), (xLay, I1, L2, (kF12_74 R3))) ∧ sm_wp sm_P S d 231 0 [.ref 74, .int r4, .int x1, .int (0 : Int32)] [] (xLay, I1, L2, (kF12_74 R3)) (0, 0) (fun z => ∃ (r8 : Int32) (I5 : sm_I) (L6 : sm_L) (R7 : sm_R), z = (some (.int r8), (xLay, I5, L6, (kF12_74 R7))) ∧ ((x2 < r8 → sm_wp sm_P S (d + 1) 34 6 [.ref 0, .int x1, .int x2, .int x3, .int (x4 + (1 : Int32))] [] (xLay, I5, L6, (kF12_74 R7)) (0, 0) Φ) ∧ (¬ x2 < r8 → sm_wp sm_P S d 231 0 [.ref 74, .int r4, .int x1, .int (1 : Int32)] [] (xLay, I5, L6, (kF12_74 R7)) (0, 0) (fun z => ∃ (r12 : Int32) (I9 : sm_I) (L10 : sm_L) (R11 : sm_R), z = (some (.int r12), (xLay, I9, L10, (kF12_74 R11))) ∧ ((r12 < x2 → sm_wp sm_P S (d + 1) 34 6 [.ref 0, .int x1, .int x2, .int x3, .int (x4 + (1 : Int32))] [] (xLay, I9, L10, (kF12_74 R11)) (0, 0) Φ) ∧ (¬ r12 < x2 → sm_wp sm_P S (d + 1) 34 6 [.ref 0, .int x1, .int x2, .int (x3 + (1 : Int32)), .int (x4 + (1 : Int32))] [] (xLay, I9, L10, (kF12_74 R11)) (0, 0) Φ)))))))))) : sm_wp sm_P S (d + 1) 34 6 [.ref 0, .int x1, .int x2, .int x3, .int x4] [] (xLay, I, L, (kF12_74 R)) (0, 0) Φ := sm_wp_step (⟨fun q18 => ((h).1 q18), fun q18 => sm_ciH (((h).2 q18)) (fun r4 I1 L2 R3 q17 => sm_ciH (q17) (fun r8 I5 L6 R7 q16 => ⟨fun q15 => ((q16).1 q15), fun q15 => sm_ciH (((q16).2 q15)) (fun r12 I9 L10 R11 q14 => ⟨fun q13 => ((q14).1 q13), fun q13 => ((q14).2 q13)⟩)⟩))⟩)
end
section
/-! conditions of the class: hour, gap, ends, can, with kF behind each call; told = 49 (wip/pe/symg5.py) -/
theorem ph49_X11_can_0 {S : sm_C} {d : Nat} {Φ : sm_Z → Prop} {I : sm_I} {L : sm_L} {R : sm_R} {x1 : Int32} {x2 : Int32} (h : sm_wp sm_P S d 63 0 [.ref 0, .int x1] [] (xLay, I, L, (kF49_74 R)) (0, 0) (fun z => ∃ (r4 : Int32) (I1 : sm_I) (L2 : sm_L) (R3 : sm_R), z = (some (.int r4), (xLay, I1, L2, (kF49_74 R3))) ∧ ((r4 = 0 → Φ (some (.int (-1 : Int32)), (xLay, I1, L2, (kF49_74 R3)))) ∧ (¬ r4 = 0 → sm_wp sm_P S d 58 0 [.int x2] [] (xLay, I1, L2, (kF49_74 R3)) (0, 0) (fun z => ∃ (r8 : Int32) (I5 : sm_I) (L6 : sm_L) (R7 : sm_R), z = (some (.int r8), (xLay, I5, L6, (kF49_74 R7))) ∧ ((r8 = 0 → Φ (some (.int (-1 : Int32)), (xLay, I5, L6, (kF49_74 R7)))) ∧ (¬ r8 = 0 → sm_wp sm_P S d 56 0 [.ref 0] [] (xLay, I5, L6, (kF49_74 R7)) (0, 0) (fun z => ∃ (r12 : Int32) (I9 : sm_I) (L10 : sm_L) (R11 : sm_R), z = (some (.int r12), (xLay, I9, L10, (kF49_74 R11))) ∧ ((r12 = 0 → Φ (some (.int (-3 : Int32)), (xLay, I9, L10, (kF49_74 R11)))) ∧ (¬ r12 = 0 → sm_wp sm_P S (d + 1) 34 6 [.ref 0, .int x1, .int x2, .int (0 : Int32), .int (0 : Int32)] [] (xLay, I9, L10, (kF49_74 R11)) (0, 0) Φ)))))))))) : sm_wp sm_P S (d + 1) 34 0 [.ref 0, .int x1, .int x2] [] (xLay, I, L, (kF49_74 R)) (0, 0) Φ := sm_wp_step (sm_ciH (h) (fun r4 I1 L2 R3 q18 => ⟨fun q17 => ((q18).1 q17), fun q17 => sm_ciH (((q18).2 q17)) (fun r8 I5 L6 R7 q16 => ⟨fun q15 => ((q16).1 q15), fun q15 => sm_ciH (((q16).2 q15)) (fun r12 I9 L10 R11 q14 => ⟨fun q13 => ((q14).1 q13), fun q13 => ((q14).2 q13)⟩)⟩)⟩))
theorem ph49_X11_can_6 {S : sm_C} {d : Nat} {Φ : sm_Z → Prop} {I : sm_I} {L : sm_L} {R : sm_R} {x1 : Int32} {x2 : Int32} {x3 : Int32} {x4 : Int32} (h : (((I 74 14) ≤ x4 → Φ (some (.int x3), (xLay, I, L, (kF49_74 R)))) ∧ (¬ (I 74 14) ≤ x4 → sm_wp sm_P S d 68 0 [.ref 0, .int x4] [] (xLay, I, L, (kF49_74 R)) (0, 0) (fun z => ∃ (r4 : Int32) (I1 : sm_I) (L2 : sm_L) (R3 : sm_R), z = (some (.int r4), (xLay, I1, L2, (kF49_74 R3))) ∧ sm_wp sm_P S d 231 0 [.ref 74, .int r4, .int x1, .int (0 : Int32)] [] (xLay, I1, L2, (kF49_74 R3)) (0, 0) (fun z => ∃ (r8 : Int32) (I5 : sm_I) (L6 : sm_L) (R7 : sm_R), z = (some (.int r8), (xLay, I5, L6, (kF49_74 R7))) ∧ ((x2 < r8 → sm_wp sm_P S (d + 1) 34 6 [.ref 0, .int x1, .int x2, .int x3, .int (x4 + (1 : Int32))] [] (xLay, I5, L6, (kF49_74 R7)) (0, 0) Φ) ∧ (¬ x2 < r8 → sm_wp sm_P S d 231 0 [.ref 74, .int r4, .int x1, .int (1 : Int32)] [] (xLay, I5, L6, (kF49_74 R7)) (0, 0) (fun z => ∃ (r12 : Int32) (I9 : sm_I) (L10 : sm_L) (R11 : sm_R), z = (some (.int r12), (xLay, I9, L10, (kF49_74 R11))) ∧ ((r12 < x2 → sm_wp sm_P S (d + 1) 34 6 [.ref 0, .int x1, .int x2, .int x3, .int (x4 + (1 : Int32))] [] (xLay, I9, L10, (kF49_74 R11)) (0, 0) Φ) ∧ (¬ r12 < x2 → sm_wp sm_P S (d + 1) 34 6 [.ref 0, .int x1, .int x2, .int (x3 + (1 : Int32)), .int (x4 + (1 : Int32))] [] (xLay, I9, L10, (kF49_74 R11)) (0, 0) Φ)))))))))) : sm_wp sm_P S (d + 1) 34 6 [.ref 0, .int x1, .int x2, .int x3, .int x4] [] (xLay, I, L, (kF49_74 R)) (0, 0) Φ := sm_wp_step (⟨fun q18 => ((h).1 q18), fun q18 => sm_ciH (((h).2 q18)) (fun r4 I1 L2 R3 q17 => sm_ciH (q17) (fun r8 I5 L6 R7 q16 => ⟨fun q15 => ((q16).1 q15), fun q15 => sm_ciH (((q16).2 q15)) (fun r12 I9 L10 R11 q14 => ⟨fun q13 => ((q14).1 q13), fun q13 => ((q14).2 q13)⟩)⟩))⟩)
end
section
/-! conditions of the reference: hour, gap, ends, can, lays, gapNow (wip/pe/symg5.py) -/
theorem pj_X12_can_0 {S : sm_C} {d : Nat} {Φ : sm_Z → Prop} {I : sm_I} {L : sm_L} {R : sm_R} {x1 : Int32} {x2 : Int32} (h : sm_wp sm_P S d 150 0 [.ref 107, .int x1] [] (xLay, I, L, (kM R)) (0, 0) (fun z => ∃ (r3 : Int32) (I1 : sm_I) (L2 : sm_L), z = (some (.int r3), (xLay, I1, L2, (kM R))) ∧ ((r3 = 0 → Φ (some (.int (-1 : Int32)), (xLay, I1, L2, (kM R)))) ∧ (¬ r3 = 0 → sm_wp sm_P S d 147 0 [.ref 107, .int x2] [] (xLay, I1, L2, (kM R)) (0, 0) (fun z => ∃ (r6 : Int32) (I4 : sm_I) (L5 : sm_L), z = (some (.int r6), (xLay, I4, L5, (kM R))) ∧ ((r6 = 0 → Φ (some (.int (-1 : Int32)), (xLay, I4, L5, (kM R)))) ∧ (¬ r6 = 0 → sm_wp sm_P S d 135 0 [.ref 107] [] (xLay, I4, L5, (kM R)) (0, 0) (fun z => ∃ (I7 : sm_I) (L8 : sm_L), z = (none, (xLay, I7, L8, (kM R))) ∧ (((I7 107 71) = 0 → sm_wp sm_P S (d + 1) 109 6 [.ref 107, .int x1, .int x2, .int (0 : Int32), .int (0 : Int32)] [] (xLay, I7, L8, (kM R)) (0, 0) Φ) ∧ (¬ (I7 107 71) = 0 → Φ (some (.int (-3 : Int32)), (xLay, I7, L8, (kM R))))))))))))) : sm_wp sm_P S (d + 1) 109 0 [.ref 107, .int x1, .int x2] [] (xLay, I, L, (kM R)) (0, 0) Φ := sm_wp_step (sm_ci0 (h) (fun r3 I1 L2 q15 => ⟨fun q14 => ((q15).1 q14), fun q14 => sm_ci0 (((q15).2 q14)) (fun r6 I4 L5 q13 => ⟨fun q12 => ((q13).1 q12), fun q12 => sm_cv0 (((q13).2 q12)) (fun I7 L8 q11 => ⟨fun q10 => ((q11).1 q10), fun q10 => ((q11).2 q10)⟩)⟩)⟩))
theorem pj_X12_can_6 {S : sm_C} {d : Nat} {Φ : sm_Z → Prop} {I : sm_I} {L : sm_L} {R : sm_R} {x1 : Int32} {x2 : Int32} {x3 : Int32} {x4 : Int32} (h : (((I 107 73) ≤ x4 → Φ (some (.int x3), (xLay, I, L, (kM R)))) ∧ (¬ (I 107 73) ≤ x4 → sm_wp sm_P S d 156 0 [.ref 107, .int x4, .int (0 : Int32)] [] (xLay, I, L, (kM R)) (0, 0) (fun z => ∃ (r3 : Int32) (I1 : sm_I) (L2 : sm_L), z = (some (.int r3), (xLay, I1, L2, (kM R))) ∧ ((r3 = 0 → sm_wp sm_P S (d + 1) 109 6 [.ref 107, .int x1, .int x2, .int x3, .int (x4 + (1 : Int32))] [] (xLay, I1, L2, (kM R)) (0, 0) Φ) ∧ (¬ r3 = 0 → sm_wp sm_P S d 129 0 [.ref 107, .int (x1 + (1 : Int32)), .int (0 : Int32), .int (0 : Int32)] [] (xLay, I1, L2, (kM R)) (0, 0) (fun z => ∃ (r6 : Int32) (I4 : sm_I) (L5 : sm_L), z = (some (.int r6), (xLay, I4, L5, (kM R))) ∧ ((x2 < r6 → sm_wp sm_P S (d + 1) 109 6 [.ref 107, .int x1, .int x2, .int x3, .int (x4 + (1 : Int32))] [] (xLay, I4, L5, (kM R)) (0, 0) Φ) ∧ (¬ x2 < r6 → sm_wp sm_P S d 129 0 [.ref 107, .int (x1 + (1 : Int32)), .int (0 : Int32), .int (1 : Int32)] [] (xLay, I4, L5, (kM R)) (0, 0) (fun z => ∃ (r9 : Int32) (I7 : sm_I) (L8 : sm_L), z = (some (.int r9), (xLay, I7, L8, (kM R))) ∧ ((r9 < x2 → sm_wp sm_P S (d + 1) 109 6 [.ref 107, .int x1, .int x2, .int x3, .int (x4 + (1 : Int32))] [] (xLay, I7, L8, (kM R)) (0, 0) Φ) ∧ (¬ r9 < x2 → sm_wp sm_P S (d + 1) 109 6 [.ref 107, .int x1, .int x2, .int (x3 + (1 : Int32)), .int (x4 + (1 : Int32))] [] (xLay, I7, L8, (kM R)) (0, 0) Φ)))))))))))) : sm_wp sm_P S (d + 1) 109 6 [.ref 107, .int x1, .int x2, .int x3, .int x4] [] (xLay, I, L, (kM R)) (0, 0) Φ := sm_wp_step (⟨fun q16 => ((h).1 q16), fun q16 => sm_ci0 (((h).2 q16)) (fun r3 I1 L2 q15 => ⟨fun q14 => ((q15).1 q14), fun q14 => sm_ci0 (((q15).2 q14)) (fun r6 I4 L5 q13 => ⟨fun q12 => ((q13).1 q12), fun q12 => sm_ci0 (((q13).2 q12)) (fun r9 I7 L8 q11 => ⟨fun q10 => ((q11).1 q10), fun q10 => ((q11).2 q10)⟩)⟩)⟩)⟩)
theorem pj_X12_lays_0 {S : sm_C} {d : Nat} {Φ : sm_Z → Prop} {I : sm_I} {L : sm_L} {R : sm_R} {x1 : Int32} {x2 : Int32} (h : (x2 = 0 ∨ x2 = 1) ∧ ∀ I1 : sm_I, I1 = (sm_up (sm_up I 107 53 x2) 107 68 (0 : Int32)) → ∀ I2 : sm_I, I2 = (sm_up I1 107 67 (0 : Int32)) → sm_wp sm_P S d 208 0 [.ref 107] [] (xLay, I2, L, (kM R)) (0, 0) (fun z => ∃ (r5 : Int32) (I3 : sm_I) (L4 : sm_L), z = (some (.int r5), (xLay, I3, L4, (kM R))) ∧ sm_wp sm_P S d 160 0 [.ref 107, .int r5] [] (xLay, I3, L4, (kM R)) (0, 0) (fun z => ∃ (I6 : sm_I) (L7 : sm_L), z = (none, (xLay, I6, L7, (kM R))) ∧ (vp_in (I6 107 18) 2) ∧ ∀ n9 : Int32, n9 = ((I6 122 (I6 107 18).toNatClampNeg) + (1 : Int32)) → sm_wp sm_P S d 103 0 [.ref 107, .int n9] [] (xLay, I6, L7, (kM R)) (0, 0) (fun z => ∃ (r12 : Int32) (I10 : sm_I) (L11 : sm_L), z = (some (.int r12), (xLay, I10, L11, (kM R))) ∧ ((r12 = 0 → Φ (some (.int (0 : Int32)), (xLay, I10, L11, (kM R)))) ∧ (¬ r12 = 0 → sm_wp sm_P S d 116 0 [.ref 107, .int (0 : Int32), .int (1 : Int32)] [] (xLay, I10, L11, (kM R)) (0, 0) (fun z => ∃ (I13 : sm_I) (L14 : sm_L), z = (none, (xLay, I13, L14, (kM R))) ∧ ∀ I16 : sm_I, I16 = (sm_up I13 107 52 (1 : Int32)) → sm_wp sm_P S (d + 1) 156 3 [.ref 107, .int x1, .int (0 : Int32)] [] (xLay, I16, L14, (kM R)) (0, 0) Φ))))))) : sm_wp sm_P S (d + 1) 156 0 [.ref 107, .int x1, .int x2] [] (xLay, I, L, (kM R)) (0, 0) Φ := sm_wp_step (⟨(h).1, sm_ci0 ((((h).2 _ rfl) _ rfl)) (fun r5 I3 L4 q21 => sm_cv0 (q21) (fun I6 L7 q20 => ⟨(q20).1, sm_ci0 (((q20).2 _ rfl)) (fun r12 I10 L11 q19 => ⟨fun q18 => ⟨Or.inl rfl, ((q19).1 q18)⟩, fun q18 => sm_cv0 (((q19).2 q18)) (fun I13 L14 q17 => (q17 _ rfl))⟩)⟩))⟩)
theorem pj_X12_lays_3 {S : sm_C} {d : Nat} {Φ : sm_Z → Prop} {I : sm_I} {L : sm_L} {R : sm_R} {x1 : Int32} {x3 : Int32} (h : (((I 107 59) ≤ x3 → Φ (some (.int (1 : Int32)), (xLay, I, L, (kM R)))) ∧ (¬ (I 107 59) ≤ x3 → (vp_in x3 70) ∧ (vp_in (((55 : Int32) * x1) + x3) 55100) ∧ ∀ n1 : Int32, n1 = (I 153 (((55 : Int32) * x1) + x3).toNatClampNeg) → sm_wp sm_P S d 115 0 [.ref 107, .int (I 148 x3.toNatClampNeg), .int n1] [] (xLay, I, L, (kM R)) (0, 0) (fun z => ∃ (r4 : Int32) (I2 : sm_I) (L3 : sm_L), z = (some (.int r4), (xLay, I2, L3, (kM R))) ∧ ((r4 = 0 → Φ (some (.int (0 : Int32)), (xLay, I2, L3, (kM R)))) ∧ (¬ r4 = 0 → sm_wp sm_P S (d + 1) 156 3 [.ref 107, .int x1, .int (x3 + (1 : Int32))] [] (xLay, I2, L3, (kM R)) (0, 0) Φ)))))) : sm_wp sm_P S (d + 1) 156 3 [.ref 107, .int x1, .int x3] [] (xLay, I, L, (kM R)) (0, 0) Φ := sm_wp_step (⟨fun q7 => ⟨Or.inr rfl, ((h).1 q7)⟩, fun q7 => ⟨(((h).2 q7)).1, ⟨((((h).2 q7)).2).1, sm_ci0 ((((((h).2 q7)).2).2 _ rfl)) (fun r4 I2 L3 q6 => ⟨fun q5 => ⟨Or.inl rfl, ((q6).1 q5)⟩, fun q5 => ((q6).2 q5)⟩)⟩⟩⟩)
theorem pj_X12_gapNow_0 {S : sm_C} {d : Nat} {Φ : sm_Z → Prop} {I : sm_I} {L : sm_L} {R : sm_R} {x1 : Int32} {x2 : Int32} {x3 : Int32} (h : ((x3 = 0 → ∀ n1 : Int32, n1 = (((169 : Int32) + ((13 : Int32) * x1)) + x2) → (vp_in n1 12000) ∧ Φ (some (.int (-(I 143 n1.toNatClampNeg))), (xLay, I, L, (kM R)))) ∧ (¬ x3 = 0 → ∀ n2 : Int32, n2 = (((169 : Int32) + ((13 : Int32) * x2)) + x1) → (vp_in n2 12000) ∧ Φ (some (.int (I 143 n2.toNatClampNeg)), (xLay, I, L, (kM R)))))) : sm_wp sm_P S d 129 0 [.ref 107, .int x1, .int x2, .int x3] [] (xLay, I, L, (kM R)) (0, 0) Φ := sm_wp_step (⟨fun q3 => ⟨((((h).1 q3) _ rfl)).1, ((((h).1 q3) _ rfl)).2⟩, fun q3 => ⟨((((h).2 q3) _ rfl)).1, ((((h).2 q3) _ rfl)).2⟩⟩)
end
section
/-! THE LAW: the levels of a WAY on both sides (wip/pe/mkl3.py) -/
theorem cl_mem {B B' : List tC} {cc cc' : Nat → Nat → List tC} {ch : Nat → Nat} {k : Nat} (hB : ∀ c, c ∈ B ↔ c ∈ B') (hc : ∀ j, j < k → ∀ c, c ∈ cc j (ch j) ↔ c ∈ cc' j (ch j)) : ∀ c, c ∈ cl B cc ch k ↔ c ∈ cl B' cc' ch k := by
  have e : ∀ k', k' ≤ k → ∀ c, c ∈ cl B cc ch k' ↔ c ∈ cl B' cc' ch k' := by
    intro k'
    induction k' with
    | zero => intro _ c; exact hB c
    | succ k' ih =>
      intro h c
      show c ∈ cc k' (ch k') ++ cl B cc ch k' ↔ c ∈ cc' k' (ch k') ++ cl B' cc' ch k'
      rw [List.mem_append, List.mem_append, hc k' (by omega) c, ih (by omega) c]
  exact e k (Nat.le_refl _)
noncomputable def rwy (I : sm_I) (l w : Nat) : Nat → Nat := (RF I l).2.2.2.2.2.2 w
def rcc (I : sm_I) (l i c : Nat) : List tC := icv (rst I) l ((rxs I l).getD i 0) c
theorem rwy_f {I : sm_I} {l w : Nat} (wf : w < (RF I l).2.2.2.1) : (RF I l).2.2.2.1 ≤ 1000 ∧ (∀ k, k < (rxs I l).length → rwy I l w k < icd (rst I) l ((rxs I l).getD k 0)) ∧ (∀ k, k ≤ (rxs I l).length → ¬ tno ((I 122 l).toNatClampNeg + 1) (cl (baC (rst I) l) (rcc I l) (rwy I l w) k)) ∧ ¬ tno ((I 122 l).toNatClampNeg + 1) (baC (rst I) l) := by
  have g := GT_wf (n := (I 122 l).toNatClampNeg + 1) (m := (rxs I l).length) (B := baC (rst I) l) (cc := rcc I l) (nc := fun j => icd (rst I) l ((rxs I l).getD j 0)) (tf := false)
  have g1 : (∀ i, i < (rxs I l).length → rwy I l w i < icd (rst I) l ((rxs I l).getD i 0)) ∧ fz ((I 122 l).toNatClampNeg + 1) (baC (rst I) l) (rcc I l) (rxs I l).length (rwy I l w) = true := g.2.2.1 w wf
  have nt : ∀ k, k ≤ (rxs I l).length → ¬ tno ((I 122 l).toNatClampNeg + 1) (cl (baC (rst I) l) (rcc I l) (rwy I l w) k) := fun k hk q => by
    have t := fz_f (tno_cg (fun c hc => cl_le k (rxs I l).length hk hc) q)
    rw [g1.2] at t
    exact absurd t (by decide)
  exact ⟨g.2.2.2.2.1.1, g1.1, nt, nt 0 (Nat.zero_le _)⟩
/-- what laying leaves -/
def lyf (I J : sm_I) : Prop := ∀ p j, ¬ (p = 143 ∨ p = 148 ∨ (p = 107 ∧ (j = 51 ∨ j = 52 ∨ j = 53 ∨ j = 59 ∨ j = 67 ∨ j = 68))) → J p j = I p j
section
variable {S : sm_C} {d : Nat} {Φ : sm_Z → Prop} {I : sm_I} {L : sm_L} {R : sm_R}
theorem rx_lays {l w : Nat} {x : Int32} (w0 : rwf I l) (g0 : 0 ≤ (I 107 69).toInt) (g1 : (I 107 69).toInt ≤ 5000) (wf : w < (RF I l).2.2.2.1) (hw : ∀ i, i < (rxs I l).length → I 153 (55 * w + i) = Int32.ofNat (rwy I l w i)) (hx : x.toInt = w) (h : ∀ J, lyf I J → (J 107 51).toInt = (((I 122 l).toNatClampNeg + 1 : Nat) : Int) → (J 107 52).toInt = 1 → J 107 53 = 0 → ttop ((I 122 l).toNatClampNeg + 1) (cl (baC (rst I) l) (rcc I l) (rwy I l w) (rxs I l).length) (mT J 1) → Φ (some (.int 1), (xLay, J, L, kM R))) : sm_wp sm_P S (d + 6) 156 0 [.ref 107, .int x, .int 0] [] (xLay, I, L, kM R) (0, 0) Φ := by
  obtain ⟨⟨w1, w2⟩, w3, w4, w5, w6, w7, w8, w9, w10, w11⟩ := w0
  obtain ⟨f1, f2, f3, f4⟩ := rwy_f wf
  refine pj_X12_lays_0 (d := d + 5) ⟨Or.inl rfl, fun I1 e1 I2 e2 => ?_⟩
  have o2 : ∀ p j, ¬ (p = 107 ∧ (j = 53 ∨ j = 67 ∨ j = 68)) → I2 p j = I p j := fun p j q => by rw [e2, en_up_ne _ _ _ _ (by omega), e1, en_up_ne _ _ _ _ (by omega), en_up_ne _ _ _ _ (by omega)]
  have a53 : I2 107 53 = 0 := by rw [e2, en_up_ne _ _ _ _ (by omega), e1, en_up_ne _ _ _ _ (by omega), en_up_eq]
  have a67 : I2 107 67 = 0 := by rw [e2, en_up_eq]
  have a68 : I2 107 68 = 0 := by rw [e2, en_up_ne _ _ _ _ (by omega), e1, en_up_eq]
  have t2 : tfr (rst I) I2 := fun p j q => by
    unfold rst
    by_cases c : p = 107 ∧ (j = 53 ∨ j = 68)
    · rw [if_pos c]
      rcases c with ⟨rfl, rfl | rfl⟩
      · exact a53
      · exact a68
    · rw [if_neg c]; exact o2 p j (by omega)
  have nb := kl_nat w8.1
  have nm := kl_nat w9.1
  have nt := kl_nat w3.1
  have e125 : I2 125 l = I 125 l := o2 125 l (by omega)
  have e137 : I2 137 = I 137 := funext (fun j => o2 137 j (by omega))
  refine rx_undoubted (s := (I 125 l).toNatClampNeg) (by rw [o2 107 18 (by omega)]; exact w1) w2 (by rw [e125]; exact nb.symm) (by omega) ⟨_, I2, L, rfl, ?_⟩
  rw [e137]
  refine rx_lists (l := l) (s := (I 125 l).toNatClampNeg) (m := (I 107 46).toNatClampNeg) (e := 0) (by rw [o2 107 18 (by omega)]; exact w1) w2 (by rw [e125]; exact nb.symm) (by omega) (by rw [o2 107 46 (by omega)]; exact nm.symm) (by omega) (by rw [a67]; rfl) (by decide) (fun I6 c6 lM6 => ⟨I6, L, rfl, ?_⟩)
  have oo6 : ∀ p j, p ≠ 148 → ¬ (p = 107 ∧ j = 59) → I6 p j = I2 p j := c6
  have e18 : I6 107 18 = I 107 18 := (oo6 107 18 (by omega) (by omega)).trans (o2 107 18 (by omega))
  have nl : (I6 107 18).toNatClampNeg = l := tk_nat (by rw [e18]; exact w1)
  refine ⟨kl_in (by rw [e18]; omega) (by rw [e18]; omega), ?_⟩
  rw [nl, oo6 122 l (by omega) (by omega), o2 122 l (by omega)]
  intro n13 e13
  have q13 : n13.toInt = (((I 122 l).toNatClampNeg + 1 : Nat) : Int) := by rw [e13, ml_in1 (by omega)]; omega
  have t6 : tfr (rst I) I6 := fun p j q => (oo6 p j (by omega) (by omega)).trans (t2 p j q)
  have f6 : ∀ p j, p ≠ 148 → ¬ (p = 107 ∧ (j = 53 ∨ j = 67 ∨ j = 68 ∨ j = 59)) → I6 p j = I p j := fun p j q1 q2 => (oo6 p j q1 (by omega)).trans (o2 p j (by omega))
  have sk6 : ∀ n p, sspk I n p → sspk I6 n p := fun n p k => by
    unfold sspk at k ⊢
    rw [f6 130 p (by omega) (by omega), f6 131 p (by omega) (by omega), f6 132 p (by omega) (by omega), f6 133 p (by omega) (by omega)]; exact k
  have len : (rxs I l).length ≤ 55 := by
    have := itL_len (set := rdb I (I 125 l).toNatClampNeg) (s := (I 125 l).toNatClampNeg) (m := (I 107 46).toNatClampNeg)
    unfold rxs
    omega
  have inx : ∀ k, k < (rxs I l).length → (rxs I l).getD k 0 < (I 125 l).toNatClampNeg ∨ (10 ≤ (rxs I l).getD k 0 ∧ (rxs I l).getD k 0 < 10 + (I 107 46).toNatClampNeg) := fun k hk => itL_in hk
  have lM6' : lM I6 (rxs I l) := lM6
  refine rx_begins (d := d + 1) (l := l) (n := (I 122 l).toNatClampNeg + 1) q13 (by omega) (by omega) (by rw [e18]; exact w1) w2 (by rw [f6 122 l (by omega) (by omega)]; exact w3) (Or.inl (by rw [oo6 107 53 (by omega) (by omega)]; exact a53)) (by rw [f6 134 l (by omega) (by omega)]; exact w4) (fun k hk => by rw [f6 134 l (by omega) (by omega)] at hk; exact sk6 _ _ (w5 k hk)) (by rw [f6 107 54 (by omega) (by omega)]; exact w6) (fun k hk => by
    rw [f6 107 54 (by omega) (by omega)] at hk
    have k := w7 k hk
    unfold mook at k ⊢
    rw [f6 144 _ (by omega) (by omega), f6 145 _ (by omega) (by omega), f6 146 _ (by omega) (by omega), f6 147 _ (by omega) (by omega)]; exact k) (fun r16 I14 z => ⟨r16, I14, L, rfl, ?_⟩)
  obtain ⟨cg, z⟩ := z
  have o14 : ∀ p j, p ≠ 143 → ¬ (p = 107 ∧ (j = 51 ∨ j = 52)) → I14 p j = I6 p j := fun p j q1 q2 => by rw [cg p j (by omega), en_up_ne _ _ _ _ (by omega), en_up_ne _ _ _ _ (by omega)]
  have b51 : I14 107 51 = n13 := by rw [cg 107 51 (by omega), en_up_ne _ _ _ _ (by omega), en_up_eq]
  rw [t_ba t6] at z
  rcases z with ⟨-, z⟩ | ⟨r1, zt⟩
  · exact absurd z f4
  refine ⟨fun q => by rw [r1] at q; exact absurd q (by decide), fun _ => rx_copies (a := 0) (b := 1) kl_0 kl_1 (by omega) (by omega) (by omega) (fun I15 c15 e15 => ⟨I15, L, rfl, fun I16 e16 => ?_⟩)⟩
  have z68 : rst I 107 68 = 0 := if_pos ⟨rfl, Or.inr rfl⟩
  have lt60 : ∀ k, k < (rxs I l).length → (rxs I l).getD k 0 < 60 := fun k hk => by have := inx k hk; omega
  have o16 : ∀ p j, p ≠ 143 → ¬ (p = 107 ∧ (j = 51 ∨ j = 52)) → I16 p j = I6 p j := fun p j q1 q2 => by rw [e16, en_up_ne _ _ _ _ (by omega), c15 p j (by omega)]; exact o14 p j q1 q2
  have c51 : I16 107 51 = n13 := by rw [e16, en_up_ne _ _ _ _ (by omega), c15 107 51 (by omega)]; exact b51
  have c52 : (I16 107 52).toInt = ((1 : Nat) : Int) := by rw [e16, en_up_eq]; rfl
  have c53 : I16 107 53 = 0 := (o16 107 53 (by omega) (by omega)).trans ((oo6 107 53 (by omega) (by omega)).trans a53)
  have T16 : ttop ((I 122 l).toNatClampNeg + 1) (baC (rst I) l) (mT I16 1) := ttop_eq (fun a b ha hb => by
    have m1 : mT I15 1 a b = mT I14 0 a b := mT_cp e15 (by omega) (by omega)
    rw [← m1]
    unfold mT
    rw [e16, en_up_ne _ _ _ _ (by omega)]) zt
  have B16 : rB0 I16 1 ((I 122 l).toNatClampNeg + 1) l := ⟨c52, by omega, by rw [c51]; exact q13, by omega, by rw [o16 107 18 (by omega) (by omega), e18]; exact w1, w2, by rw [o16 122 l (by omega) (by omega), f6 122 l (by omega) (by omega)]; exact w3, Or.inl c53⟩
  have c55 : (55 : Int32).toInt = 55 := by decide
  have m1 : ((55 : Int32) * x).toInt = 55 * (w : Int) := ml_mu c55 hx (by omega) (by omega)
  have lp : ∀ (m k : Nat) (x3 : Int32) (J : sm_I), x3.toInt = k → k + m = (rxs I l).length → chg 1 I16 J → ttop ((I 122 l).toNatClampNeg + 1) (cl (baC (rst I) l) (rcc I l) (rwy I l w) k) (mT J 1) → sm_wp sm_P S (d + 6) 156 3 [.ref 107, .int x, .int x3] [] (xLay, J, L, kM R) (0, 0) Φ := by
    intro m
    induction m with
    | zero =>
      intro k x3 J h3 hm c T
      have e59 : J 107 59 = I6 107 59 := (c 107 59 (by omega)).trans (o16 107 59 (by omega) (by omega))
      refine pj_X12_lays_3 (d := d + 5) ⟨fun _ => h J (fun p j q => ?_) (by rw [c 107 51 (by omega), c51]; exact q13) (by rw [c 107 52 (by omega)]; exact c52) ((c 107 53 (by omega)).trans c53) ?_, fun a => ?_⟩
      · rw [c p j (by omega), o16 p j (by omega) (by omega)]
        exact f6 p j (by omega) (by omega)
      · have : k = (rxs I l).length := by omega
        rw [← this]; exact T
      · have a := kl_nle a
        rw [e59, lM6'.1] at a
        omega
    | succ m ih =>
      intro k x3 J h3 hm c T
      have e59 : J 107 59 = I6 107 59 := (c 107 59 (by omega)).trans (o16 107 59 (by omega) (by omega))
      have n3 := tk_nat h3
      have s3 := ml_in1 (x := x3) (by omega)
      have kl : k < (rxs I l).length := by omega
      have e148 : J 148 k = Int32.ofNat ((rxs I l).getD k 0) := ((c 148 k (by omega)).trans (o16 148 k (by omega) (by omega))).trans (lM6'.2 k kl)
      have tx : ((55 : Int32) * x + x3).toInt = ((55 * w + k : Nat) : Int) := (ml_ad m1 h3 (by omega) (by omega)).trans (by omega)
      have fJ : ∀ p j, p ≠ 143 → p ≠ 148 → ¬ (p = 107 ∧ (j = 51 ∨ j = 52 ∨ j = 53 ∨ j = 67 ∨ j = 68 ∨ j = 59)) → J p j = I p j := fun p j q1 q2 q3 => by
        rw [c p j (by omega), o16 p j (by omega) (by omega)]
        exact f6 p j q2 (by omega)
      have tJ : tfr (rst I) J := fun p j q => by rw [c p j (by omega), o16 p j (by omega) (by omega)]; exact t6 p j q
      have l60 := lt60 k kl
      have cn := f2 k kl
      have e153 : J 153 (55 * w + k) = Int32.ofNat (rwy I l w k) := (fJ 153 _ (by omega) (by omega) (by omega)).trans (hw k kl)
      have icn : icd (rst I) l ((rxs I l).getD k 0) ≤ 4 := by
        unfold icd
        rcases inx k kl with u | ⟨u, v⟩
        · rw [if_pos (by omega), rst_0 _ _ (by omega)]
          have b := w10 (10 * l + (rxs I l).getD k 0) (by omega)
          have := kl_nat b.1
          omega
        · rw [if_neg (by omega), if_pos (by omega)]
          split <;> omega
      refine pj_X12_lays_3 (d := d + 5) ⟨fun a => ?_, fun _ => ⟨kl_in (by omega) (by omega), kl_in (by omega) (by omega), fun n1 en1 => ?_⟩⟩
      · have a := kl_le.mp a
        rw [e59, lM6'.1] at a
        omega
      rw [tk_nat tx, e153] at en1
      rw [n3, e148, en1]
      have ok : iok J l ((I 122 l).toNatClampNeg + 1) ((rxs I l).getD k 0) := by
        have tI : tfr I (fun p j => if p = 107 ∧ (j = 53 ∨ j = 68) then I p j else J p j) := fun p j q => by
          by_cases cc : p = 107 ∧ (j = 53 ∨ j = 68)
          · show (if p = 107 ∧ (j = 53 ∨ j = 68) then I p j else J p j) = I p j
            rw [if_pos cc]
          · show (if p = 107 ∧ (j = 53 ∨ j = 68) then I p j else J p j) = I p j
            rw [if_neg cc]; exact fJ p j (by omega) (by omega) (by omega)
        exact t_iok tI l60 (w11 _ (inx k kl))
      refine rx_choose (d := d + 1) (l := l) (s := (rxs I l).getD k 0) (c := rwy I l w k) (rB0_cg c B16) (Int32.toInt_ofNat_of_lt (by omega)) (Int32.toInt_ofNat_of_lt (by omega)) (fun j hj => by rw [fJ 128 j (by omega) (by omega) (by omega)]; exact w10 j hj) (by rw [t_icd tJ l60]; exact cn) ok (by rw [fJ 107 69 (by omega) (by omega) (by omega)]; exact g0) (by rw [fJ 107 69 (by omega) (by omega) (by omega)]; exact g1) T (fun r J2 z => ⟨r, J2, L, rfl, ?_⟩)
      have ec : icc J l ((rxs I l).getD k 0) (rwy I l w k) = rcc I l k (rwy I l w k) := by
        unfold rcc
        rw [← t_icv tJ z68 l60]
        unfold icv
        rw [if_pos (by rw [t_icd tJ l60]; exact cn)]
      rw [ec] at z
      obtain ⟨c2, z⟩ := z
      rcases z with ⟨-, z⟩ | ⟨r1, z⟩
      · exact absurd z (f3 (k + 1) (by omega))
      · exact ⟨fun q => by rw [r1] at q; exact absurd q (by decide), fun _ => ih (k + 1) _ J2 (by omega) (by omega) (chg_t c c2) z⟩
  exact lp (rxs I l).length 0 0 I16 kl_0 (by omega) chg_0 T16
end
/-- the same constraints on both sides -/
theorem KL {I : sm_I} {L : sm_L} {R : sm_R} {qt l w : Nat} (hq : qt = 12 ∨ qt = 49) (l1 : l ≤ 1) (mm : en_mem ml_tb mlX (xLay, I, L, R)) (td : tdE qt l I) (hd : hdE I) : kn qt I = (I 122 l).toNatClampNeg + 1 ∧ (kys qt I).length = (rxs I l).length ∧ kwy qt I w = rwy I l w ∧ ∀ c, c ∈ cl (kB0 qt I) (kC0 qt I) (kwy qt I w) (kys qt I).length ↔ c ∈ cl (baC (rst I) l) (rcc I l) (rwy I l w) (rxs I l).length := by
  have rw_ := rwE_of hq l1 mm td
  have wm := td.2
  obtain ⟨c2, c3⟩ : I qt 2 = I 122 l ∧ I qt 3 = I 125 l := by
    obtain ⟨⟨a, k1, k2, -⟩, -⟩ := td
    have row : ∀ j, j < 5 → I qt j = a.1 12 j := fun j hj => by
      have h := k1 12 j (by omega) (by omega) (by omega) (by omega)
      rw [show 12 + (qt - 12) = qt by omega] at h; exact h
    exact ⟨(row 2 (by omega)).trans k2.2.2.1, (row 3 (by omega)).trans k2.2.2.2.1⟩
  have c5 := wm.2.1
  have b := ml_cs l1 mm
  have b134 : 0 ≤ (I 134 l).toInt ∧ (I 134 l).toInt ≤ 4 := ml_row mm (p := 134) (n := 2) (q := (0, 4)) (fun _ => rfl) l (by omega)
  have b54 : 0 ≤ (I 107 54).toInt ∧ (I 107 54).toInt ≤ 6 := mm.2.1 107 54 (0, 6) (by decide +kernel)
  have b46 : 0 ≤ (I 107 46).toInt ∧ (I 107 46).toInt ≤ 45 := mm.2.1 107 46 (0, 45) (by decide +kernel)
  have b128 : ∀ j, j < 20 → 0 ≤ (I 128 j).toInt ∧ (I 128 j).toInt ≤ 4 := fun j hj => ml_row mm (p := 128) (n := 20) (q := (0, 4)) (fun _ => rfl) j hj
  obtain ⟨len, it⟩ := items_eq (qt := qt) hd.1 c3 c5 b.2.2.2.1
  have inx : ∀ k, k < (rxs I l).length → (rxs I l).getD k 0 < (I 125 l).toNatClampNeg ∨ (10 ≤ (rxs I l).getD k 0 ∧ (rxs I l).getD k 0 < 10 + (I 107 46).toNatClampNeg) := fun k hk => itL_in hk
  have eF := KR hq l1 mm td hd
  have ew : kwy qt I w = rwy I l w := by
    unfold kwy rwy
    rw [eF]
  refine ⟨by unfold kn; rw [c2], len, ew, ?_⟩
  rw [ew, len]
  refine cl_mem (ba_eq hq rw_ hd c2 b.2.2.1 b134 b54 l1) (fun j hj c => ?_)
  unfold kC0 rcc
  rw [it j hj, (ch_eq hq rw_ wm b.2.2.2.1 b46 b128 l1 (inx j hj)).2]
end
section
/-! THE LAW: what the levels of a WAY tell (wip/pe/mkp6.py) -/
def hv (D : Nat → Nat → Int) (i j : Nat) (m : Int32) : Int := if m = 0 then -(D j i) else D i j
theorem hv_eq {n : Nat} {C C' : List tC} {D D' : Nat → Nat → Int} {i j : Nat} {m : Int32} (T : ttop n C D) (T' : ttop n C' D') (e : ∀ c, c ∈ C ↔ c ∈ C') (hi : i < n) (hj : j < n) : hv D i j m = hv D' i j m := by
  have f := ttop_fun (ttop_cg e T) T'
  unfold hv
  rw [f i j hi hj, f j i hj hi]
def lvD (qt : Nat) (I : sm_I) (x : Int32) (D : Nat → Nat → Int) : Prop := ttop (kn qt I) (cl (kB0 qt I) (kC0 qt I) (kwy qt I x.toNatClampNeg) (kys qt I).length) D
theorem kys55 {Q : Nat} {I : sm_I} (hk : kW Q I) : (kys Q I).length ≤ 55 := by
  have := kitL_len (set := kdb Q I) (s := (I Q 3).toNatClampNeg) (m := (I Q 5).toNatClampNeg)
  have := kl_nat hk.2.1.1
  have := kl_nat hk.2.2.1.1
  have := hk.2.1.2
  have := hk.2.2.1.2
  unfold kys
  omega
theorem inT_at {S : sm_C} {I : sm_I} {L : sm_L} {R : sm_R} {d q : Nat} {Φ : sm_Z → Prop} (hq : q = 12 ∨ q = 49) (eP : kP q R = R) {x : Int32} (h0 : ¬ (0 ≤ x.toInt ∧ x.toInt < (I q 2).toInt) → Φ (some (.int 0), (xLay, I, L, R))) (h1 : 0 ≤ x.toInt → x.toInt < (I q 2).toInt → Φ (some (.int 1), (xLay, I, L, R))) : sm_wp sm_P S d 63 0 [.ref 0, .int x] [] (xLay, I, L, R) (0, 0) Φ := by
  rw [← eP] at h0 h1 ⊢
  exact kp_inT hq h0 h1
theorem kFx12 {I J : sm_I} {L' : sm_L} {R R' : sm_R} (xv : XV12 I R J L' R') : kF12_74 R' = R' := by rw [← xv.2.2.2.2.2.1, kFG12]
/-- levelOf again, behind itself -/
theorem XV12_t {I J K : sm_I} {L1 L2 : sm_L} {R R1 R2 : sm_R} (a : XV12 I R J L1 R1) (b : XV12 J R1 K L2 R2) : XV12 I R K L2 R2 := by
  obtain ⟨a1, a2, a3, a4, a5, a6, a7, a8⟩ := a
  obtain ⟨b1, b2, b3, b4, b5, b6, b7, b8⟩ := b
  have t : ∀ p j, (12 ≤ p ∧ p < 12 + 25) ∨ p = 37 ∨ (41 ≤ p ∧ p ≤ 44) → J p j = I p j := fun p j q => a3 p j (lkC_t (by decide) q)
  rw [kys_cg t, KF_cg (by decide) t] at b4
  exact ⟨b1.trans a1, b2.trans a2, fun p j q => (b3 p j q).trans (a3 p j q), b4, b5, b6, b7, b8⟩
theorem lvm12 {S : sm_C} {d : Nat} {I J : sm_I} {L' : sm_L} {R R' : sm_R} {Φ : sm_Z → Prop} {x : Int32} (g1 : R 0 9 = some 12) (xv : XV12 I R J L' R') (mj : en_mem kl_tb2 klY (xLay, J, L', R')) (c : cGo x (KF 12 I)) (h : ∀ (r : Int32) (K : sm_I) (L2 : sm_L) (R2 : sm_R), XV12 I R K L2 R2 → en_mem kl_tb2 klY (xLay, K, L2, R2) → r.toInt = (kys 12 I).length → lvD 12 I x (nT K (kn 12 I) (kys 12 I).length) → Φ (some (.int r), (xLay, K, L2, R2))) : sm_wp sm_P S (d + 6 + 1) 68 0 [.ref 0, .int x] [] (xLay, J, L', R') (0, 0) Φ := by
  have t : ∀ p j, (12 ≤ p ∧ p < 12 + 25) ∨ p = 37 ∨ (41 ≤ p ∧ p ≤ 44) → J p j = I p j := fun p j q => xv.2.2.1 p j (lkC_t (by decide) q)
  obtain ⟨q, hq', k1, k2, k3⟩ := ky_gk mj
  have k1 : R' 0 9 = some q := k1
  have e : q = 12 := Option.some.inj (k1.symm.trans (xv.1.trans g1))
  subst e
  have A := klk_216 (Sc := S) (d + 6 + 1) (show 7 ≤ d + 6 + 1 by omega) [.ref 0, .int x] (xLay, J, L', R') ⟨⟨rfl, rfl⟩, ⟨rfl, en_crange.1, en_crange.2⟩, trivial⟩ mj ml_pf0
  refine sm_wp_mono (sm_wp_and A (lvX12 (S := S) (d := d) (x := x) (Φ := fun z => en_mem kl_tb2 klY z.2 → Φ z) (ky_dn mj) k1 k2 k3 (fun q _ => absurd c.1 (by omega)) (fun r K L2 R2 x0 xk cs mm => ?_))) (fun z q => q.2 q.1.2.1)
  obtain ⟨e1, e2, e3⟩ := kB0_cg (Q := 12) (by decide) t
  unfold kwy at cs
  rw [e1, e2, e3, kys_cg t, KF_cg (by decide) t] at cs
  rcases cs with ⟨s, e⟩ | ⟨s, ⟨c', e⟩ | ⟨c', e, T⟩⟩
  · rw [c.2.1] at s; exact absurd s (by decide)
  · exact absurd c.2.2 (by omega)
  · exact h r K L2 R2 (XV12_t xv xk) mm e T
theorem dsX12 {S : sm_C} {d : Nat} {I : sm_I} {L : sm_L} {R : sm_R} {Φ : sm_Z → Prop} {lev n i j : Nat} {x1 x2 x3 x4 : Int32} {C : List tC} (eG : kG12_74 R = R) (B : g12_74_B I n) (hl : lev * (n * n) + n * n ≤ 7381) (l1 : lev ≤ 100) (h1 : x1.toInt = lev) (hi : (x2 + 1).toInt = i) (hj : (x3 + 1).toInt = j) (in_ : i < n) (jn : j < n) (T : ttop n C (g12_74_T I n lev)) (h : ∀ r : Int32, r.toInt = hv (g12_74_T I n lev) i j x4 → Φ (some (.int r), (xLay, I, L, R))) : sm_wp sm_P S (d + 2) 224 0 [.ref 74, .int x1, .int x2, .int x3, .int x4] [] (xLay, I, L, R) (0, 0) Φ := by
  rw [← eG] at h ⊢
  refine pg12_74_X2_distance_0 (d := d + 1) ⟨fun e => g12_74_rc (d := d) B hl l1 h1 hj hi jn in_ ⟨_, I, L, rfl, h _ ?_⟩, fun e => g12_74_rc (d := d) B hl l1 h1 hi hj in_ jn ⟨_, I, L, rfl, h _ ?_⟩⟩
  · have b : -1440 ≤ (I 76 (tix n lev j i)).toInt ∧ (I 76 (tix n lev j i)).toInt ≤ 1440 := ttop_b T j i jn in_
    unfold hv
    rw [if_pos e, Int32.toInt_neg]
    show _ = -(I 76 (tix n lev j i)).toInt
    exact en_bmod (by omega) (by omega) (Or.inl rfl)
  · unfold hv
    rw [if_neg e]; rfl
theorem mnX12 {S : sm_C} {d : Nat} {I : sm_I} {L : sm_L} {R : sm_R} {Φ : sm_Z → Prop} {lev n i : Nat} {x1 x2 x4 : Int32} {C : List tC} (eG : kG12_74 R = R) (B : g12_74_B I n) (hl : lev * (n * n) + n * n ≤ 7381) (l1 : lev ≤ 100) (h1 : x1.toInt = lev) (hi : (x2 + 1).toInt = i) (in_ : i < n) (T : ttop n C (g12_74_T I n lev)) (h : ∀ r : Int32, r.toInt = hv (g12_74_T I n lev) i 0 x4 → Φ (some (.int r), (xLay, I, L, R))) : sm_wp sm_P S (d + 3) 231 0 [.ref 74, .int x1, .int x2, .int x4] [] (xLay, I, L, R) (0, 0) Φ := by
  have g : sm_wp sm_P S (d + 3) 231 0 [.ref 74, .int x1, .int x2, .int x4] [] (xLay, I, L, kG12_74 R) (0, 0) Φ := by
    refine pg12_74_X2_minute_0 (d := d + 2) ?_
    rw [eG]
    exact dsX12 (d := d) eG B hl l1 h1 hi (by decide) in_ (by omega) T (fun r hr => ⟨r, I, L, rfl, h r hr⟩)
  rw [eG] at g
  exact g
/-- what a level's readers need -/
theorem rdX12 {I J : sm_I} {L' : sm_L} {R R' : sm_R} (hk : kW 12 I) (xv : XV12 I R J L' R') : g12_74_B J (kn 12 I) ∧ (kys 12 I).length * (kn 12 I * kn 12 I) + kn 12 I * kn 12 I ≤ 7381 ∧ (kys 12 I).length ≤ 100 ∧ kn 12 I = (I 12 2).toNatClampNeg + 1 := by
  have t : ∀ p j, (12 ≤ p ∧ p < 12 + 25) ∨ p = 37 ∨ (41 ≤ p ∧ p ≤ 44) → J p j = I p j := fun p j q => xv.2.2.1 p j (lkC_t (by decide) q)
  obtain ⟨-, -, e3⟩ := kB0_cg (Q := 12) (by decide) t
  have b : nB J (kn 12 J) := xv.2.2.2.2.1.1
  rw [e3] at b
  have l := kys55 hk
  exact ⟨b, cap12 b.2.2.1 l, by omega, rfl⟩
theorem kFx49 {I J : sm_I} {L' : sm_L} {R R' : sm_R} (xv : XV49 I R J L' R') : kF49_74 R' = R' := by rw [← xv.2.2.2.2.2.1, kFG49]
/-- levelOf again, behind itself -/
theorem XV49_t {I J K : sm_I} {L1 L2 : sm_L} {R R1 R2 : sm_R} (a : XV49 I R J L1 R1) (b : XV49 J R1 K L2 R2) : XV49 I R K L2 R2 := by
  obtain ⟨a1, a2, a3, a4, a5, a6, a7, a8⟩ := a
  obtain ⟨b1, b2, b3, b4, b5, b6, b7, b8⟩ := b
  have t : ∀ p j, (49 ≤ p ∧ p < 49 + 25) ∨ p = 37 ∨ (41 ≤ p ∧ p ≤ 44) → J p j = I p j := fun p j q => a3 p j (lkC_t (by decide) q)
  rw [kys_cg t, KF_cg (by decide) t] at b4
  exact ⟨b1.trans a1, b2.trans a2, fun p j q => (b3 p j q).trans (a3 p j q), b4, b5, b6, b7, b8⟩
theorem lvm49 {S : sm_C} {d : Nat} {I J : sm_I} {L' : sm_L} {R R' : sm_R} {Φ : sm_Z → Prop} {x : Int32} (g1 : R 0 9 = some 49) (xv : XV49 I R J L' R') (mj : en_mem kl_tb2 klY (xLay, J, L', R')) (c : cGo x (KF 49 I)) (h : ∀ (r : Int32) (K : sm_I) (L2 : sm_L) (R2 : sm_R), XV49 I R K L2 R2 → en_mem kl_tb2 klY (xLay, K, L2, R2) → r.toInt = (kys 49 I).length → lvD 49 I x (nT K (kn 49 I) (kys 49 I).length) → Φ (some (.int r), (xLay, K, L2, R2))) : sm_wp sm_P S (d + 6 + 1) 68 0 [.ref 0, .int x] [] (xLay, J, L', R') (0, 0) Φ := by
  have t : ∀ p j, (49 ≤ p ∧ p < 49 + 25) ∨ p = 37 ∨ (41 ≤ p ∧ p ≤ 44) → J p j = I p j := fun p j q => xv.2.2.1 p j (lkC_t (by decide) q)
  obtain ⟨q, hq', k1, k2, k3⟩ := ky_gk mj
  have k1 : R' 0 9 = some q := k1
  have e : q = 49 := Option.some.inj (k1.symm.trans (xv.1.trans g1))
  subst e
  have A := klk_216 (Sc := S) (d + 6 + 1) (show 7 ≤ d + 6 + 1 by omega) [.ref 0, .int x] (xLay, J, L', R') ⟨⟨rfl, rfl⟩, ⟨rfl, en_crange.1, en_crange.2⟩, trivial⟩ mj ml_pf0
  refine sm_wp_mono (sm_wp_and A (lvX49 (S := S) (d := d) (x := x) (Φ := fun z => en_mem kl_tb2 klY z.2 → Φ z) (ky_dn mj) k1 k2 k3 (fun q _ => absurd c.1 (by omega)) (fun r K L2 R2 x0 xk cs mm => ?_))) (fun z q => q.2 q.1.2.1)
  obtain ⟨e1, e2, e3⟩ := kB0_cg (Q := 49) (by decide) t
  unfold kwy at cs
  rw [e1, e2, e3, kys_cg t, KF_cg (by decide) t] at cs
  rcases cs with ⟨s, e⟩ | ⟨s, ⟨c', e⟩ | ⟨c', e, T⟩⟩
  · rw [c.2.1] at s; exact absurd s (by decide)
  · exact absurd c.2.2 (by omega)
  · exact h r K L2 R2 (XV49_t xv xk) mm e T
theorem dsX49 {S : sm_C} {d : Nat} {I : sm_I} {L : sm_L} {R : sm_R} {Φ : sm_Z → Prop} {lev n i j : Nat} {x1 x2 x3 x4 : Int32} {C : List tC} (eG : kG49_74 R = R) (B : g49_74_B I n) (hl : lev * (n * n) + n * n ≤ 7381) (l1 : lev ≤ 100) (h1 : x1.toInt = lev) (hi : (x2 + 1).toInt = i) (hj : (x3 + 1).toInt = j) (in_ : i < n) (jn : j < n) (T : ttop n C (g49_74_T I n lev)) (h : ∀ r : Int32, r.toInt = hv (g49_74_T I n lev) i j x4 → Φ (some (.int r), (xLay, I, L, R))) : sm_wp sm_P S (d + 2) 224 0 [.ref 74, .int x1, .int x2, .int x3, .int x4] [] (xLay, I, L, R) (0, 0) Φ := by
  rw [← eG] at h ⊢
  refine pg49_74_X2_distance_0 (d := d + 1) ⟨fun e => g49_74_rc (d := d) B hl l1 h1 hj hi jn in_ ⟨_, I, L, rfl, h _ ?_⟩, fun e => g49_74_rc (d := d) B hl l1 h1 hi hj in_ jn ⟨_, I, L, rfl, h _ ?_⟩⟩
  · have b : -1440 ≤ (I 76 (tix n lev j i)).toInt ∧ (I 76 (tix n lev j i)).toInt ≤ 1440 := ttop_b T j i jn in_
    unfold hv
    rw [if_pos e, Int32.toInt_neg]
    show _ = -(I 76 (tix n lev j i)).toInt
    exact en_bmod (by omega) (by omega) (Or.inl rfl)
  · unfold hv
    rw [if_neg e]; rfl
theorem mnX49 {S : sm_C} {d : Nat} {I : sm_I} {L : sm_L} {R : sm_R} {Φ : sm_Z → Prop} {lev n i : Nat} {x1 x2 x4 : Int32} {C : List tC} (eG : kG49_74 R = R) (B : g49_74_B I n) (hl : lev * (n * n) + n * n ≤ 7381) (l1 : lev ≤ 100) (h1 : x1.toInt = lev) (hi : (x2 + 1).toInt = i) (in_ : i < n) (T : ttop n C (g49_74_T I n lev)) (h : ∀ r : Int32, r.toInt = hv (g49_74_T I n lev) i 0 x4 → Φ (some (.int r), (xLay, I, L, R))) : sm_wp sm_P S (d + 3) 231 0 [.ref 74, .int x1, .int x2, .int x4] [] (xLay, I, L, R) (0, 0) Φ := by
  have g : sm_wp sm_P S (d + 3) 231 0 [.ref 74, .int x1, .int x2, .int x4] [] (xLay, I, L, kG49_74 R) (0, 0) Φ := by
    refine pg49_74_X2_minute_0 (d := d + 2) ?_
    rw [eG]
    exact dsX49 (d := d) eG B hl l1 h1 hi (by decide) in_ (by omega) T (fun r hr => ⟨r, I, L, rfl, h r hr⟩)
  rw [eG] at g
  exact g
/-- what a level's readers need -/
theorem rdX49 {I J : sm_I} {L' : sm_L} {R R' : sm_R} (hk : kW 49 I) (xv : XV49 I R J L' R') : g49_74_B J (kn 49 I) ∧ (kys 49 I).length * (kn 49 I * kn 49 I) + kn 49 I * kn 49 I ≤ 7381 ∧ (kys 49 I).length ≤ 100 ∧ kn 49 I = (I 49 2).toNatClampNeg + 1 := by
  have t : ∀ p j, (49 ≤ p ∧ p < 49 + 25) ∨ p = 37 ∨ (41 ≤ p ∧ p ≤ 44) → J p j = I p j := fun p j q => xv.2.2.1 p j (lkC_t (by decide) q)
  obtain ⟨-, -, e3⟩ := kB0_cg (Q := 49) (by decide) t
  have b : nB J (kn 49 J) := xv.2.2.2.2.1.1
  rw [e3] at b
  have l := kys55 hk
  exact ⟨b, cap49 b.2.2.1 l, by omega, rfl⟩
section
variable {S : sm_C} {I : sm_I} {L : sm_L} {R : sm_R} {r : Int32}
theorem rx_gn {d : Nat} {Φ : sm_Z → Prop} {J : sm_I} {n i j : Nat} {x1 x2 x3 : Int32} {C : List tC} (h1 : x1.toInt = i) (h2 : x2.toInt = j) (n12 : n ≤ 12) (in_ : i < n) (jn : j < n) (T : ttop n C (mT J 1)) (h : ∀ r : Int32, r.toInt = hv (mT J 1) i j x3 → Φ (some (.int r), (xLay, J, L, kM R))) : sm_wp sm_P S d 129 0 [.ref 107, .int x1, .int x2, .int x3] [] (xLay, J, L, kM R) (0, 0) Φ := by
  have c13 : (13 : Int32).toInt = 13 := by decide
  have c169 : (169 : Int32).toInt = 169 := by decide
  have m1 : ((13 : Int32) * x1).toInt = 13 * (i : Int) := ml_mu c13 h1 (by omega) (by omega)
  have m2 : ((13 : Int32) * x2).toInt = 13 * (j : Int) := ml_mu c13 h2 (by omega) (by omega)
  have a1 : ((169 : Int32) + (13 : Int32) * x1).toInt = 169 + 13 * (i : Int) := ml_ad c169 m1 (by omega) (by omega)
  have a2 : ((169 : Int32) + (13 : Int32) * x2).toInt = 169 + 13 * (j : Int) := ml_ad c169 m2 (by omega) (by omega)
  refine pj_X12_gapNow_0 ⟨fun e n1 e1 => ?_, fun e n1 e1 => ?_⟩
  · have q : n1.toInt = ((169 * 1 + 13 * i + j : Nat) : Int) := by rw [e1]; exact (ml_ad a1 h2 (by omega) (by omega)).trans (by omega)
    refine ⟨kl_in (by omega) (by omega), h _ ?_⟩
    have b : -1440 ≤ (J 143 (169 * 1 + 13 * i + j)).toInt ∧ (J 143 (169 * 1 + 13 * i + j)).toInt ≤ 1440 := ttop_b T j i jn in_
    unfold hv
    rw [if_pos e, tk_nat q, Int32.toInt_neg]
    show _ = -(J 143 (169 * 1 + 13 * i + j)).toInt
    exact en_bmod (by omega) (by omega) (Or.inl rfl)
  · have q : n1.toInt = ((169 * 1 + 13 * j + i : Nat) : Int) := by rw [e1]; exact (ml_ad a2 h1 (by omega) (by omega)).trans (by omega)
    refine ⟨kl_in (by omega) (by omega), h _ ?_⟩
    unfold hv
    rw [if_neg e, tk_nat q]; rfl
/-- a WAY that the reference knows is laid -/
def rlD (I0 : sm_I) (l : Nat) (x : Int32) (D : Nat → Nat → Int) : Prop := ttop ((I0 122 l).toNatClampNeg + 1) (cl (baC (rst I0) l) (rcc I0 l) (rwy I0 l x.toNatClampNeg) (rxs I0 l).length) D
theorem rx_lyJ {d : Nat} {Φ : sm_Z → Prop} {I0 : sm_I} {L0 : sm_L} {R0 : sm_R} {x : Int32} (hJ : lw_J I0 L0 R0) (o : ∀ p j, 107 ≤ p → I p j = I0 p j ∧ R p j = R0 p j) {qt qi l : Nat} (hrf : rfE qt qi l I0 R0) {J : sm_I} (f : ∀ p j, (p = 107 ∧ (j = 18 ∨ j = 46 ∨ j = 54 ∨ j = 69)) ∨ ((118 ≤ p ∧ p ≤ 142) ∧ p ≠ 138) ∨ (144 ≤ p ∧ p ≤ 147) → J p j = I p j) (b69 : 0 ≤ (I 107 69).toInt ∧ (I 107 69).toInt ≤ 1441) (k : gor (rxs I l) (KF qt I0) J) (c : cGo x (KF qt I0)) (h : ∀ J2, lyf J J2 → rlD I0 l x (mT J2 1) → Φ (some (.int 1), (xLay, J2, L, kM R))) : sm_wp sm_P S (d + 6) 156 0 [.ref 107, .int x, .int 0] [] (xLay, J, L, kM R) (0, 0) Φ := by
  have t : ∀ p j, (p = 107 ∧ (j = 18 ∨ j = 46 ∨ j = 54)) ∨ ((118 ≤ p ∧ p ≤ 142) ∧ p ≠ 138) ∨ (144 ≤ p ∧ p ≤ 147) → J p j = I0 p j := fun p j q => (f p j (by omega)).trans (o p j (by omega)).1
  have w0 : rwf I0 l := (GG_at hJ hrf).2.2.2.2
  have eF : RF J l = RF I0 l := RF_cg w0.2.2.2.2.2.2.1 w0.2.2.2.2.2.2.2.1 t
  have eK : KF qt I0 = RF I0 l := RF_at hJ.1 hrf
  have ex : rxs J l = rxs I0 l := rxs_cg t
  have exI : rxs I l = rxs I0 l := rx_it o l
  have e1 : baC (rst J) l = baC (rst I0) l := t_ba (rst_t t) l
  have z : rst I0 107 68 = 0 := if_pos ⟨rfl, Or.inr rfl⟩
  have nb := kl_nat w0.2.2.2.2.2.2.1.1
  have nm := kl_nat w0.2.2.2.2.2.2.2.1.1
  have b8 := w0.2.2.2.2.2.2.1
  have b9 := w0.2.2.2.2.2.2.2.1
  have lt60 : ∀ i, (rxs I0 l).getD i 0 < 60 := fun i => by
    by_cases hi : i < (rxs I0 l).length
    · have := itL_in (show i < (itL _ _ _ 0).length from hi)
      unfold rxs
      omega
    · rw [List.getD_eq_getElem?_getD, List.getElem?_eq_none (by omega)]
      decide
  have e2 : rcc J l = rcc I0 l := by
    funext i c
    unfold rcc
    rw [ex]
    exact t_icv (rst_t t) z (lt60 i) c
  have e3 : rwy J l = rwy I0 l := by
    funext w
    unfold rwy
    rw [eF]
  have e4 : J 122 l = I0 122 l := t 122 l (by omega)
  have e69 : J 107 69 = I 107 69 := f 107 69 (by omega)
  have nx := kl_nat c.1
  have cf := c.2.2
  refine rx_lays (rwf_cg t w0) (by rw [e69]; exact b69.1) (by rw [e69]; omega) (by rw [eF, ← eK]; omega) (fun i hi => ?_) nx.symm (fun J2 f2 _ _ _ T => h J2 f2 ?_)
  · rw [ex] at hi
    unfold rwy
    rw [eF, ← eK]
    exact k.2.2.2.2 x.toNatClampNeg i (by omega) (by rw [exI]; exact hi)
  · rw [e1, e2, e3, e4, ex] at T
    exact T
theorem gofr_ly {J J2 : sm_I} (f : gofr I J) (g : lyf J J2) : gofr I J2 := fun p j q => (g p j (by omega)).trans (f p j q)
theorem gor_ly {J J2 : sm_I} {xs : List Nat} {F : ss} (k : gor xs F J) (g : lyf J J2) : gor xs F J2 := by
  obtain ⟨k1, k2, k3, k4, k5⟩ := k
  refine ⟨by rw [g 107 71 (by omega)]; exact k1, by rw [g 107 72 (by omega)]; exact k2, by rw [g 107 73 (by omega)]; exact k3, fun i hi h1 => ?_, fun w i hw hi => ?_⟩
  · rw [g 154 i (by omega), g 155 i (by omega), g 156 i (by omega)]; exact k4 i hi h1
  · rw [g 153 _ (by omega)]; exact k5 w i hw hi
end
end
section
/-! THE LAW: pairs out of the levels of a WAY: hour (wip/pe/mkp6.py) -/
section
variable {S : sm_C} {I : sm_I} {L : sm_L} {R : sm_R} {r : Int32}
end
end
section
/-! THE LAW: pairs out of the levels of a WAY: gap (wip/pe/mkp6.py) -/
section
variable {S : sm_C} {I : sm_I} {L : sm_L} {R : sm_R} {r : Int32}
end
end
section
/-! THE LAW: all WAYS' levels (wip/pe/mkp7.py) -/
noncomputable def tD (n : Nat) (C : List tC) : Nat → Nat → Int := @dite _ (∃ D, ttop n C D) (Classical.propDecidable _) (fun h => Classical.choose h) (fun _ _ _ => 0)
theorem tD_ok {n : Nat} {C : List tC} {D : Nat → Nat → Int} (h : ttop n C D) : ttop n C (tD n C) := by
  have e : ∃ D, ttop n C D := ⟨D, h⟩
  have z : tD n C = Classical.choose e := @dif_pos _ (Classical.propDecidable _) e _ _ _
  rw [z]
  exact Classical.choose_spec e
noncomputable def kv (qt : Nat) (I : sm_I) (m : Int32) (i j w : Nat) : Int32 := Int32.ofInt (hv (tD (kn qt I) (cl (kB0 qt I) (kC0 qt I) (kwy qt I w) (kys qt I).length)) i j m)
/-- whoever reads it finds that -/
theorem kv_at {qt : Nat} {I : sm_I} {m r : Int32} {i j w : Nat} {C : List tC} {D : Nat → Nat → Int} (e : ∀ c, c ∈ C ↔ c ∈ cl (kB0 qt I) (kC0 qt I) (kwy qt I w) (kys qt I).length) (T : ttop (kn qt I) C D) (hi : i < kn qt I) (hj : j < kn qt I) (hr : r.toInt = hv D i j m) : r = kv qt I m i j w := by
  have q := hv_eq (m := m) T (tD_ok (ttop_cg e T)) e hi hj
  unfold kv
  rw [← q, ← hr, Int32.ofInt_toInt]
def es (m o x : Int32) : Int32 := if o = -2 then x else if m = 0 then (if o ≤ x then o else x) else (if x ≤ o then o else x)
def cs_ (a b t o : Int32) : Int32 := if t < a then o else if b < t then o else o + 1
def cng (a b : Nat → Int32) (t : Int32) : Nat → Nat → Int32 → Int32
  | 0, _, o => o
  | n + 1, w, o => cng a b t n (w + 1) (cs_ (a w) (b w) t o)
theorem igv12 {S : sm_C} {d : Nat} {I : sm_I} {L : sm_L} {R : sm_R} {Φ : sm_Z → Prop} (hI : lw_J I L R) (hq : R 0 9 = some 12) (h : ∀ (J : sm_I) (L' : sm_L) (R' : sm_R), XV12 I R J L' R' → en_mem kl_tb2 klY (xLay, J, L', R') → Φ (some (.int (if (KF 12 I).2.2.2.2.1 = true then 0 else 1)), (xLay, J, L', R'))) : sm_wp sm_P S (d + 6) 56 0 [.ref 0] [] (xLay, I, L, kF12_74 R) (0, 0) Φ := by
  refine igm12 hI hq (fun J L' xg c12 mj => h J L' _ ?_ mj)
  obtain ⟨q, -, k1, -, k3⟩ := ky_gk mj
  have k1 : some 12 = some q := k1
  have e : 12 = q := Option.some.inj k1
  subst e
  rcases k3 with k3 | ⟨k3, -, k5⟩
  · exact absurd k3 c12
  · exact ⟨xg.1, xg.2.1, xg.2.2.1, xg.2.2.2, k5, kGG12 R, c12, k3⟩
theorem igv49 {S : sm_C} {d : Nat} {I : sm_I} {L : sm_L} {R : sm_R} {Φ : sm_Z → Prop} (hI : lw_J I L R) (hq : R 0 9 = some 49) (h : ∀ (J : sm_I) (L' : sm_L) (R' : sm_R), XV49 I R J L' R' → en_mem kl_tb2 klY (xLay, J, L', R') → Φ (some (.int (if (KF 49 I).2.2.2.2.1 = true then 0 else 1)), (xLay, J, L', R'))) : sm_wp sm_P S (d + 6) 56 0 [.ref 0] [] (xLay, I, L, kF49_74 R) (0, 0) Φ := by
  refine igm49 hI hq (fun J L' xg c12 mj => h J L' _ ?_ mj)
  obtain ⟨q, -, k1, -, k3⟩ := ky_gk mj
  have k1 : some 49 = some q := k1
  have e : 49 = q := Option.some.inj k1
  subst e
  rcases k3 with k3 | ⟨k3, -, k5⟩
  · exact absurd k3 c12
  · exact ⟨xg.1, xg.2.1, xg.2.2.1, xg.2.2.2, k5, kGG49 R, c12, k3⟩
/-- the reference's next WAY -/
theorem rx_lyN {S : sm_C} {I : sm_I} {L : sm_L} {R : sm_R} {d w : Nat} {Φ : sm_Z → Prop} {I0 : sm_I} {L0 : sm_L} {R0 : sm_R} {x : Int32} (hJ : lw_J I0 L0 R0) (o : ∀ p j, 107 ≤ p → I p j = I0 p j ∧ R p j = R0 p j) {qt qi l : Nat} (hrf : rfE qt qi l I0 R0) {J : sm_I} (f : gofr I J) (b69 : 0 ≤ (I 107 69).toInt ∧ (I 107 69).toInt ≤ 1441) (k : gor (rxs I l) (KF qt I0) J) (s : (KF qt I0).2.2.2.2.1 = false) (hx : x.toInt = w) (hw : w < (KF qt I0).2.2.2.1) (h : ∀ J2, gofr I J2 → gor (rxs I l) (KF qt I0) J2 → (∃ C, (∀ c, c ∈ C ↔ c ∈ cl (kB0 qt I0) (kC0 qt I0) (kwy qt I0 w) (kys qt I0).length) ∧ ttop (kn qt I0) C (mT J2 1)) → Φ (some (.int 1), (xLay, J2, L, kM R))) : sm_wp sm_P S (d + 6) 156 0 [.ref 107, .int x, .int 0] [] (xLay, J, L, kM R) (0, 0) Φ := by
  obtain ⟨-, n0, tp, hd, qt', qi', l', hrf', htd⟩ := id hJ.1
  have e1 : qt' = qt := Option.some.inj (hrf'.2.2.1.symm.trans hrf.2.2.1)
  have e2 : l' = l := by have := hrf'.2.2.2.2; have := hrf.2.2.2.2; omega
  subst e1
  subst e2
  have hq : qt' = 12 ∨ qt' = 49 := by have := hrf.1; omega
  have kl := KL (w := x.toNatClampNeg) hq hrf.2.1 n0 htd hd
  refine rx_lyJ hJ o hrf (fun p j q => f p j (by omega)) b69 k ⟨by omega, s, by omega⟩ (fun J2 f2 T => h J2 (gofr_ly f f2) (gor_ly k f2) ⟨_, fun c => ?_, by rw [kl.1]; exact T⟩)
  have e := kl.2.2.2 c
  rw [tk_nat hx] at e
  rw [tk_nat hx]
  exact e.symm
end
section
/-! THE LAW: pairs out of all WAYS' levels: ends (wip/pe/mkp7.py) -/
section
variable {S : sm_C} {I : sm_I} {L : sm_L} {R : sm_R} {r : Int32}
end
end
section
/-! THE LAW: pairs out of all WAYS' levels: can (wip/pe/mkp7.py) -/
section
variable {S : sm_C} {I : sm_I} {L : sm_L} {R : sm_R} {r : Int32}
def XcanK (y t : Int32) (I : sm_I) (_ : sm_L) (R : sm_R) (r : Int32) (I1 : sm_I) (_ : sm_L) (R1 : sm_R) : Prop := ∃ qt, R 0 9 = some qt ∧ XF I R I1 R1 ∧ (¬ (0 ≤ y.toInt ∧ y.toInt < (I qt 2).toInt) ∨ ¬ (0 ≤ t.toInt ∧ t.toInt ≤ 1440) → r = -1) ∧ (0 ≤ y.toInt → y.toInt < (I qt 2).toInt → 0 ≤ t.toInt → t.toInt ≤ 1440 → ((KF qt I).2.2.2.2.1 = true → r = -3) ∧ ((KF qt I).2.2.2.2.1 = false → r = cng (kv qt I 0 (y.toNatClampNeg + 1) 0) (kv qt I 1 (y.toNatClampNeg + 1) 0) t (KF qt I).2.2.2.1 0 0))
theorem cnK12 {Φ : sm_Z → Prop} {y t : Int32} (hk : kW 12 I) (g1 : R 0 9 = some 12) (s : (KF 12 I).2.2.2.2.1 = false) (a : 0 ≤ y.toInt) (b : y.toInt < (I 12 2).toInt) : ∀ (n w : Nat) (x3 x4 O : Int32) (J : sm_I) (L' : sm_L) (R' : sm_R), XV12 I R J L' R' → en_mem kl_tb2 klY (xLay, J, L', R') → x4.toInt = w → w + n = (KF 12 I).2.2.2.1 → x3 = O → (∀ (J : sm_I) (L' : sm_L) (R' : sm_R), XV12 I R J L' R' → Φ (some (.int (cng (kv 12 I 0 (y.toNatClampNeg + 1) 0) (kv 12 I 1 (y.toNatClampNeg + 1) 0) t n w O)), (xLay, J, L', R'))) → sm_wp sm_P S (51 + 6 + 1 + 1) 34 6 [.ref 0, .int y, .int t, .int x3, .int x4] [] (xLay, J, L', R') (0, 0) Φ := by
  have f1 : (KF 12 I).2.2.2.1 ≤ 1000 := GT_wf.2.2.2.2.1.1
  have ny := kl_nat a
  have n2 := kl_nat hk.1.1
  have bb := hk.1.2
  intro n
  induction n with
  | zero =>
    intro w x3 x4 O J L' R' xv mj h4 hw hO h
    have a14 := xv.2.2.2.1.2.1.2.1
    rw [← kFx12 xv]
    refine ph12_X11_can_6 (d := 51 + 6 + 1) ⟨fun _ => ?_, fun c => ?_⟩
    · rw [kFx12 xv, hO]; exact h J L' R' xv
    · have c := kl_nle c
      rw [a14] at c
      omega
  | succ n ih =>
    intro w x3 x4 O J L' R' xv mj h4 hw hO h
    have a14 := xv.2.2.2.1.2.1.2.1
    have s4 := ml_in1 (x := x4) (by omega)
    rw [← kFx12 xv]
    refine ph12_X11_can_6 (d := 51 + 6 + 1) ⟨fun c => ?_, fun _ => ?_⟩
    · have c := kl_le.mp c
      rw [a14] at c
      omega
    rw [kFx12 xv]
    refine lvm12 (d := 51) g1 xv mj ⟨by omega, s, by omega⟩ (fun r K L2 R2 xk mk er T => ⟨r, K, L2, R2, by rw [kFx12 xk], ?_⟩)
    rw [kFx12 xk]
    obtain ⟨b1, b2, b3, b4⟩ := rdX12 hk xk
    have T1 : ttop (kn 12 I) (cl (kB0 12 I) (kC0 12 I) (kwy 12 I x4.toNatClampNeg) (kys 12 I).length) (g12_74_T K (kn 12 I) (kys 12 I).length) := T
    have T2 := T1
    rw [tk_nat h4] at T2
    have go : ∀ x : Int32, x = cs_ (kv 12 I 0 (y.toNatClampNeg + 1) 0 w) (kv 12 I 1 (y.toNatClampNeg + 1) 0 w) t O → sm_wp sm_P S (51 + 6 + 1 + 1) 34 6 [.ref 0, .int y, .int t, .int x, .int (x4 + (1 : Int32))] [] (xLay, K, L2, R2) (0, 0) Φ := fun x ex => ih (w + 1) x _ _ K L2 R2 xk mk (by omega) (by omega) ex h
    refine mnX12 (d := 55) xk.2.2.2.2.2.1 b1 b2 b3 er (i := y.toNatClampNeg + 1) (by rw [ml_in1 (by omega)]; omega) (by rw [b4]; omega) T1 (fun r2 hr => ⟨r2, K, L2, R2, by rw [kFx12 xk], ?_⟩)
    have ev : r2 = kv 12 I 0 (y.toNatClampNeg + 1) 0 w := kv_at (fun c => Iff.rfl) T2 (by rw [b4]; omega) (by omega) hr
    rw [kFx12 xk]
    refine ⟨fun c => go _ ?_, fun c => mnX12 (d := 55) xk.2.2.2.2.2.1 b1 b2 b3 er (i := y.toNatClampNeg + 1) (by rw [ml_in1 (by omega)]; omega) (by rw [b4]; omega) T1 (fun r3 hr3 => ⟨r3, K, L2, R2, by rw [kFx12 xk], ?_⟩)⟩
    · unfold cs_
      rw [← hO, ← ev, if_pos c]
    have ev3 : r3 = kv 12 I 1 (y.toNatClampNeg + 1) 0 w := kv_at (fun c => Iff.rfl) T2 (by rw [b4]; omega) (by omega) hr3
    rw [kFx12 xk]
    refine ⟨fun c3 => go _ ?_, fun c3 => go _ ?_⟩
    · unfold cs_
      rw [← hO, ← ev, ← ev3, if_neg c, if_pos c3]
    · unfold cs_
      rw [← hO, ← ev, ← ev3, if_neg c, if_neg c3]
theorem isM12 {d : Nat} {Φ : sm_Z → Prop} (eP : kP 12 R = R) {x : Int32} (h0 : ¬ (0 ≤ x.toInt ∧ x.toInt ≤ 1440) → Φ (some (.int 0), (xLay, I, L, R))) (h1 : 0 ≤ x.toInt → x.toInt ≤ 1440 → Φ (some (.int 1), (xLay, I, L, R))) : sm_wp sm_P S d 58 0 [.int x] [] (xLay, I, L, R) (0, 0) Φ := by
  rw [← eP] at h0 h1 ⊢
  exact kp_isMin h0 h1
theorem cnK49 {Φ : sm_Z → Prop} {y t : Int32} (hk : kW 49 I) (g1 : R 0 9 = some 49) (s : (KF 49 I).2.2.2.2.1 = false) (a : 0 ≤ y.toInt) (b : y.toInt < (I 49 2).toInt) : ∀ (n w : Nat) (x3 x4 O : Int32) (J : sm_I) (L' : sm_L) (R' : sm_R), XV49 I R J L' R' → en_mem kl_tb2 klY (xLay, J, L', R') → x4.toInt = w → w + n = (KF 49 I).2.2.2.1 → x3 = O → (∀ (J : sm_I) (L' : sm_L) (R' : sm_R), XV49 I R J L' R' → Φ (some (.int (cng (kv 49 I 0 (y.toNatClampNeg + 1) 0) (kv 49 I 1 (y.toNatClampNeg + 1) 0) t n w O)), (xLay, J, L', R'))) → sm_wp sm_P S (51 + 6 + 1 + 1) 34 6 [.ref 0, .int y, .int t, .int x3, .int x4] [] (xLay, J, L', R') (0, 0) Φ := by
  have f1 : (KF 49 I).2.2.2.1 ≤ 1000 := GT_wf.2.2.2.2.1.1
  have ny := kl_nat a
  have n2 := kl_nat hk.1.1
  have bb := hk.1.2
  intro n
  induction n with
  | zero =>
    intro w x3 x4 O J L' R' xv mj h4 hw hO h
    have a14 := xv.2.2.2.1.2.1.2.1
    rw [← kFx49 xv]
    refine ph49_X11_can_6 (d := 51 + 6 + 1) ⟨fun _ => ?_, fun c => ?_⟩
    · rw [kFx49 xv, hO]; exact h J L' R' xv
    · have c := kl_nle c
      rw [a14] at c
      omega
  | succ n ih =>
    intro w x3 x4 O J L' R' xv mj h4 hw hO h
    have a14 := xv.2.2.2.1.2.1.2.1
    have s4 := ml_in1 (x := x4) (by omega)
    rw [← kFx49 xv]
    refine ph49_X11_can_6 (d := 51 + 6 + 1) ⟨fun c => ?_, fun _ => ?_⟩
    · have c := kl_le.mp c
      rw [a14] at c
      omega
    rw [kFx49 xv]
    refine lvm49 (d := 51) g1 xv mj ⟨by omega, s, by omega⟩ (fun r K L2 R2 xk mk er T => ⟨r, K, L2, R2, by rw [kFx49 xk], ?_⟩)
    rw [kFx49 xk]
    obtain ⟨b1, b2, b3, b4⟩ := rdX49 hk xk
    have T1 : ttop (kn 49 I) (cl (kB0 49 I) (kC0 49 I) (kwy 49 I x4.toNatClampNeg) (kys 49 I).length) (g49_74_T K (kn 49 I) (kys 49 I).length) := T
    have T2 := T1
    rw [tk_nat h4] at T2
    have go : ∀ x : Int32, x = cs_ (kv 49 I 0 (y.toNatClampNeg + 1) 0 w) (kv 49 I 1 (y.toNatClampNeg + 1) 0 w) t O → sm_wp sm_P S (51 + 6 + 1 + 1) 34 6 [.ref 0, .int y, .int t, .int x, .int (x4 + (1 : Int32))] [] (xLay, K, L2, R2) (0, 0) Φ := fun x ex => ih (w + 1) x _ _ K L2 R2 xk mk (by omega) (by omega) ex h
    refine mnX49 (d := 55) xk.2.2.2.2.2.1 b1 b2 b3 er (i := y.toNatClampNeg + 1) (by rw [ml_in1 (by omega)]; omega) (by rw [b4]; omega) T1 (fun r2 hr => ⟨r2, K, L2, R2, by rw [kFx49 xk], ?_⟩)
    have ev : r2 = kv 49 I 0 (y.toNatClampNeg + 1) 0 w := kv_at (fun c => Iff.rfl) T2 (by rw [b4]; omega) (by omega) hr
    rw [kFx49 xk]
    refine ⟨fun c => go _ ?_, fun c => mnX49 (d := 55) xk.2.2.2.2.2.1 b1 b2 b3 er (i := y.toNatClampNeg + 1) (by rw [ml_in1 (by omega)]; omega) (by rw [b4]; omega) T1 (fun r3 hr3 => ⟨r3, K, L2, R2, by rw [kFx49 xk], ?_⟩)⟩
    · unfold cs_
      rw [← hO, ← ev, if_pos c]
    have ev3 : r3 = kv 49 I 1 (y.toNatClampNeg + 1) 0 w := kv_at (fun c => Iff.rfl) T2 (by rw [b4]; omega) (by omega) hr3
    rw [kFx49 xk]
    refine ⟨fun c3 => go _ ?_, fun c3 => go _ ?_⟩
    · unfold cs_
      rw [← hO, ← ev, ← ev3, if_neg c, if_pos c3]
    · unfold cs_
      rw [← hO, ← ev, ← ev3, if_neg c, if_neg c3]
theorem isM49 {d : Nat} {Φ : sm_Z → Prop} (eP : kP 49 R = R) {x : Int32} (h0 : ¬ (0 ≤ x.toInt ∧ x.toInt ≤ 1440) → Φ (some (.int 0), (xLay, I, L, R))) (h1 : 0 ≤ x.toInt → x.toInt ≤ 1440 → Φ (some (.int 1), (xLay, I, L, R))) : sm_wp sm_P S d 58 0 [.int x] [] (xLay, I, L, R) (0, 0) Φ := by
  rw [← eP] at h0 h1 ⊢
  exact kp_isMin h0 h1
theorem bk_can {y t : Int32} (hI : lw_J I L R) : sm_wp sm_P S (58 + 1) 34 0 [.ref 0, .int y, .int t] [] (xLay, I, L, R) (0, 0) (fun z => ∃ (r : Int32) (I2 : sm_I) (L2 : sm_L) (R2 : sm_R), z = (some (.int r), (xLay, I2, L2, R2)) ∧ XcanK y t I L R r I2 L2 R2) := by
  have m := hI.1.1
  obtain ⟨qt, hq, g1, hk, -⟩ := hI.2.1
  have eP : kP qt R = R := kP_eq (w := (xLay, I, L, R)) m g1
  rcases hq with e | e <;> subst e
  · have eF : kF12_74 R = R := kF12_74_eq (w := (xLay, I, L, R)) m g1
    have xf : XF I R I (kF12_74 R) := ⟨by rw [eF], by rw [eF], fun _ _ _ => rfl⟩
    have g := ph12_X11_can_0 (S := S) (d := 52 + 6) (I := I) (L := L) (R := R) (x1 := y) (x2 := t) (Φ := fun z => ∃ (r : Int32) (I2 : sm_I) (L2 : sm_L) (R2 : sm_R), z = (some (.int r), (xLay, I2, L2, R2)) ∧ XcanK y t I L R r I2 L2 R2) (inT_at (Or.inl rfl) (by rw [eF]; exact eP) (fun n => ⟨_, I, L, R, rfl, fun _ => ⟨_, I, L, _, rfl, 12, g1, xf, fun _ => rfl, fun a b => absurd ⟨a, b⟩ n⟩, fun n => absurd rfl n⟩) (fun a b => ⟨_, I, L, R, rfl, fun n => absurd n (by decide), fun _ => isM12 (by rw [eF]; exact eP) (fun n => ⟨_, I, L, R, rfl, fun _ => ⟨_, I, L, _, rfl, 12, g1, xf, fun _ => rfl, fun _ _ a2 b2 => absurd ⟨a2, b2⟩ n⟩, fun n => absurd rfl n⟩) (fun a2 b2 => ⟨_, I, L, R, rfl, fun n => absurd n (by decide), fun _ => igv12 hI g1 (fun J L' R' xv mj => ⟨_, J, L', R', by rw [kFx12 xv], fun u => ⟨_, J, L', _, rfl, 12, g1, by rw [kFx12 xv]; exact ⟨xv.1, xv.2.1, xv.2.2.1⟩, fun n => n.elim (fun n => absurd ⟨a, b⟩ n) (fun n => absurd ⟨a2, b2⟩ n), fun _ _ _ _ => ⟨fun _ => rfl, fun q => ?_⟩⟩, fun u => ?_⟩)⟩)⟩))
    · rw [eF] at g
      exact g
    · rw [if_neg (by rw [q]; decide)] at u
      exact absurd u (by decide)
    · have s : (KF 12 I).2.2.2.2.1 = false := by
        cases v : (KF 12 I).2.2.2.2.1 with
        | true => rw [if_pos v] at u; exact absurd rfl u
        | false => rfl
      rw [kFx12 xv]
      exact cnK12 hk g1 s a b (KF 12 I).2.2.2.1 0 0 0 0 J L' R' xv mj kl_0 (by omega) rfl (fun J L' R' xj => ⟨_, J, L', R', rfl, 12, g1, ⟨xj.1, xj.2.1, xj.2.2.1⟩, fun n => n.elim (fun n => absurd ⟨a, b⟩ n) (fun n => absurd ⟨a2, b2⟩ n), fun _ _ _ _ => ⟨fun q => by rw [s] at q; exact absurd q (by decide), fun _ => rfl⟩⟩)
  · have eF : kF49_74 R = R := kF49_74_eq (w := (xLay, I, L, R)) m g1
    have xf : XF I R I (kF49_74 R) := ⟨by rw [eF], by rw [eF], fun _ _ _ => rfl⟩
    have g := ph49_X11_can_0 (S := S) (d := 52 + 6) (I := I) (L := L) (R := R) (x1 := y) (x2 := t) (Φ := fun z => ∃ (r : Int32) (I2 : sm_I) (L2 : sm_L) (R2 : sm_R), z = (some (.int r), (xLay, I2, L2, R2)) ∧ XcanK y t I L R r I2 L2 R2) (inT_at (Or.inr rfl) (by rw [eF]; exact eP) (fun n => ⟨_, I, L, R, rfl, fun _ => ⟨_, I, L, _, rfl, 49, g1, xf, fun _ => rfl, fun a b => absurd ⟨a, b⟩ n⟩, fun n => absurd rfl n⟩) (fun a b => ⟨_, I, L, R, rfl, fun n => absurd n (by decide), fun _ => isM49 (by rw [eF]; exact eP) (fun n => ⟨_, I, L, R, rfl, fun _ => ⟨_, I, L, _, rfl, 49, g1, xf, fun _ => rfl, fun _ _ a2 b2 => absurd ⟨a2, b2⟩ n⟩, fun n => absurd rfl n⟩) (fun a2 b2 => ⟨_, I, L, R, rfl, fun n => absurd n (by decide), fun _ => igv49 hI g1 (fun J L' R' xv mj => ⟨_, J, L', R', by rw [kFx49 xv], fun u => ⟨_, J, L', _, rfl, 49, g1, by rw [kFx49 xv]; exact ⟨xv.1, xv.2.1, xv.2.2.1⟩, fun n => n.elim (fun n => absurd ⟨a, b⟩ n) (fun n => absurd ⟨a2, b2⟩ n), fun _ _ _ _ => ⟨fun _ => rfl, fun q => ?_⟩⟩, fun u => ?_⟩)⟩)⟩))
    · rw [eF] at g
      exact g
    · rw [if_neg (by rw [q]; decide)] at u
      exact absurd u (by decide)
    · have s : (KF 49 I).2.2.2.2.1 = false := by
        cases v : (KF 49 I).2.2.2.2.1 with
        | true => rw [if_pos v] at u; exact absurd rfl u
        | false => rfl
      rw [kFx49 xv]
      exact cnK49 hk g1 s a b (KF 49 I).2.2.2.1 0 0 0 0 J L' R' xv mj kl_0 (by omega) rfl (fun J L' R' xj => ⟨_, J, L', R', rfl, 49, g1, ⟨xj.1, xj.2.1, xj.2.2.1⟩, fun n => n.elim (fun n => absurd ⟨a, b⟩ n) (fun n => absurd ⟨a2, b2⟩ n), fun _ _ _ _ => ⟨fun q => by rw [s] at q; exact absurd q (by decide), fun _ => rfl⟩⟩)
theorem cnM {Φ : sm_Z → Prop} {I0 : sm_I} {L0 : sm_L} {R0 : sm_R} {y t : Int32} (hJ : lw_J I0 L0 R0) (o : ∀ p j, 107 ≤ p → I p j = I0 p j ∧ R p j = R0 p j) {qt qi l : Nat} (hrf : rfE qt qi l I0 R0) (b69 : 0 ≤ (I 107 69).toInt ∧ (I 107 69).toInt ≤ 1441) (s : (KF qt I0).2.2.2.2.1 = false) (a : 0 ≤ y.toInt) (b : y.toInt < (I0 qt 2).toInt) (b2 : 0 ≤ (I0 qt 2).toInt ∧ (I0 qt 2).toInt ≤ 10) : ∀ (n w : Nat) (x3 x4 O : Int32) (J : sm_I), gofr I J → gor (rxs I l) (KF qt I0) J → x4.toInt = w → w + n = (KF qt I0).2.2.2.1 → x3 = O → (∀ J : sm_I, gofr I J → Φ (some (.int (cng (kv qt I0 0 (y.toNatClampNeg + 1) 0) (kv qt I0 1 (y.toNatClampNeg + 1) 0) t n w O)), (xLay, J, L, kM R))) → sm_wp sm_P S (49 + 8 + 1 + 1) 109 6 [.ref 107, .int y, .int t, .int x3, .int x4] [] (xLay, J, L, kM R) (0, 0) Φ := by
  have f1 : (KF qt I0).2.2.2.1 ≤ 1000 := GT_wf.2.2.2.2.1.1
  have ny := kl_nat a
  have n2 := kl_nat b2.1
  have e2 : kn qt I0 = (I0 qt 2).toNatClampNeg + 1 := rfl
  intro n
  induction n with
  | zero =>
    intro w x3 x4 O J f k h4 hw hO h
    refine pj_X12_can_6 (d := 49 + 8 + 1) ⟨fun _ => by rw [hO]; exact h J f, fun c => ?_⟩
    have c := kl_nle c
    rw [k.2.2.1] at c
    omega
  | succ n ih =>
    intro w x3 x4 O J f k h4 hw hO h
    have s4 := ml_in1 (x := x4) (by omega)
    refine pj_X12_can_6 (d := 49 + 8 + 1) ⟨fun c => ?_, fun _ => rx_lyN (d := 52) hJ o hrf f b69 k s h4 (by omega) (fun J2 f2 k2 T => ⟨_, J2, L, rfl, fun q => absurd q (by decide), fun _ => ?_⟩)⟩
    · have c := kl_le.mp c
      rw [k.2.2.1] at c
      omega
    obtain ⟨C, hC, T⟩ := T
    have go : ∀ x : Int32, x = cs_ (kv qt I0 0 (y.toNatClampNeg + 1) 0 w) (kv qt I0 1 (y.toNatClampNeg + 1) 0 w) t O → sm_wp sm_P S (49 + 8 + 1 + 1) 109 6 [.ref 107, .int y, .int t, .int x, .int (x4 + (1 : Int32))] [] (xLay, J2, L, kM R) (0, 0) Φ := fun x ex => ih (w + 1) x _ _ J2 f2 k2 (by omega) (by omega) ex h
    refine rx_gn (n := kn qt I0) (i := y.toNatClampNeg + 1) (j := 0) (by rw [ml_in1 (by omega)]; omega) kl_0 (by rw [e2]; omega) (by rw [e2]; omega) (by rw [e2]; omega) T (fun r2 hr => ⟨r2, J2, L, rfl, ?_⟩)
    have ev : r2 = kv qt I0 0 (y.toNatClampNeg + 1) 0 w := kv_at hC T (by rw [e2]; omega) (by rw [e2]; omega) hr
    refine ⟨fun c => go _ ?_, fun c => rx_gn (n := kn qt I0) (i := y.toNatClampNeg + 1) (j := 0) (by rw [ml_in1 (by omega)]; omega) kl_0 (by rw [e2]; omega) (by rw [e2]; omega) (by rw [e2]; omega) T (fun r3 hr3 => ⟨r3, J2, L, rfl, ?_⟩)⟩
    · unfold cs_
      rw [← hO, ← ev, if_pos c]
    have ev3 : r3 = kv qt I0 1 (y.toNatClampNeg + 1) 0 w := kv_at hC T (by rw [e2]; omega) (by rw [e2]; omega) hr3
    refine ⟨fun c3 => go _ ?_, fun c3 => go _ ?_⟩
    · unfold cs_
      rw [← hO, ← ev, ← ev3, if_neg c, if_pos c3]
    · unfold cs_
      rw [← hO, ← ev, ← ev3, if_neg c, if_neg c3]
theorem bm_can {y t : Int32} (hI : MJ (XcanK y t) r I L R) : sm_wp sm_P S (58 + 1) 109 0 [.ref 107, .int y, .int t] [] (xLay, I, L, R) (0, 0) (fun z => ∃ (r' : Int32) (I2 : sm_I) (L2 : sm_L) (R2 : sm_R), z = (some (.int r'), (xLay, I2, L2, R2)) ∧ r = r' ∧ ((∀ p j, p < 107 → I2 p j = I p j ∧ R2 p j = R p j) → LJ I2 R2)) := by
  obtain ⟨I0, L0, R0, hJ, mk, o, q, e09, xf, X0, X1⟩ := hI
  have mm : en_mem ml_tb mlX (xLay, I, L, R) := lw_mk (lw_pk (ky_dn mk)) hJ.1.2.1 o
  have e : kM R = R := ml_R mm
  obtain ⟨-, n0, tp, hd, qt, qi, l, hrf, htd⟩ := hJ.1
  have eq : q = qt := Option.some.inj (e09.symm.trans hrf.2.2.1)
  subst eq
  have hq : q = 12 ∨ q = 49 := by have := hrf.1; omega
  obtain ⟨c0, c1, c2, c3, c4, -⟩ := q_cnt hq htd
  have c5 : I0 q 5 = I0 107 46 := htd.2.2.1
  have hl : (I 107 18).toInt = l := by rw [(o 107 18 (by omega)).1]; exact hrf.2.2.2.2
  have l1 := hrf.2.1
  have hb := (ml_cs l1 mm).2.2.2.1
  have b46 : 0 ≤ (I 107 46).toInt ∧ (I 107 46).toInt ≤ 45 := mm.2.1 107 46 (0, 45) (by decide +kernel)
  have e3 : (I0 q 3).toInt = (I 125 l).toInt := by rw [c3, (o 125 l (by omega)).1]
  have e5 : (I0 q 5).toInt = (I 107 46).toInt := by rw [c5, (o 107 46 (by omega)).1]
  have hb0 : 0 ≤ (I0 125 l).toInt ∧ (I0 125 l).toInt ≤ 10 := by rw [← (o 125 l (by omega)).1]; exact hb
  have b460 : 0 ≤ (I0 107 46).toInt ∧ (I0 107 46).toInt ≤ 45 := by rw [← (o 107 46 (by omega)).1]; exact b46
  obtain ⟨il, ia⟩ := it_at hJ.1 hrf
  have xi : rxs I l = rxs I0 l := rx_it o l
  have f1 : (KF q I0).2.2.2.1 ≤ 1000 := GT_wf.2.2.2.2.1.1
  have lj : ∀ {I2 : sm_I} {R2 : sm_R}, (∀ p j, lkM p j → I2 p j = I p j) → (∀ p j, p < 107 → I2 p j = I p j ∧ R2 p j = R p j) → LJ I2 R2 := fun g f => LJ_f hJ o xf g f
  have st : ∀ p j, lkM p j → I p j = I p j := fun _ _ _ => rfl
  have b69 : 0 ≤ (I 107 69).toInt ∧ (I 107 69).toInt ≤ 1441 := mm.2.1 107 69 (0, 1441) (by decide +kernel)
  have hbT := (ml_cs l1 mm).2.2.1
  have e2 : (I0 q 2).toInt = (I 122 l).toInt := by rw [c2, (o 122 l (by omega)).1]
  have e122 : I 122 l = I0 122 l := (o 122 l (by omega)).1
  have g := pj_X12_can_0 (S := S) (d := 50 + 8) (I := I) (L := L) (R := R) (x1 := y) (x2 := t) (Φ := fun z => ∃ (r' : Int32) (I2 : sm_I) (L2 : sm_L) (R2 : sm_R), z = (some (.int r'), (xLay, I2, L2, R2)) ∧ r = r' ∧ ((∀ p j, p < 107 → I2 p j = I p j ∧ R2 p j = R p j) → LJ I2 R2)) (yp_inT (d := 49 + 8) hl l1 hbT (fun n => ⟨_, I, L, rfl, fun _ => ⟨_, I, L, _, rfl, X0 (Or.inl (fun w => n ⟨w.1, by omega⟩)), lj st⟩, fun n => absurd rfl n⟩) (fun a b => ⟨_, I, L, rfl, fun n => absurd n (by decide), fun _ => yp_isMin (d := 49 + 8) (fun n => ⟨_, I, L, rfl, fun _ => ⟨_, I, L, _, rfl, X0 (Or.inr n), lj st⟩, fun n => absurd rfl n⟩) (fun a2 b2 => ⟨_, I, L, rfl, fun n => absurd n (by decide), fun _ => rx_Jm hJ mk o hrf (fun J f k mj => ⟨J, L, rfl, fun u => ?_, fun u => ⟨_, J, L, _, rfl, ?_, lj (gofr_lk f)⟩⟩)⟩)⟩))
  · rw [e] at g
    exact g
  · have s : (KF q I0).2.2.2.2.1 = false := by
      cases v : (KF q I0).2.2.2.2.1 with
      | false => rfl
      | true => rw [k.1, if_pos v] at u; exact absurd u (by decide)
    exact cnM hJ o hrf b69 s a (by omega) (by omega) (KF q I0).2.2.2.1 0 0 0 0 J f k kl_0 (by omega) rfl (fun J2 f2 => ⟨_, J2, L, _, rfl, (X1 a (by omega) a2 b2).2 s, lj (gofr_lk f2)⟩)
  · refine (X1 a (by omega) a2 b2).1 ?_
    cases v : (KF q I0).2.2.2.2.1 with
    | true => rfl
    | false => rw [k.1, if_neg (by rw [v]; decide)] at u; exact absurd rfl u
end
end
section
/-! conditions of the class: ask, next, left, with kF behind each call; told = 12 (wip/pe/symg5.py) -/
end
section
/-! conditions of the class: ask, next, left, with kF behind each call; told = 49 (wip/pe/symg5.py) -/
end
section
/-! conditions of the reference: ask, next, left, leftOf, isLeft, answers (wip/pe/symg5.py) -/
end
section
/-! what is asked, purely (wip/pe/mka2.py) -/
/-- whether there are HOURS with the answers from QUESTION q on -/
def lf (n : Nat) (aq : Nat → Nat → List tC) (yes no : Nat → Bool) : Nat → Nat → List tC → Prop
  | 0, _, _ => True
  | m + 1, q, C => if yes q = true then ¬ tno n (aq q 0 ++ C) ∧ lf n aq yes no m (q + 1) (aq q 0 ++ C) else if no q = true then (¬ tno n (aq q 1 ++ C) ∧ lf n aq yes no m (q + 1) (aq q 1 ++ C)) ∨ (¬ tno n (aq q 2 ++ C) ∧ lf n aq yes no m (q + 1) (aq q 2 ++ C)) else lf n aq yes no m (q + 1) C
section
variable {n m q : Nat} {aq : Nat → Nat → List tC} {yes no : Nat → Bool} {C : List tC}
variable {s : Nat → Bool}
end
end
section
/-! the class's asking, exact; told = 12 (wip/pe/mka2.py) -/
section
variable {S : sm_C} {d : Nat} {Φ : sm_Z → Prop} {I : sm_I} {L : sm_L} {R : sm_R}
end
end
section
/-! the class's asking, exact; told = 49 (wip/pe/mka2.py) -/
section
variable {S : sm_C} {d : Nat} {Φ : sm_Z → Prop} {I : sm_I} {L : sm_L} {R : sm_R}
end
end
section
/-! the reference's asking, exact (wip/pe/mka2.py) -/
section
variable {S : sm_C} {d : Nat} {Φ : sm_Z → Prop} {I : sm_I} {L : sm_L} {R : sm_R}
end
end
section
/-! THE LAW: what is asked of all WAYS: helps (wip/pe/mka3.py) -/
/-- which is asked next -/
def mx (a b : Int32) : Int32 := if a < b then b else a
section
variable {S : sm_C} {Φ : sm_Z → Prop} {L : sm_L} {R : sm_R}
end
section
variable {S : sm_C} {Φ : sm_Z → Prop} {L : sm_L} {R : sm_R}
end
end
section
/-! THE LAW: pairs out of what is asked: ask (wip/pe/mka3.py) -/
section
variable {S : sm_C} {I : sm_I} {L : sm_L} {R : sm_R} {r : Int32}
end
end
section
/-! THE LAW: pairs out of what is asked: next (wip/pe/mka3.py) -/
section
variable {S : sm_C} {I : sm_I} {L : sm_L} {R : sm_R} {r : Int32}
end
end
section
/-! THE LAW: pairs out of what is asked: left (wip/pe/mka3.py) -/
section
variable {S : sm_C} {I : sm_I} {L : sm_L} {R : sm_R} {r : Int32}
end
end
section
/-! conditions of the class: setWays, slack, drawn, whereAt, with kF behind each call; told = 12 (wip/pe/symg5.py) -/
end
section
/-! conditions of the class: setWays, slack, drawn, whereAt, with kF behind each call; told = 49 (wip/pe/symg5.py) -/
end
section
/-! conditions of the reference: setWays, slack, drawn, laysSet (wip/pe/symg5.py) -/
end
section
/-! conditions of the class: takes, minuteWith; told = 12 (wip/pe/symg7.py) -/
end
section
/-! conditions of the class: takes, minuteWith; told = 49 (wip/pe/symg7.py) -/
end
section
/-! HOURS that are SET on a closed table (wip/pe/mkv1.py) -/
section
variable {n : Nat} {C : List tC} {D E : Nat → Nat → Int} {σ : Nat → Bool} {h : Nat → Int}
end
end
section
/-! the class's takes, exact; told = 12 (wip/pe/mkv1.py) -/
section
variable {S : sm_C} {d : Nat} {Φ : sm_Z → Prop} {I : sm_I} {L : sm_L} {R : sm_R}
end
end
section
/-! the class's takes, exact; told = 49 (wip/pe/mkv1.py) -/
section
variable {S : sm_C} {d : Nat} {Φ : sm_Z → Prop} {I : sm_I} {L : sm_L} {R : sm_R}
end
end
section
/-! the reference's laysSet, exact (wip/pe/mkv1.py) -/
section
variable {S : sm_C} {d : Nat} {Φ : sm_Z → Prop} {I : sm_I} {L : sm_L} {R : sm_R}
end
end
section
/-! THE LAW: pairs with HOURS that are SET: setWays (wip/pe/mkv1.py) -/
section
variable {S : sm_C} {I : sm_I} {L : sm_L} {R : sm_R} {r : Int32}
end
end
section
/-! THE LAW: pairs with HOURS that are SET: slack (wip/pe/mkv1.py) -/
section
variable {S : sm_C} {I : sm_I} {L : sm_L} {R : sm_R} {r : Int32}
end
end
