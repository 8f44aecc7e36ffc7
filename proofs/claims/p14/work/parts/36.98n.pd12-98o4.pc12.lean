section
/-! conditions of the class with told = 12 (wip/pe/symd.py) -/
def kD12l : List (Nat × Nat × Nat) := [(0, 0, 1), (0, 1, 2), (0, 2, 37), (0, 3, 45), (0, 4, 74), (0, 5, 82), (0, 6, 90), (0, 7, 98), (0, 8, 103), (12, 7, 13), (12, 8, 14), (12, 9, 15), (12, 10, 16), (12, 11, 21), (12, 12, 22), (12, 13, 23), (12, 14, 24), (12, 15, 29), (12, 16, 34), (12, 17, 35), (12, 18, 36), (16, 0, 17), (16, 1, 18), (16, 2, 19), (16, 3, 20), (24, 0, 25), (24, 1, 26), (24, 2, 27), (24, 3, 28), (29, 0, 30), (29, 1, 31), (29, 2, 32), (29, 3, 33), (37, 2, 38), (37, 3, 39), (37, 4, 40), (40, 0, 41), (40, 1, 42), (40, 2, 43), (40, 3, 44), (0, 9, 12)]
def kD12 (R : sm_R) : sm_R := fun x j => match kD12l.find? (fun t => Nat.beq t.1 x && Nat.beq t.2.1 j) with
  | some t => some t.2.2
  | none => R x j
theorem pd12h_X11_valueAt_0 {S : sm_C} {d : Nat} {Φ : sm_Z → Prop} {I : sm_I} {L : sm_L} {R : sm_R} {x1 : Int32} {x2 : Int32} (h : ((x1 < 0 → Φ (some (.int x2), (xLay, I, L, (kD12 R)))) ∧ (¬ x1 < 0 → (((Int32.ofNat 10) ≤ x1 → Φ (some (.int x2), (xLay, I, L, (kD12 R)))) ∧ (¬ (Int32.ofNat 10) ≤ x1 → (vp_in x1 10) ∧ Φ (some (.int (I 38 x1.toNatClampNeg)), (xLay, I, L, (kD12 R)))))))) : sm_wp sm_P S d 89 0 [.ref 38, .int x1, .int x2] [] (xLay, I, L, (kD12 R)) (0, 0) Φ := sm_wp_step (⟨fun q2 => ((h).1 q2), fun q2 => ⟨fun q1 => ((((h).2 q2)).1 q1), fun q1 => ⟨(((((h).2 q2)).2 q1)).1, (((((h).2 q2)).2 q1)).2⟩⟩⟩)
theorem pd12_X10_firstSpan_0 {S : sm_C} {d : Nat} {Φ : sm_Z → Prop} {I : sm_I} {L : sm_L} {R : sm_R} {x1 : Int32} {x2 : Int32} (h : Φ (some (.int (((x1 * (4 : Int32)) + x2) * (3 : Int32))), (xLay, I, L, (kD12 R)))) : sm_wp sm_P S d 19 0 [.ref 12, .int x1, .int x2] [] (xLay, I, L, (kD12 R)) (0, 0) Φ := sm_wp_step (h)
theorem pd12_X10_partsOf_0 {S : sm_C} {d : Nat} {Φ : sm_Z → Prop} {I : sm_I} {L : sm_L} {R : sm_R} {x1 : Int32} {x2 : Int32} (h : ((((x1 * (4 : Int32)) + x2) < 0 → Φ (some (.int (0 : Int32)), (xLay, I, L, (kD12 R)))) ∧ (¬ ((x1 * (4 : Int32)) + x2) < 0 → (((Int32.ofNat 40) ≤ ((x1 * (4 : Int32)) + x2) → Φ (some (.int (0 : Int32)), (xLay, I, L, (kD12 R)))) ∧ (¬ (Int32.ofNat 40) ≤ ((x1 * (4 : Int32)) + x2) → (vp_in ((x1 * (4 : Int32)) + x2) 40) ∧ Φ (some (.int (I 23 ((x1 * (4 : Int32)) + x2).toNatClampNeg)), (xLay, I, L, (kD12 R)))))))) : sm_wp sm_P S d 23 0 [.ref 12, .int x1, .int x2] [] (xLay, I, L, (kD12 R)) (0, 0) Φ := sm_wp_step (⟨fun q2 => ((h).1 q2), fun q2 => ⟨fun q1 => ((((h).2 q2)).1 q1), fun q1 => ⟨(((((h).2 q2)).2 q1)).1, (((((h).2 q2)).2 q1)).2⟩⟩⟩)
theorem pd12_X10_walkBetween_0 {S : sm_C} {d : Nat} {Φ : sm_Z → Prop} {I : sm_I} {L : sm_L} {R : sm_R} {x1 : Int32} {x2 : Int32} (h : ((x1 < 0 → Φ (some (.int (-2 : Int32)), (xLay, I, L, (kD12 R)))) ∧ (¬ x1 < 0 → (((6 : Int32) ≤ x1 → Φ (some (.int (-2 : Int32)), (xLay, I, L, (kD12 R)))) ∧ (¬ (6 : Int32) ≤ x1 → ((x2 < 0 → Φ (some (.int (-2 : Int32)), (xLay, I, L, (kD12 R)))) ∧ (¬ x2 < 0 → ((x2 < (6 : Int32) → (vp_in ((x1 * (6 : Int32)) + x2) 36) ∧ Φ (some (.int (I 13 ((x1 * (6 : Int32)) + x2).toNatClampNeg)), (xLay, I, L, (kD12 R)))) ∧ (¬ x2 < (6 : Int32) → Φ (some (.int (-2 : Int32)), (xLay, I, L, (kD12 R)))))))))))) : sm_wp sm_P S d 27 0 [.ref 12, .int x1, .int x2] [] (xLay, I, L, (kD12 R)) (0, 0) Φ := sm_wp_step (⟨fun q4 => ((h).1 q4), fun q4 => ⟨fun q3 => ((((h).2 q4)).1 q3), fun q3 => ⟨fun q2 => ((((((h).2 q4)).2 q3)).1 q2), fun q2 => ⟨fun q1 => ⟨(((((((((h).2 q4)).2 q3)).2 q2)).1 q1)).1, (((((((((h).2 q4)).2 q3)).2 q2)).1 q1)).2⟩, fun q1 => ((((((((h).2 q4)).2 q3)).2 q2)).2 q1)⟩⟩⟩⟩)
theorem pd12_X8_hasRow_0 {S : sm_C} {d : Nat} {Φ : sm_Z → Prop} {I : sm_I} {L : sm_L} {R : sm_R} {x1 : Int32} (h : ((x1 < 0 → Φ (some (.int (0 : Int32)), (xLay, I, L, (kD12 R)))) ∧ (¬ x1 < 0 → (((Int32.ofNat 120) ≤ x1 → Φ (some (.int (0 : Int32)), (xLay, I, L, (kD12 R)))) ∧ (¬ (Int32.ofNat 120) ≤ x1 → Φ (some (.int (1 : Int32)), (xLay, I, L, (kD12 R)))))))) : sm_wp sm_P S d 287 0 [.ref 24, .int x1] [] (xLay, I, L, (kD12 R)) (0, 0) Φ := sm_wp_step (⟨fun q2 => ⟨Or.inl rfl, ((h).1 q2)⟩, fun q2 => ⟨fun q1 => ⟨Or.inl rfl, ((((h).2 q2)).1 q1)⟩, fun q1 => ⟨Or.inr rfl, ((((h).2 q2)).2 q1)⟩⟩⟩)
theorem pd12_X8_isSet_0 {S : sm_C} {d : Nat} {Φ : sm_Z → Prop} {I : sm_I} {L : sm_L} {R : sm_R} {x1 : Int32} (h : sm_wp sm_P S d 287 0 [.ref 24, .int x1] [] (xLay, I, L, (kD12 R)) (0, 0) (fun z => ∃ (r3 : Int32) (I1 : sm_I) (L2 : sm_L), z = (some (.int r3), (xLay, I1, L2, (kD12 R))) ∧ ((r3 = 0 → Φ (some (.int (0 : Int32)), (xLay, I1, L2, (kD12 R)))) ∧ (¬ r3 = 0 → (vp_in x1 120) ∧ sm_wp sm_P S d 89 0 [.ref 38, .int (I1 25 x1.toNatClampNeg), .int (-1 : Int32)] [] (xLay, I1, L2, (kD12 R)) (0, 0) (fun z => ∃ (r6 : Int32) (I4 : sm_I) (L5 : sm_L), z = (some (.int r6), (xLay, I4, L5, (kD12 R))) ∧ ((r6 = (-1 : Int32) → Φ (some (.int (0 : Int32)), (xLay, I4, L5, (kD12 R)))) ∧ (¬ r6 = (-1 : Int32) → (vp_in x1 120) ∧ (((I4 26 x1.toNatClampNeg) = (-1 : Int32) → Φ (some (.int (1 : Int32)), (xLay, I4, L5, (kD12 R)))) ∧ (¬ (I4 26 x1.toNatClampNeg) = (-1 : Int32) → (vp_in x1 120) ∧ sm_wp sm_P S d 89 0 [.ref 38, .int (I4 26 x1.toNatClampNeg), .int (-1 : Int32)] [] (xLay, I4, L5, (kD12 R)) (0, 0) (fun z => ∃ (r9 : Int32) (I7 : sm_I) (L8 : sm_L), z = (some (.int r9), (xLay, I7, L8, (kD12 R))) ∧ ((r9 = (-1 : Int32) → Φ (some (.int (0 : Int32)), (xLay, I7, L8, (kD12 R)))) ∧ (¬ r9 = (-1 : Int32) → Φ (some (.int (1 : Int32)), (xLay, I7, L8, (kD12 R))))))))))))))) : sm_wp sm_P S (d + 1) 293 0 [.ref 24, .int x1, .ref 38] [] (xLay, I, L, (kD12 R)) (0, 0) Φ := sm_wp_step (sm_ci0 (h) (fun r3 I1 L2 q16 => ⟨fun q15 => ⟨Or.inl rfl, ((q16).1 q15)⟩, fun q15 => ⟨(((q16).2 q15)).1, sm_ci0 ((((q16).2 q15)).2) (fun r6 I4 L5 q14 => ⟨fun q13 => ⟨Or.inl rfl, ((q14).1 q13)⟩, fun q13 => ⟨(((q14).2 q13)).1, ⟨fun q12 => ⟨Or.inr rfl, (((((q14).2 q13)).2).1 q12)⟩, fun q12 => ⟨((((((q14).2 q13)).2).2 q12)).1, sm_ci0 (((((((q14).2 q13)).2).2 q12)).2) (fun r9 I7 L8 q11 => ⟨fun q10 => ⟨Or.inl rfl, ((q11).1 q10)⟩, fun q10 => ⟨Or.inr rfl, ((q11).2 q10)⟩⟩)⟩⟩⟩⟩)⟩⟩))
theorem pd12_X8_holds_0 {S : sm_C} {d : Nat} {Φ : sm_Z → Prop} {I : sm_I} {L : sm_L} {R : sm_R} {x1 : Int32} (h : sm_wp sm_P S d 287 0 [.ref 24, .int x1] [] (xLay, I, L, (kD12 R)) (0, 0) (fun z => ∃ (r3 : Int32) (I1 : sm_I) (L2 : sm_L), z = (some (.int r3), (xLay, I1, L2, (kD12 R))) ∧ ((r3 = 0 → Φ (some (.int (0 : Int32)), (xLay, I1, L2, (kD12 R)))) ∧ (¬ r3 = 0 → (vp_in x1 120) ∧ sm_wp sm_P S d 89 0 [.ref 38, .int (I1 25 x1.toNatClampNeg), .int (0 : Int32)] [] (xLay, I1, L2, (kD12 R)) (0, 0) (fun z => ∃ (r6 : Int32) (I4 : sm_I) (L5 : sm_L), z = (some (.int r6), (xLay, I4, L5, (kD12 R))) ∧ (vp_in x1 120) ∧ sm_wp sm_P S d 89 0 [.ref 38, .int (I4 26 x1.toNatClampNeg), .int (0 : Int32)] [] (xLay, I4, L5, (kD12 R)) (0, 0) (fun z => ∃ (r9 : Int32) (I7 : sm_I) (L8 : sm_L), z = (some (.int r9), (xLay, I7, L8, (kD12 R))) ∧ (vp_in x1 120) ∧ (((r6 - r9) < (I7 27 x1.toNatClampNeg) → Φ (some (.int (0 : Int32)), (xLay, I7, L8, (kD12 R)))) ∧ (¬ (r6 - r9) < (I7 27 x1.toNatClampNeg) → (vp_in x1 120) ∧ (((I7 28 x1.toNatClampNeg) < (r6 - r9) → Φ (some (.int (0 : Int32)), (xLay, I7, L8, (kD12 R)))) ∧ (¬ (I7 28 x1.toNatClampNeg) < (r6 - r9) → Φ (some (.int (1 : Int32)), (xLay, I7, L8, (kD12 R))))))))))))) : sm_wp sm_P S (d + 1) 288 0 [.ref 24, .int x1, .ref 38] [] (xLay, I, L, (kD12 R)) (0, 0) Φ := sm_wp_step (sm_ci0 (h) (fun r3 I1 L2 q15 => ⟨fun q14 => ⟨Or.inl rfl, ((q15).1 q14)⟩, fun q14 => ⟨(((q15).2 q14)).1, sm_ci0 ((((q15).2 q14)).2) (fun r6 I4 L5 q13 => ⟨(q13).1, sm_ci0 ((q13).2) (fun r9 I7 L8 q12 => ⟨(q12).1, ⟨fun q11 => ⟨Or.inl rfl, (((q12).2).1 q11)⟩, fun q11 => ⟨((((q12).2).2 q11)).1, ⟨fun q10 => ⟨Or.inl rfl, ((((((q12).2).2 q11)).2).1 q10)⟩, fun q10 => ⟨Or.inr rfl, ((((((q12).2).2 q11)).2).2 q10)⟩⟩⟩⟩⟩)⟩)⟩⟩))
theorem pd12_X11_isPlace_0 {S : sm_C} {d : Nat} {Φ : sm_Z → Prop} {I : sm_I} {L : sm_L} {R : sm_R} {x1 : Int32} (h : ((x1 < 0 → Φ (some (.int (0 : Int32)), (xLay, I, L, (kD12 R)))) ∧ (¬ x1 < 0 → (((I 12 1) ≤ x1 → Φ (some (.int (0 : Int32)), (xLay, I, L, (kD12 R)))) ∧ (¬ (I 12 1) ≤ x1 → Φ (some (.int (1 : Int32)), (xLay, I, L, (kD12 R)))))))) : sm_wp sm_P S d 60 0 [.ref 0, .int x1] [] (xLay, I, L, (kD12 R)) (0, 0) Φ := sm_wp_step (⟨fun q2 => ⟨Or.inl rfl, ((h).1 q2)⟩, fun q2 => ⟨fun q1 => ⟨Or.inl rfl, ((((h).2 q2)).1 q1)⟩, fun q1 => ⟨Or.inr rfl, ((((h).2 q2)).2 q1)⟩⟩⟩)
theorem pd12_X11_isDoubted_0 {S : sm_C} {d : Nat} {Φ : sm_Z → Prop} {I : sm_I} {L : sm_L} {R : sm_R} {x1 : Int32} (h : (((((I 37 0) >>> (x1 &&& 31)) &&& (1 : Int32)) = 0 → Φ (some (.int (0 : Int32)), (xLay, I, L, (kD12 R)))) ∧ (¬ (((I 37 0) >>> (x1 &&& 31)) &&& (1 : Int32)) = 0 → Φ (some (.int (1 : Int32)), (xLay, I, L, (kD12 R)))))) : sm_wp sm_P S d 55 0 [.ref 0, .int x1] [] (xLay, I, L, (kD12 R)) (0, 0) Φ := sm_wp_step (⟨fun q1 => ⟨Or.inl rfl, ((h).1 q1)⟩, fun q1 => ⟨Or.inr rfl, ((h).2 q1)⟩⟩)
theorem pd12_X11_bears_0 {S : sm_C} {d : Nat} {Φ : sm_Z → Prop} {I : sm_I} {L : sm_L} {R : sm_R} {x1 : Int32} (h : sm_wp sm_P S d 62 0 [.ref 0, .int x1] [] (xLay, I, L, (kD12 R)) (0, 0) (fun z => ∃ (r3 : Int32) (I1 : sm_I) (L2 : sm_L), z = (some (.int r3), (xLay, I1, L2, (kD12 R))) ∧ ((r3 = 0 → Φ (some (.int (-1 : Int32)), (xLay, I1, L2, (kD12 R)))) ∧ (¬ r3 = 0 → (vp_in x1 10) ∧ ∀ n4 : Int32, n4 = ((I1 22 x1.toNatClampNeg) - (1 : Int32)) → sm_wp sm_P S (d + 1) 31 3 [.ref 0, .int x1, .int (-2 : Int32), .int n4] [] (xLay, I1, L2, (kD12 R)) (0, 0) Φ)))) : sm_wp sm_P S (d + 1) 31 0 [.ref 0, .int x1] [] (xLay, I, L, (kD12 R)) (0, 0) Φ := sm_wp_step (sm_ci0 (h) (fun r3 I1 L2 q6 => ⟨fun q5 => ((q6).1 q5), fun q5 => ⟨(((q6).2 q5)).1, ((((q6).2 q5)).2 _ rfl)⟩⟩))
theorem pd12_X11_bears_3 {S : sm_C} {d : Nat} {Φ : sm_Z → Prop} {I : sm_I} {L : sm_L} {R : sm_R} {x1 : Int32} {x2 : Int32} {x3 : Int32} (h : ((x3 < 0 → Φ (some (.int x2), (xLay, I, L, (kD12 R)))) ∧ (¬ x3 < 0 → sm_wp sm_P S d 19 0 [.ref 12, .int x1, .int x3] [] (xLay, I, L, (kD12 R)) (0, 0) (fun z => ∃ (r3 : Int32) (I1 : sm_I) (L2 : sm_L), z = (some (.int r3), (xLay, I1, L2, (kD12 R))) ∧ sm_wp sm_P S (d + 1) 31 5 [.ref 0, .int x1, .int x2, .int x3, .int r3, .int (1 : Int32), .int r3] [] (xLay, I1, L2, (kD12 R)) (0, 0) Φ)))) : sm_wp sm_P S (d + 1) 31 3 [.ref 0, .int x1, .int x2, .int x3] [] (xLay, I, L, (kD12 R)) (0, 0) Φ := sm_wp_step (⟨fun q5 => ((h).1 q5), fun q5 => sm_ci0 (((h).2 q5)) (fun r3 I1 L2 q4 => q4)⟩)
theorem pd12_X11_bears_5 {S : sm_C} {d : Nat} {Φ : sm_Z → Prop} {I : sm_I} {L : sm_L} {R : sm_R} {x1 : Int32} {x2 : Int32} {x3 : Int32} {x4 : Int32} {x5 : Int32} {x6 : Int32} (h : sm_wp sm_P S d 23 0 [.ref 12, .int x1, .int x3] [] (xLay, I, L, (kD12 R)) (0, 0) (fun z => ∃ (r3 : Int32) (I1 : sm_I) (L2 : sm_L), z = (some (.int r3), (xLay, I1, L2, (kD12 R))) ∧ (((x4 + r3) ≤ x6 → ((x5 = 0 → sm_wp sm_P S (d + 1) 31 3 [.ref 0, .int x1, .int x2, .int (x3 + (-1 : Int32))] [] (xLay, I1, L2, (kD12 R)) (0, 0) Φ) ∧ (¬ x5 = 0 → sm_wp sm_P S (d + 1) 31 3 [.ref 0, .int x1, .int x3, .int (x3 + (-1 : Int32))] [] (xLay, I1, L2, (kD12 R)) (0, 0) Φ))) ∧ (¬ (x4 + r3) ≤ x6 → sm_wp sm_P S d 293 0 [.ref 24, .int x6, .ref 38] [] (xLay, I1, L2, (kD12 R)) (0, 0) (fun z => ∃ (r7 : Int32) (I5 : sm_I) (L6 : sm_L), z = (some (.int r7), (xLay, I5, L6, (kD12 R))) ∧ ((r7 = 0 → Φ (some (.int (-4 : Int32)), (xLay, I5, L6, (kD12 R)))) ∧ (¬ r7 = 0 → ((x5 = 0 → sm_wp sm_P S (d + 1) 31 5 [.ref 0, .int x1, .int x2, .int x3, .int x4, .int (0 : Int32), .int (x6 + (1 : Int32))] [] (xLay, I5, L6, (kD12 R)) (0, 0) Φ) ∧ (¬ x5 = 0 → sm_wp sm_P S d 288 0 [.ref 24, .int x6, .ref 38] [] (xLay, I5, L6, (kD12 R)) (0, 0) (fun z => ∃ (r10 : Int32) (I8 : sm_I) (L9 : sm_L), z = (some (.int r10), (xLay, I8, L9, (kD12 R))) ∧ ((r10 = 0 → sm_wp sm_P S (d + 1) 31 5 [.ref 0, .int x1, .int x2, .int x3, .int x4, .int (0 : Int32), .int (x6 + (1 : Int32))] [] (xLay, I8, L9, (kD12 R)) (0, 0) Φ) ∧ (¬ r10 = 0 → sm_wp sm_P S (d + 1) 31 5 [.ref 0, .int x1, .int x2, .int x3, .int x4, .int (1 : Int32), .int (x6 + (1 : Int32))] [] (xLay, I8, L9, (kD12 R)) (0, 0) Φ)))))))))))) : sm_wp sm_P S (d + 1) 31 5 [.ref 0, .int x1, .int x2, .int x3, .int x4, .int x5, .int x6] [] (xLay, I, L, (kD12 R)) (0, 0) Φ := sm_wp_step (sm_ci0 (h) (fun r3 I1 L2 q17 => ⟨fun q16 => ⟨fun q4 => ((((q17).1 q16)).1 q4), fun q4 => ((((q17).1 q16)).2 q4)⟩, fun q16 => sm_ci0 (((q17).2 q16)) (fun r7 I5 L6 q15 => ⟨fun q14 => ((q15).1 q14), fun q14 => ⟨fun q13 => ((((q15).2 q14)).1 q13), fun q13 => sm_ci0 (((((q15).2 q14)).2 q13)) (fun r10 I8 L9 q12 => ⟨fun q11 => ((q12).1 q11), fun q11 => ((q12).2 q11)⟩)⟩⟩)⟩))
theorem pd12_X11_breaks_0 {S : sm_C} {d : Nat} {Φ : sm_Z → Prop} {I : sm_I} {L : sm_L} {R : sm_R} (h : sm_wp sm_P S (d + 1) 33 1 [.ref 0, .int (0 : Int32)] [] (xLay, I, L, (kD12 R)) (0, 0) Φ) : sm_wp sm_P S (d + 1) 33 0 [.ref 0] [] (xLay, I, L, (kD12 R)) (0, 0) Φ := sm_wp_step (h)
theorem pd12_X11_breaks_1 {S : sm_C} {d : Nat} {Φ : sm_Z → Prop} {I : sm_I} {L : sm_L} {R : sm_R} {x1 : Int32} (h : (((I 12 5) ≤ x1 → Φ (some (.int (-2 : Int32)), (xLay, I, L, (kD12 R)))) ∧ (¬ (I 12 5) ≤ x1 → (vp_in x1 45) ∧ sm_wp sm_P S d 89 0 [.ref 38, .int (I 34 x1.toNatClampNeg), .int (-1 : Int32)] [] (xLay, I, L, (kD12 R)) (0, 0) (fun z => ∃ (r3 : Int32) (I1 : sm_I) (L2 : sm_L), z = (some (.int r3), (xLay, I1, L2, (kD12 R))) ∧ (vp_in x1 45) ∧ sm_wp sm_P S d 89 0 [.ref 38, .int (I1 35 x1.toNatClampNeg), .int (-1 : Int32)] [] (xLay, I1, L2, (kD12 R)) (0, 0) (fun z => ∃ (r6 : Int32) (I4 : sm_I) (L5 : sm_L), z = (some (.int r6), (xLay, I4, L5, (kD12 R))) ∧ (vp_in x1 45) ∧ ((r3 = (-1 : Int32) → sm_wp sm_P S (d + 1) 33 1 [.ref 0, .int (x1 + (1 : Int32))] [] (xLay, I4, L5, (kD12 R)) (0, 0) Φ) ∧ (¬ r3 = (-1 : Int32) → ((r6 = (-1 : Int32) → sm_wp sm_P S (d + 1) 33 1 [.ref 0, .int (x1 + (1 : Int32))] [] (xLay, I4, L5, (kD12 R)) (0, 0) Φ) ∧ (¬ r6 = (-1 : Int32) → (((I4 36 x1.toNatClampNeg) < 0 → Φ (some (.int x1), (xLay, I4, L5, (kD12 R)))) ∧ (¬ (I4 36 x1.toNatClampNeg) < 0 → (((I4 36 x1.toNatClampNeg) ≤ (if 0 ≤ (r6 - r3) then (r6 - r3) else 0 - (r6 - r3)) → sm_wp sm_P S (d + 1) 33 1 [.ref 0, .int (x1 + (1 : Int32))] [] (xLay, I4, L5, (kD12 R)) (0, 0) Φ) ∧ (¬ (I4 36 x1.toNatClampNeg) ≤ (if 0 ≤ (r6 - r3) then (r6 - r3) else 0 - (r6 - r3)) → Φ (some (.int x1), (xLay, I4, L5, (kD12 R)))))))))))))))) : sm_wp sm_P S (d + 1) 33 1 [.ref 0, .int x1] [] (xLay, I, L, (kD12 R)) (0, 0) Φ := sm_wp_step (⟨fun q13 => ((h).1 q13), fun q13 => ⟨(((h).2 q13)).1, sm_ci0 ((((h).2 q13)).2) (fun r3 I1 L2 q12 => ⟨(q12).1, sm_ci0 ((q12).2) (fun r6 I4 L5 q11 => ⟨(q11).1, ⟨fun q10 => (((q11).2).1 q10), fun q10 => ⟨fun q9 => (((((q11).2).2 q10)).1 q9), fun q9 => ⟨fun q8 => (((((((q11).2).2 q10)).2 q9)).1 q8), fun q8 => ⟨fun q7 => (((((((((q11).2).2 q10)).2 q9)).2 q8)).1 q7), fun q7 => (((((((((q11).2).2 q10)).2 q9)).2 q8)).2 q7)⟩⟩⟩⟩⟩)⟩)⟩⟩)
theorem pd12_X11_walk_0 {S : sm_C} {d : Nat} {Φ : sm_Z → Prop} {I : sm_I} {L : sm_L} {R : sm_R} {x1 : Int32} {x2 : Int32} (h : sm_wp sm_P S d 60 0 [.ref 0, .int x1] [] (xLay, I, L, (kD12 R)) (0, 0) (fun z => ∃ (r3 : Int32) (I1 : sm_I) (L2 : sm_L), z = (some (.int r3), (xLay, I1, L2, (kD12 R))) ∧ ((r3 = 0 → Φ (some (.int (-1 : Int32)), (xLay, I1, L2, (kD12 R)))) ∧ (¬ r3 = 0 → sm_wp sm_P S d 60 0 [.ref 0, .int x2] [] (xLay, I1, L2, (kD12 R)) (0, 0) (fun z => ∃ (r6 : Int32) (I4 : sm_I) (L5 : sm_L), z = (some (.int r6), (xLay, I4, L5, (kD12 R))) ∧ ((r6 = 0 → Φ (some (.int (-1 : Int32)), (xLay, I4, L5, (kD12 R)))) ∧ (¬ r6 = 0 → sm_wp sm_P S d 27 0 [.ref 12, .int x1, .int x2] [] (xLay, I4, L5, (kD12 R)) (0, 0) (fun z => ∃ (r9 : Int32) (I7 : sm_I) (L8 : sm_L), z = (some (.int r9), (xLay, I7, L8, (kD12 R))) ∧ Φ (some (.int r9), (xLay, I7, L8, (kD12 R))))))))))) : sm_wp sm_P S (d + 1) 90 0 [.ref 0, .int x1, .int x2] [] (xLay, I, L, (kD12 R)) (0, 0) Φ := sm_wp_step (sm_ci0 (h) (fun r3 I1 L2 q14 => ⟨fun q13 => ((q14).1 q13), fun q13 => sm_ci0 (((q14).2 q13)) (fun r6 I4 L5 q12 => ⟨fun q11 => ((q12).1 q11), fun q11 => sm_ci0 (((q12).2 q11)) (fun r9 I7 L8 q10 => q10)⟩)⟩))
theorem pd12_X11_move_0 {S : sm_C} {d : Nat} {Φ : sm_Z → Prop} {I : sm_I} {L : sm_L} {R : sm_R} {x1 : Int32} {x2 : Int32} (h : ((x1 < 0 → Φ (some (.int (-1 : Int32)), (xLay, I, L, (kD12 R)))) ∧ (¬ x1 < 0 → ((x1 < (I 12 5) → (((x2).toInt = 0 → (vp_in x1 45) ∧ Φ (some (.int (I 34 x1.toNatClampNeg)), (xLay, I, L, (kD12 R)))) ∧ (¬ (x2).toInt = 0 → (((x2).toInt = 1 → (vp_in x1 45) ∧ Φ (some (.int (I 35 x1.toNatClampNeg)), (xLay, I, L, (kD12 R)))) ∧ (¬ (x2).toInt = 1 → (((x2).toInt = 2 → (vp_in x1 45) ∧ Φ (some (.int (I 36 x1.toNatClampNeg)), (xLay, I, L, (kD12 R)))) ∧ (¬ (x2).toInt = 2 → Φ (some (.int (-1 : Int32)), (xLay, I, L, (kD12 R)))))))))) ∧ (¬ x1 < (I 12 5) → Φ (some (.int (-1 : Int32)), (xLay, I, L, (kD12 R)))))))) : sm_wp sm_P S d 70 0 [.ref 0, .int x1, .int x2] [] (xLay, I, L, (kD12 R)) (0, 0) Φ := sm_wp_step (⟨fun q5 => ((h).1 q5), fun q5 => ⟨fun q4 => ⟨fun q3 => ⟨(((((((h).2 q5)).1 q4)).1 q3)).1, (((((((h).2 q5)).1 q4)).1 q3)).2⟩, fun q3 => ⟨fun q2 => ⟨(((((((((h).2 q5)).1 q4)).2 q3)).1 q2)).1, (((((((((h).2 q5)).1 q4)).2 q3)).1 q2)).2⟩, fun q2 => ⟨fun q1 => ⟨(((((((((((h).2 q5)).1 q4)).2 q3)).2 q2)).1 q1)).1, (((((((((((h).2 q5)).1 q4)).2 q3)).2 q2)).1 q1)).2⟩, fun q1 => ((((((((((h).2 q5)).1 q4)).2 q3)).2 q2)).2 q1)⟩⟩⟩, fun q4 => ((((h).2 q5)).2 q4)⟩⟩)
theorem pd12_X11_pick_0 {S : sm_C} {d : Nat} {Φ : sm_Z → Prop} {I : sm_I} {L : sm_L} {R : sm_R} {x1 : Int32} {x2 : Int32} (h : sm_wp sm_P S d 62 0 [.ref 0, .int x1] [] (xLay, I, L, (kD12 R)) (0, 0) (fun z => ∃ (r3 : Int32) (I1 : sm_I) (L2 : sm_L), z = (some (.int r3), (xLay, I1, L2, (kD12 R))) ∧ ((r3 = 0 → ((x1 < (100 : Int32) → Φ (some (.int (0 : Int32)), (xLay, I1, L2, (kD12 R)))) ∧ (¬ x1 < (100 : Int32) → (((I1 12 5) ≤ (x1 - (100 : Int32)) → Φ (some (.int (0 : Int32)), (xLay, I1, L2, (kD12 R)))) ∧ (¬ (I1 12 5) ≤ (x1 - (100 : Int32)) → ∀ n4 : Int32, n4 = (((10 : Int32) + x1) - (100 : Int32)) → (vp_in (x1 - (100 : Int32)) 45) ∧ ((0 ≤ (I1 36 (x1 - (100 : Int32)).toNatClampNeg) → sm_wp sm_P S (d + 1) 72 10 [.ref 0, .int x2, .int n4, .int (2 : Int32)] [] (xLay, I1, L2, (kD12 R)) (0, 0) Φ) ∧ (¬ 0 ≤ (I1 36 (x1 - (100 : Int32)).toNatClampNeg) → sm_wp sm_P S (d + 1) 72 10 [.ref 0, .int x2, .int n4, .int (0 : Int32)] [] (xLay, I1, L2, (kD12 R)) (0, 0) Φ))))))) ∧ (¬ r3 = 0 → sm_wp sm_P S d 55 0 [.ref 0, .int x1] [] (xLay, I1, L2, (kD12 R)) (0, 0) (fun z => ∃ (r10 : Int32) (I8 : sm_I) (L9 : sm_L), z = (some (.int r10), (xLay, I8, L9, (kD12 R))) ∧ ((r10 = 0 → (vp_in x1 10) ∧ sm_wp sm_P S (d + 1) 72 10 [.ref 0, .int x2, .int x1, .int (I8 22 x1.toNatClampNeg)] [] (xLay, I8, L9, (kD12 R)) (0, 0) Φ) ∧ (¬ r10 = 0 → ((x1 < (100 : Int32) → Φ (some (.int (0 : Int32)), (xLay, I8, L9, (kD12 R)))) ∧ (¬ x1 < (100 : Int32) → (((I8 12 5) ≤ (x1 - (100 : Int32)) → Φ (some (.int (0 : Int32)), (xLay, I8, L9, (kD12 R)))) ∧ (¬ (I8 12 5) ≤ (x1 - (100 : Int32)) → ∀ n11 : Int32, n11 = (((10 : Int32) + x1) - (100 : Int32)) → (vp_in (x1 - (100 : Int32)) 45) ∧ ((0 ≤ (I8 36 (x1 - (100 : Int32)).toNatClampNeg) → sm_wp sm_P S (d + 1) 72 10 [.ref 0, .int x2, .int n11, .int (2 : Int32)] [] (xLay, I8, L9, (kD12 R)) (0, 0) Φ) ∧ (¬ 0 ≤ (I8 36 (x1 - (100 : Int32)).toNatClampNeg) → sm_wp sm_P S (d + 1) 72 10 [.ref 0, .int x2, .int n11, .int (0 : Int32)] [] (xLay, I8, L9, (kD12 R)) (0, 0) Φ))))))))))))) : sm_wp sm_P S (d + 1) 72 0 [.ref 0, .int x1, .int x2] [] (xLay, I, L, (kD12 R)) (0, 0) Φ := sm_wp_step (sm_ci0 (h) (fun r3 I1 L2 q18 => ⟨fun q17 => ⟨fun q7 => ⟨Or.inl rfl, ((((q18).1 q17)).1 q7)⟩, fun q7 => ⟨fun q6 => ⟨Or.inl rfl, ((((((q18).1 q17)).2 q7)).1 q6)⟩, fun q6 => ⟨((((((((q18).1 q17)).2 q7)).2 q6) _ rfl)).1, ⟨fun q5 => ((((((((((q18).1 q17)).2 q7)).2 q6) _ rfl)).2).1 q5), fun q5 => ((((((((((q18).1 q17)).2 q7)).2 q6) _ rfl)).2).2 q5)⟩⟩⟩⟩, fun q17 => sm_ci0 (((q18).2 q17)) (fun r10 I8 L9 q16 => ⟨fun q15 => ⟨(((q16).1 q15)).1, (((q16).1 q15)).2⟩, fun q15 => ⟨fun q14 => ⟨Or.inl rfl, ((((q16).2 q15)).1 q14)⟩, fun q14 => ⟨fun q13 => ⟨Or.inl rfl, ((((((q16).2 q15)).2 q14)).1 q13)⟩, fun q13 => ⟨((((((((q16).2 q15)).2 q14)).2 q13) _ rfl)).1, ⟨fun q12 => ((((((((((q16).2 q15)).2 q14)).2 q13) _ rfl)).2).1 q12), fun q12 => ((((((((((q16).2 q15)).2 q14)).2 q13) _ rfl)).2).2 q12)⟩⟩⟩⟩⟩)⟩))
theorem pd12_X11_pick_10 {S : sm_C} {d : Nat} {Φ : sm_Z → Prop} {I : sm_I} {L : sm_L} {R : sm_R} {x2 : Int32} {x3 : Int32} {x4 : Int32} (h : ((x2 < (-1 : Int32) → Φ (some (.int (0 : Int32)), (xLay, I, L, (kD12 R)))) ∧ (¬ x2 < (-1 : Int32) → ((x2 < x4 → (vp_in x3 55) ∧ ∀ I1 : sm_I, I1 = (sm_up I 39 x3.toNatClampNeg x2) → Φ (some (.int (1 : Int32)), (xLay, (sm_up I1 98 9 (0 : Int32)), L, (kD12 R)))) ∧ (¬ x2 < x4 → Φ (some (.int (0 : Int32)), (xLay, I, L, (kD12 R)))))))) : sm_wp sm_P S (d + 1) 72 10 [.ref 0, .int x2, .int x3, .int x4] [] (xLay, I, L, (kD12 R)) (0, 0) Φ := sm_wp_step (⟨fun q3 => ⟨Or.inl rfl, ((h).1 q3)⟩, fun q3 => ⟨fun q2 => ⟨(((((h).2 q3)).1 q2)).1, ⟨Or.inl rfl, ⟨Or.inr rfl, ((((((h).2 q3)).1 q2)).2 _ rfl)⟩⟩⟩, fun q2 => ⟨Or.inl rfl, ((((h).2 q3)).2 q2)⟩⟩⟩)
end
section
/-! conditions of the class with told = 49 (wip/pe/symd.py) -/
def kD49l : List (Nat × Nat × Nat) := [(0, 0, 1), (0, 1, 2), (0, 2, 37), (0, 3, 45), (0, 4, 74), (0, 5, 82), (0, 6, 90), (0, 7, 98), (0, 8, 103), (37, 2, 38), (37, 3, 39), (37, 4, 40), (40, 0, 41), (40, 1, 42), (40, 2, 43), (40, 3, 44), (49, 7, 50), (49, 8, 51), (49, 9, 52), (49, 10, 53), (49, 11, 58), (49, 12, 59), (49, 13, 60), (49, 14, 61), (49, 15, 66), (49, 16, 71), (49, 17, 72), (49, 18, 73), (53, 0, 54), (53, 1, 55), (53, 2, 56), (53, 3, 57), (61, 0, 62), (61, 1, 63), (61, 2, 64), (61, 3, 65), (66, 0, 67), (66, 1, 68), (66, 2, 69), (66, 3, 70), (0, 9, 49)]
def kD49 (R : sm_R) : sm_R := fun x j => match kD49l.find? (fun t => Nat.beq t.1 x && Nat.beq t.2.1 j) with
  | some t => some t.2.2
  | none => R x j
theorem pd49h_X11_valueAt_0 {S : sm_C} {d : Nat} {Φ : sm_Z → Prop} {I : sm_I} {L : sm_L} {R : sm_R} {x1 : Int32} {x2 : Int32} (h : ((x1 < 0 → Φ (some (.int x2), (xLay, I, L, (kD49 R)))) ∧ (¬ x1 < 0 → (((Int32.ofNat 10) ≤ x1 → Φ (some (.int x2), (xLay, I, L, (kD49 R)))) ∧ (¬ (Int32.ofNat 10) ≤ x1 → (vp_in x1 10) ∧ Φ (some (.int (I 38 x1.toNatClampNeg)), (xLay, I, L, (kD49 R)))))))) : sm_wp sm_P S d 89 0 [.ref 38, .int x1, .int x2] [] (xLay, I, L, (kD49 R)) (0, 0) Φ := sm_wp_step (⟨fun q2 => ((h).1 q2), fun q2 => ⟨fun q1 => ((((h).2 q2)).1 q1), fun q1 => ⟨(((((h).2 q2)).2 q1)).1, (((((h).2 q2)).2 q1)).2⟩⟩⟩)
theorem pd49_X10_firstSpan_0 {S : sm_C} {d : Nat} {Φ : sm_Z → Prop} {I : sm_I} {L : sm_L} {R : sm_R} {x1 : Int32} {x2 : Int32} (h : Φ (some (.int (((x1 * (4 : Int32)) + x2) * (3 : Int32))), (xLay, I, L, (kD49 R)))) : sm_wp sm_P S d 19 0 [.ref 49, .int x1, .int x2] [] (xLay, I, L, (kD49 R)) (0, 0) Φ := sm_wp_step (h)
theorem pd49_X10_partsOf_0 {S : sm_C} {d : Nat} {Φ : sm_Z → Prop} {I : sm_I} {L : sm_L} {R : sm_R} {x1 : Int32} {x2 : Int32} (h : ((((x1 * (4 : Int32)) + x2) < 0 → Φ (some (.int (0 : Int32)), (xLay, I, L, (kD49 R)))) ∧ (¬ ((x1 * (4 : Int32)) + x2) < 0 → (((Int32.ofNat 40) ≤ ((x1 * (4 : Int32)) + x2) → Φ (some (.int (0 : Int32)), (xLay, I, L, (kD49 R)))) ∧ (¬ (Int32.ofNat 40) ≤ ((x1 * (4 : Int32)) + x2) → (vp_in ((x1 * (4 : Int32)) + x2) 40) ∧ Φ (some (.int (I 60 ((x1 * (4 : Int32)) + x2).toNatClampNeg)), (xLay, I, L, (kD49 R)))))))) : sm_wp sm_P S d 23 0 [.ref 49, .int x1, .int x2] [] (xLay, I, L, (kD49 R)) (0, 0) Φ := sm_wp_step (⟨fun q2 => ((h).1 q2), fun q2 => ⟨fun q1 => ((((h).2 q2)).1 q1), fun q1 => ⟨(((((h).2 q2)).2 q1)).1, (((((h).2 q2)).2 q1)).2⟩⟩⟩)
theorem pd49_X10_walkBetween_0 {S : sm_C} {d : Nat} {Φ : sm_Z → Prop} {I : sm_I} {L : sm_L} {R : sm_R} {x1 : Int32} {x2 : Int32} (h : ((x1 < 0 → Φ (some (.int (-2 : Int32)), (xLay, I, L, (kD49 R)))) ∧ (¬ x1 < 0 → (((6 : Int32) ≤ x1 → Φ (some (.int (-2 : Int32)), (xLay, I, L, (kD49 R)))) ∧ (¬ (6 : Int32) ≤ x1 → ((x2 < 0 → Φ (some (.int (-2 : Int32)), (xLay, I, L, (kD49 R)))) ∧ (¬ x2 < 0 → ((x2 < (6 : Int32) → (vp_in ((x1 * (6 : Int32)) + x2) 36) ∧ Φ (some (.int (I 50 ((x1 * (6 : Int32)) + x2).toNatClampNeg)), (xLay, I, L, (kD49 R)))) ∧ (¬ x2 < (6 : Int32) → Φ (some (.int (-2 : Int32)), (xLay, I, L, (kD49 R)))))))))))) : sm_wp sm_P S d 27 0 [.ref 49, .int x1, .int x2] [] (xLay, I, L, (kD49 R)) (0, 0) Φ := sm_wp_step (⟨fun q4 => ((h).1 q4), fun q4 => ⟨fun q3 => ((((h).2 q4)).1 q3), fun q3 => ⟨fun q2 => ((((((h).2 q4)).2 q3)).1 q2), fun q2 => ⟨fun q1 => ⟨(((((((((h).2 q4)).2 q3)).2 q2)).1 q1)).1, (((((((((h).2 q4)).2 q3)).2 q2)).1 q1)).2⟩, fun q1 => ((((((((h).2 q4)).2 q3)).2 q2)).2 q1)⟩⟩⟩⟩)
theorem pd49_X8_hasRow_0 {S : sm_C} {d : Nat} {Φ : sm_Z → Prop} {I : sm_I} {L : sm_L} {R : sm_R} {x1 : Int32} (h : ((x1 < 0 → Φ (some (.int (0 : Int32)), (xLay, I, L, (kD49 R)))) ∧ (¬ x1 < 0 → (((Int32.ofNat 120) ≤ x1 → Φ (some (.int (0 : Int32)), (xLay, I, L, (kD49 R)))) ∧ (¬ (Int32.ofNat 120) ≤ x1 → Φ (some (.int (1 : Int32)), (xLay, I, L, (kD49 R)))))))) : sm_wp sm_P S d 287 0 [.ref 61, .int x1] [] (xLay, I, L, (kD49 R)) (0, 0) Φ := sm_wp_step (⟨fun q2 => ⟨Or.inl rfl, ((h).1 q2)⟩, fun q2 => ⟨fun q1 => ⟨Or.inl rfl, ((((h).2 q2)).1 q1)⟩, fun q1 => ⟨Or.inr rfl, ((((h).2 q2)).2 q1)⟩⟩⟩)
theorem pd49_X8_isSet_0 {S : sm_C} {d : Nat} {Φ : sm_Z → Prop} {I : sm_I} {L : sm_L} {R : sm_R} {x1 : Int32} (h : sm_wp sm_P S d 287 0 [.ref 61, .int x1] [] (xLay, I, L, (kD49 R)) (0, 0) (fun z => ∃ (r3 : Int32) (I1 : sm_I) (L2 : sm_L), z = (some (.int r3), (xLay, I1, L2, (kD49 R))) ∧ ((r3 = 0 → Φ (some (.int (0 : Int32)), (xLay, I1, L2, (kD49 R)))) ∧ (¬ r3 = 0 → (vp_in x1 120) ∧ sm_wp sm_P S d 89 0 [.ref 38, .int (I1 62 x1.toNatClampNeg), .int (-1 : Int32)] [] (xLay, I1, L2, (kD49 R)) (0, 0) (fun z => ∃ (r6 : Int32) (I4 : sm_I) (L5 : sm_L), z = (some (.int r6), (xLay, I4, L5, (kD49 R))) ∧ ((r6 = (-1 : Int32) → Φ (some (.int (0 : Int32)), (xLay, I4, L5, (kD49 R)))) ∧ (¬ r6 = (-1 : Int32) → (vp_in x1 120) ∧ (((I4 63 x1.toNatClampNeg) = (-1 : Int32) → Φ (some (.int (1 : Int32)), (xLay, I4, L5, (kD49 R)))) ∧ (¬ (I4 63 x1.toNatClampNeg) = (-1 : Int32) → (vp_in x1 120) ∧ sm_wp sm_P S d 89 0 [.ref 38, .int (I4 63 x1.toNatClampNeg), .int (-1 : Int32)] [] (xLay, I4, L5, (kD49 R)) (0, 0) (fun z => ∃ (r9 : Int32) (I7 : sm_I) (L8 : sm_L), z = (some (.int r9), (xLay, I7, L8, (kD49 R))) ∧ ((r9 = (-1 : Int32) → Φ (some (.int (0 : Int32)), (xLay, I7, L8, (kD49 R)))) ∧ (¬ r9 = (-1 : Int32) → Φ (some (.int (1 : Int32)), (xLay, I7, L8, (kD49 R))))))))))))))) : sm_wp sm_P S (d + 1) 293 0 [.ref 61, .int x1, .ref 38] [] (xLay, I, L, (kD49 R)) (0, 0) Φ := sm_wp_step (sm_ci0 (h) (fun r3 I1 L2 q16 => ⟨fun q15 => ⟨Or.inl rfl, ((q16).1 q15)⟩, fun q15 => ⟨(((q16).2 q15)).1, sm_ci0 ((((q16).2 q15)).2) (fun r6 I4 L5 q14 => ⟨fun q13 => ⟨Or.inl rfl, ((q14).1 q13)⟩, fun q13 => ⟨(((q14).2 q13)).1, ⟨fun q12 => ⟨Or.inr rfl, (((((q14).2 q13)).2).1 q12)⟩, fun q12 => ⟨((((((q14).2 q13)).2).2 q12)).1, sm_ci0 (((((((q14).2 q13)).2).2 q12)).2) (fun r9 I7 L8 q11 => ⟨fun q10 => ⟨Or.inl rfl, ((q11).1 q10)⟩, fun q10 => ⟨Or.inr rfl, ((q11).2 q10)⟩⟩)⟩⟩⟩⟩)⟩⟩))
theorem pd49_X8_holds_0 {S : sm_C} {d : Nat} {Φ : sm_Z → Prop} {I : sm_I} {L : sm_L} {R : sm_R} {x1 : Int32} (h : sm_wp sm_P S d 287 0 [.ref 61, .int x1] [] (xLay, I, L, (kD49 R)) (0, 0) (fun z => ∃ (r3 : Int32) (I1 : sm_I) (L2 : sm_L), z = (some (.int r3), (xLay, I1, L2, (kD49 R))) ∧ ((r3 = 0 → Φ (some (.int (0 : Int32)), (xLay, I1, L2, (kD49 R)))) ∧ (¬ r3 = 0 → (vp_in x1 120) ∧ sm_wp sm_P S d 89 0 [.ref 38, .int (I1 62 x1.toNatClampNeg), .int (0 : Int32)] [] (xLay, I1, L2, (kD49 R)) (0, 0) (fun z => ∃ (r6 : Int32) (I4 : sm_I) (L5 : sm_L), z = (some (.int r6), (xLay, I4, L5, (kD49 R))) ∧ (vp_in x1 120) ∧ sm_wp sm_P S d 89 0 [.ref 38, .int (I4 63 x1.toNatClampNeg), .int (0 : Int32)] [] (xLay, I4, L5, (kD49 R)) (0, 0) (fun z => ∃ (r9 : Int32) (I7 : sm_I) (L8 : sm_L), z = (some (.int r9), (xLay, I7, L8, (kD49 R))) ∧ (vp_in x1 120) ∧ (((r6 - r9) < (I7 64 x1.toNatClampNeg) → Φ (some (.int (0 : Int32)), (xLay, I7, L8, (kD49 R)))) ∧ (¬ (r6 - r9) < (I7 64 x1.toNatClampNeg) → (vp_in x1 120) ∧ (((I7 65 x1.toNatClampNeg) < (r6 - r9) → Φ (some (.int (0 : Int32)), (xLay, I7, L8, (kD49 R)))) ∧ (¬ (I7 65 x1.toNatClampNeg) < (r6 - r9) → Φ (some (.int (1 : Int32)), (xLay, I7, L8, (kD49 R))))))))))))) : sm_wp sm_P S (d + 1) 288 0 [.ref 61, .int x1, .ref 38] [] (xLay, I, L, (kD49 R)) (0, 0) Φ := sm_wp_step (sm_ci0 (h) (fun r3 I1 L2 q15 => ⟨fun q14 => ⟨Or.inl rfl, ((q15).1 q14)⟩, fun q14 => ⟨(((q15).2 q14)).1, sm_ci0 ((((q15).2 q14)).2) (fun r6 I4 L5 q13 => ⟨(q13).1, sm_ci0 ((q13).2) (fun r9 I7 L8 q12 => ⟨(q12).1, ⟨fun q11 => ⟨Or.inl rfl, (((q12).2).1 q11)⟩, fun q11 => ⟨((((q12).2).2 q11)).1, ⟨fun q10 => ⟨Or.inl rfl, ((((((q12).2).2 q11)).2).1 q10)⟩, fun q10 => ⟨Or.inr rfl, ((((((q12).2).2 q11)).2).2 q10)⟩⟩⟩⟩⟩)⟩)⟩⟩))
theorem pd49_X11_isPlace_0 {S : sm_C} {d : Nat} {Φ : sm_Z → Prop} {I : sm_I} {L : sm_L} {R : sm_R} {x1 : Int32} (h : ((x1 < 0 → Φ (some (.int (0 : Int32)), (xLay, I, L, (kD49 R)))) ∧ (¬ x1 < 0 → (((I 49 1) ≤ x1 → Φ (some (.int (0 : Int32)), (xLay, I, L, (kD49 R)))) ∧ (¬ (I 49 1) ≤ x1 → Φ (some (.int (1 : Int32)), (xLay, I, L, (kD49 R)))))))) : sm_wp sm_P S d 60 0 [.ref 0, .int x1] [] (xLay, I, L, (kD49 R)) (0, 0) Φ := sm_wp_step (⟨fun q2 => ⟨Or.inl rfl, ((h).1 q2)⟩, fun q2 => ⟨fun q1 => ⟨Or.inl rfl, ((((h).2 q2)).1 q1)⟩, fun q1 => ⟨Or.inr rfl, ((((h).2 q2)).2 q1)⟩⟩⟩)
theorem pd49_X11_isDoubted_0 {S : sm_C} {d : Nat} {Φ : sm_Z → Prop} {I : sm_I} {L : sm_L} {R : sm_R} {x1 : Int32} (h : (((((I 37 0) >>> (x1 &&& 31)) &&& (1 : Int32)) = 0 → Φ (some (.int (0 : Int32)), (xLay, I, L, (kD49 R)))) ∧ (¬ (((I 37 0) >>> (x1 &&& 31)) &&& (1 : Int32)) = 0 → Φ (some (.int (1 : Int32)), (xLay, I, L, (kD49 R)))))) : sm_wp sm_P S d 55 0 [.ref 0, .int x1] [] (xLay, I, L, (kD49 R)) (0, 0) Φ := sm_wp_step (⟨fun q1 => ⟨Or.inl rfl, ((h).1 q1)⟩, fun q1 => ⟨Or.inr rfl, ((h).2 q1)⟩⟩)
theorem pd49_X11_bears_0 {S : sm_C} {d : Nat} {Φ : sm_Z → Prop} {I : sm_I} {L : sm_L} {R : sm_R} {x1 : Int32} (h : sm_wp sm_P S d 62 0 [.ref 0, .int x1] [] (xLay, I, L, (kD49 R)) (0, 0) (fun z => ∃ (r3 : Int32) (I1 : sm_I) (L2 : sm_L), z = (some (.int r3), (xLay, I1, L2, (kD49 R))) ∧ ((r3 = 0 → Φ (some (.int (-1 : Int32)), (xLay, I1, L2, (kD49 R)))) ∧ (¬ r3 = 0 → (vp_in x1 10) ∧ ∀ n4 : Int32, n4 = ((I1 59 x1.toNatClampNeg) - (1 : Int32)) → sm_wp sm_P S (d + 1) 31 3 [.ref 0, .int x1, .int (-2 : Int32), .int n4] [] (xLay, I1, L2, (kD49 R)) (0, 0) Φ)))) : sm_wp sm_P S (d + 1) 31 0 [.ref 0, .int x1] [] (xLay, I, L, (kD49 R)) (0, 0) Φ := sm_wp_step (sm_ci0 (h) (fun r3 I1 L2 q6 => ⟨fun q5 => ((q6).1 q5), fun q5 => ⟨(((q6).2 q5)).1, ((((q6).2 q5)).2 _ rfl)⟩⟩))
theorem pd49_X11_bears_3 {S : sm_C} {d : Nat} {Φ : sm_Z → Prop} {I : sm_I} {L : sm_L} {R : sm_R} {x1 : Int32} {x2 : Int32} {x3 : Int32} (h : ((x3 < 0 → Φ (some (.int x2), (xLay, I, L, (kD49 R)))) ∧ (¬ x3 < 0 → sm_wp sm_P S d 19 0 [.ref 49, .int x1, .int x3] [] (xLay, I, L, (kD49 R)) (0, 0) (fun z => ∃ (r3 : Int32) (I1 : sm_I) (L2 : sm_L), z = (some (.int r3), (xLay, I1, L2, (kD49 R))) ∧ sm_wp sm_P S (d + 1) 31 5 [.ref 0, .int x1, .int x2, .int x3, .int r3, .int (1 : Int32), .int r3] [] (xLay, I1, L2, (kD49 R)) (0, 0) Φ)))) : sm_wp sm_P S (d + 1) 31 3 [.ref 0, .int x1, .int x2, .int x3] [] (xLay, I, L, (kD49 R)) (0, 0) Φ := sm_wp_step (⟨fun q5 => ((h).1 q5), fun q5 => sm_ci0 (((h).2 q5)) (fun r3 I1 L2 q4 => q4)⟩)
theorem pd49_X11_bears_5 {S : sm_C} {d : Nat} {Φ : sm_Z → Prop} {I : sm_I} {L : sm_L} {R : sm_R} {x1 : Int32} {x2 : Int32} {x3 : Int32} {x4 : Int32} {x5 : Int32} {x6 : Int32} (h : sm_wp sm_P S d 23 0 [.ref 49, .int x1, .int x3] [] (xLay, I, L, (kD49 R)) (0, 0) (fun z => ∃ (r3 : Int32) (I1 : sm_I) (L2 : sm_L), z = (some (.int r3), (xLay, I1, L2, (kD49 R))) ∧ (((x4 + r3) ≤ x6 → ((x5 = 0 → sm_wp sm_P S (d + 1) 31 3 [.ref 0, .int x1, .int x2, .int (x3 + (-1 : Int32))] [] (xLay, I1, L2, (kD49 R)) (0, 0) Φ) ∧ (¬ x5 = 0 → sm_wp sm_P S (d + 1) 31 3 [.ref 0, .int x1, .int x3, .int (x3 + (-1 : Int32))] [] (xLay, I1, L2, (kD49 R)) (0, 0) Φ))) ∧ (¬ (x4 + r3) ≤ x6 → sm_wp sm_P S d 293 0 [.ref 61, .int x6, .ref 38] [] (xLay, I1, L2, (kD49 R)) (0, 0) (fun z => ∃ (r7 : Int32) (I5 : sm_I) (L6 : sm_L), z = (some (.int r7), (xLay, I5, L6, (kD49 R))) ∧ ((r7 = 0 → Φ (some (.int (-4 : Int32)), (xLay, I5, L6, (kD49 R)))) ∧ (¬ r7 = 0 → ((x5 = 0 → sm_wp sm_P S (d + 1) 31 5 [.ref 0, .int x1, .int x2, .int x3, .int x4, .int (0 : Int32), .int (x6 + (1 : Int32))] [] (xLay, I5, L6, (kD49 R)) (0, 0) Φ) ∧ (¬ x5 = 0 → sm_wp sm_P S d 288 0 [.ref 61, .int x6, .ref 38] [] (xLay, I5, L6, (kD49 R)) (0, 0) (fun z => ∃ (r10 : Int32) (I8 : sm_I) (L9 : sm_L), z = (some (.int r10), (xLay, I8, L9, (kD49 R))) ∧ ((r10 = 0 → sm_wp sm_P S (d + 1) 31 5 [.ref 0, .int x1, .int x2, .int x3, .int x4, .int (0 : Int32), .int (x6 + (1 : Int32))] [] (xLay, I8, L9, (kD49 R)) (0, 0) Φ) ∧ (¬ r10 = 0 → sm_wp sm_P S (d + 1) 31 5 [.ref 0, .int x1, .int x2, .int x3, .int x4, .int (1 : Int32), .int (x6 + (1 : Int32))] [] (xLay, I8, L9, (kD49 R)) (0, 0) Φ)))))))))))) : sm_wp sm_P S (d + 1) 31 5 [.ref 0, .int x1, .int x2, .int x3, .int x4, .int x5, .int x6] [] (xLay, I, L, (kD49 R)) (0, 0) Φ := sm_wp_step (sm_ci0 (h) (fun r3 I1 L2 q17 => ⟨fun q16 => ⟨fun q4 => ((((q17).1 q16)).1 q4), fun q4 => ((((q17).1 q16)).2 q4)⟩, fun q16 => sm_ci0 (((q17).2 q16)) (fun r7 I5 L6 q15 => ⟨fun q14 => ((q15).1 q14), fun q14 => ⟨fun q13 => ((((q15).2 q14)).1 q13), fun q13 => sm_ci0 (((((q15).2 q14)).2 q13)) (fun r10 I8 L9 q12 => ⟨fun q11 => ((q12).1 q11), fun q11 => ((q12).2 q11)⟩)⟩⟩)⟩))
theorem pd49_X11_breaks_0 {S : sm_C} {d : Nat} {Φ : sm_Z → Prop} {I : sm_I} {L : sm_L} {R : sm_R} (h : sm_wp sm_P S (d + 1) 33 1 [.ref 0, .int (0 : Int32)] [] (xLay, I, L, (kD49 R)) (0, 0) Φ) : sm_wp sm_P S (d + 1) 33 0 [.ref 0] [] (xLay, I, L, (kD49 R)) (0, 0) Φ := sm_wp_step (h)
theorem pd49_X11_breaks_1 {S : sm_C} {d : Nat} {Φ : sm_Z → Prop} {I : sm_I} {L : sm_L} {R : sm_R} {x1 : Int32} (h : (((I 49 5) ≤ x1 → Φ (some (.int (-2 : Int32)), (xLay, I, L, (kD49 R)))) ∧ (¬ (I 49 5) ≤ x1 → (vp_in x1 45) ∧ sm_wp sm_P S d 89 0 [.ref 38, .int (I 71 x1.toNatClampNeg), .int (-1 : Int32)] [] (xLay, I, L, (kD49 R)) (0, 0) (fun z => ∃ (r3 : Int32) (I1 : sm_I) (L2 : sm_L), z = (some (.int r3), (xLay, I1, L2, (kD49 R))) ∧ (vp_in x1 45) ∧ sm_wp sm_P S d 89 0 [.ref 38, .int (I1 72 x1.toNatClampNeg), .int (-1 : Int32)] [] (xLay, I1, L2, (kD49 R)) (0, 0) (fun z => ∃ (r6 : Int32) (I4 : sm_I) (L5 : sm_L), z = (some (.int r6), (xLay, I4, L5, (kD49 R))) ∧ (vp_in x1 45) ∧ ((r3 = (-1 : Int32) → sm_wp sm_P S (d + 1) 33 1 [.ref 0, .int (x1 + (1 : Int32))] [] (xLay, I4, L5, (kD49 R)) (0, 0) Φ) ∧ (¬ r3 = (-1 : Int32) → ((r6 = (-1 : Int32) → sm_wp sm_P S (d + 1) 33 1 [.ref 0, .int (x1 + (1 : Int32))] [] (xLay, I4, L5, (kD49 R)) (0, 0) Φ) ∧ (¬ r6 = (-1 : Int32) → (((I4 73 x1.toNatClampNeg) < 0 → Φ (some (.int x1), (xLay, I4, L5, (kD49 R)))) ∧ (¬ (I4 73 x1.toNatClampNeg) < 0 → (((I4 73 x1.toNatClampNeg) ≤ (if 0 ≤ (r6 - r3) then (r6 - r3) else 0 - (r6 - r3)) → sm_wp sm_P S (d + 1) 33 1 [.ref 0, .int (x1 + (1 : Int32))] [] (xLay, I4, L5, (kD49 R)) (0, 0) Φ) ∧ (¬ (I4 73 x1.toNatClampNeg) ≤ (if 0 ≤ (r6 - r3) then (r6 - r3) else 0 - (r6 - r3)) → Φ (some (.int x1), (xLay, I4, L5, (kD49 R)))))))))))))))) : sm_wp sm_P S (d + 1) 33 1 [.ref 0, .int x1] [] (xLay, I, L, (kD49 R)) (0, 0) Φ := sm_wp_step (⟨fun q13 => ((h).1 q13), fun q13 => ⟨(((h).2 q13)).1, sm_ci0 ((((h).2 q13)).2) (fun r3 I1 L2 q12 => ⟨(q12).1, sm_ci0 ((q12).2) (fun r6 I4 L5 q11 => ⟨(q11).1, ⟨fun q10 => (((q11).2).1 q10), fun q10 => ⟨fun q9 => (((((q11).2).2 q10)).1 q9), fun q9 => ⟨fun q8 => (((((((q11).2).2 q10)).2 q9)).1 q8), fun q8 => ⟨fun q7 => (((((((((q11).2).2 q10)).2 q9)).2 q8)).1 q7), fun q7 => (((((((((q11).2).2 q10)).2 q9)).2 q8)).2 q7)⟩⟩⟩⟩⟩)⟩)⟩⟩)
theorem pd49_X11_walk_0 {S : sm_C} {d : Nat} {Φ : sm_Z → Prop} {I : sm_I} {L : sm_L} {R : sm_R} {x1 : Int32} {x2 : Int32} (h : sm_wp sm_P S d 60 0 [.ref 0, .int x1] [] (xLay, I, L, (kD49 R)) (0, 0) (fun z => ∃ (r3 : Int32) (I1 : sm_I) (L2 : sm_L), z = (some (.int r3), (xLay, I1, L2, (kD49 R))) ∧ ((r3 = 0 → Φ (some (.int (-1 : Int32)), (xLay, I1, L2, (kD49 R)))) ∧ (¬ r3 = 0 → sm_wp sm_P S d 60 0 [.ref 0, .int x2] [] (xLay, I1, L2, (kD49 R)) (0, 0) (fun z => ∃ (r6 : Int32) (I4 : sm_I) (L5 : sm_L), z = (some (.int r6), (xLay, I4, L5, (kD49 R))) ∧ ((r6 = 0 → Φ (some (.int (-1 : Int32)), (xLay, I4, L5, (kD49 R)))) ∧ (¬ r6 = 0 → sm_wp sm_P S d 27 0 [.ref 49, .int x1, .int x2] [] (xLay, I4, L5, (kD49 R)) (0, 0) (fun z => ∃ (r9 : Int32) (I7 : sm_I) (L8 : sm_L), z = (some (.int r9), (xLay, I7, L8, (kD49 R))) ∧ Φ (some (.int r9), (xLay, I7, L8, (kD49 R))))))))))) : sm_wp sm_P S (d + 1) 90 0 [.ref 0, .int x1, .int x2] [] (xLay, I, L, (kD49 R)) (0, 0) Φ := sm_wp_step (sm_ci0 (h) (fun r3 I1 L2 q14 => ⟨fun q13 => ((q14).1 q13), fun q13 => sm_ci0 (((q14).2 q13)) (fun r6 I4 L5 q12 => ⟨fun q11 => ((q12).1 q11), fun q11 => sm_ci0 (((q12).2 q11)) (fun r9 I7 L8 q10 => q10)⟩)⟩))
theorem pd49_X11_move_0 {S : sm_C} {d : Nat} {Φ : sm_Z → Prop} {I : sm_I} {L : sm_L} {R : sm_R} {x1 : Int32} {x2 : Int32} (h : ((x1 < 0 → Φ (some (.int (-1 : Int32)), (xLay, I, L, (kD49 R)))) ∧ (¬ x1 < 0 → ((x1 < (I 49 5) → (((x2).toInt = 0 → (vp_in x1 45) ∧ Φ (some (.int (I 71 x1.toNatClampNeg)), (xLay, I, L, (kD49 R)))) ∧ (¬ (x2).toInt = 0 → (((x2).toInt = 1 → (vp_in x1 45) ∧ Φ (some (.int (I 72 x1.toNatClampNeg)), (xLay, I, L, (kD49 R)))) ∧ (¬ (x2).toInt = 1 → (((x2).toInt = 2 → (vp_in x1 45) ∧ Φ (some (.int (I 73 x1.toNatClampNeg)), (xLay, I, L, (kD49 R)))) ∧ (¬ (x2).toInt = 2 → Φ (some (.int (-1 : Int32)), (xLay, I, L, (kD49 R)))))))))) ∧ (¬ x1 < (I 49 5) → Φ (some (.int (-1 : Int32)), (xLay, I, L, (kD49 R)))))))) : sm_wp sm_P S d 70 0 [.ref 0, .int x1, .int x2] [] (xLay, I, L, (kD49 R)) (0, 0) Φ := sm_wp_step (⟨fun q5 => ((h).1 q5), fun q5 => ⟨fun q4 => ⟨fun q3 => ⟨(((((((h).2 q5)).1 q4)).1 q3)).1, (((((((h).2 q5)).1 q4)).1 q3)).2⟩, fun q3 => ⟨fun q2 => ⟨(((((((((h).2 q5)).1 q4)).2 q3)).1 q2)).1, (((((((((h).2 q5)).1 q4)).2 q3)).1 q2)).2⟩, fun q2 => ⟨fun q1 => ⟨(((((((((((h).2 q5)).1 q4)).2 q3)).2 q2)).1 q1)).1, (((((((((((h).2 q5)).1 q4)).2 q3)).2 q2)).1 q1)).2⟩, fun q1 => ((((((((((h).2 q5)).1 q4)).2 q3)).2 q2)).2 q1)⟩⟩⟩, fun q4 => ((((h).2 q5)).2 q4)⟩⟩)
theorem pd49_X11_pick_0 {S : sm_C} {d : Nat} {Φ : sm_Z → Prop} {I : sm_I} {L : sm_L} {R : sm_R} {x1 : Int32} {x2 : Int32} (h : sm_wp sm_P S d 62 0 [.ref 0, .int x1] [] (xLay, I, L, (kD49 R)) (0, 0) (fun z => ∃ (r3 : Int32) (I1 : sm_I) (L2 : sm_L), z = (some (.int r3), (xLay, I1, L2, (kD49 R))) ∧ ((r3 = 0 → ((x1 < (100 : Int32) → Φ (some (.int (0 : Int32)), (xLay, I1, L2, (kD49 R)))) ∧ (¬ x1 < (100 : Int32) → (((I1 49 5) ≤ (x1 - (100 : Int32)) → Φ (some (.int (0 : Int32)), (xLay, I1, L2, (kD49 R)))) ∧ (¬ (I1 49 5) ≤ (x1 - (100 : Int32)) → ∀ n4 : Int32, n4 = (((10 : Int32) + x1) - (100 : Int32)) → (vp_in (x1 - (100 : Int32)) 45) ∧ ((0 ≤ (I1 73 (x1 - (100 : Int32)).toNatClampNeg) → sm_wp sm_P S (d + 1) 72 10 [.ref 0, .int x2, .int n4, .int (2 : Int32)] [] (xLay, I1, L2, (kD49 R)) (0, 0) Φ) ∧ (¬ 0 ≤ (I1 73 (x1 - (100 : Int32)).toNatClampNeg) → sm_wp sm_P S (d + 1) 72 10 [.ref 0, .int x2, .int n4, .int (0 : Int32)] [] (xLay, I1, L2, (kD49 R)) (0, 0) Φ))))))) ∧ (¬ r3 = 0 → sm_wp sm_P S d 55 0 [.ref 0, .int x1] [] (xLay, I1, L2, (kD49 R)) (0, 0) (fun z => ∃ (r10 : Int32) (I8 : sm_I) (L9 : sm_L), z = (some (.int r10), (xLay, I8, L9, (kD49 R))) ∧ ((r10 = 0 → (vp_in x1 10) ∧ sm_wp sm_P S (d + 1) 72 10 [.ref 0, .int x2, .int x1, .int (I8 59 x1.toNatClampNeg)] [] (xLay, I8, L9, (kD49 R)) (0, 0) Φ) ∧ (¬ r10 = 0 → ((x1 < (100 : Int32) → Φ (some (.int (0 : Int32)), (xLay, I8, L9, (kD49 R)))) ∧ (¬ x1 < (100 : Int32) → (((I8 49 5) ≤ (x1 - (100 : Int32)) → Φ (some (.int (0 : Int32)), (xLay, I8, L9, (kD49 R)))) ∧ (¬ (I8 49 5) ≤ (x1 - (100 : Int32)) → ∀ n11 : Int32, n11 = (((10 : Int32) + x1) - (100 : Int32)) → (vp_in (x1 - (100 : Int32)) 45) ∧ ((0 ≤ (I8 73 (x1 - (100 : Int32)).toNatClampNeg) → sm_wp sm_P S (d + 1) 72 10 [.ref 0, .int x2, .int n11, .int (2 : Int32)] [] (xLay, I8, L9, (kD49 R)) (0, 0) Φ) ∧ (¬ 0 ≤ (I8 73 (x1 - (100 : Int32)).toNatClampNeg) → sm_wp sm_P S (d + 1) 72 10 [.ref 0, .int x2, .int n11, .int (0 : Int32)] [] (xLay, I8, L9, (kD49 R)) (0, 0) Φ))))))))))))) : sm_wp sm_P S (d + 1) 72 0 [.ref 0, .int x1, .int x2] [] (xLay, I, L, (kD49 R)) (0, 0) Φ := sm_wp_step (sm_ci0 (h) (fun r3 I1 L2 q18 => ⟨fun q17 => ⟨fun q7 => ⟨Or.inl rfl, ((((q18).1 q17)).1 q7)⟩, fun q7 => ⟨fun q6 => ⟨Or.inl rfl, ((((((q18).1 q17)).2 q7)).1 q6)⟩, fun q6 => ⟨((((((((q18).1 q17)).2 q7)).2 q6) _ rfl)).1, ⟨fun q5 => ((((((((((q18).1 q17)).2 q7)).2 q6) _ rfl)).2).1 q5), fun q5 => ((((((((((q18).1 q17)).2 q7)).2 q6) _ rfl)).2).2 q5)⟩⟩⟩⟩, fun q17 => sm_ci0 (((q18).2 q17)) (fun r10 I8 L9 q16 => ⟨fun q15 => ⟨(((q16).1 q15)).1, (((q16).1 q15)).2⟩, fun q15 => ⟨fun q14 => ⟨Or.inl rfl, ((((q16).2 q15)).1 q14)⟩, fun q14 => ⟨fun q13 => ⟨Or.inl rfl, ((((((q16).2 q15)).2 q14)).1 q13)⟩, fun q13 => ⟨((((((((q16).2 q15)).2 q14)).2 q13) _ rfl)).1, ⟨fun q12 => ((((((((((q16).2 q15)).2 q14)).2 q13) _ rfl)).2).1 q12), fun q12 => ((((((((((q16).2 q15)).2 q14)).2 q13) _ rfl)).2).2 q12)⟩⟩⟩⟩⟩)⟩))
theorem pd49_X11_pick_10 {S : sm_C} {d : Nat} {Φ : sm_Z → Prop} {I : sm_I} {L : sm_L} {R : sm_R} {x2 : Int32} {x3 : Int32} {x4 : Int32} (h : ((x2 < (-1 : Int32) → Φ (some (.int (0 : Int32)), (xLay, I, L, (kD49 R)))) ∧ (¬ x2 < (-1 : Int32) → ((x2 < x4 → (vp_in x3 55) ∧ ∀ I1 : sm_I, I1 = (sm_up I 39 x3.toNatClampNeg x2) → Φ (some (.int (1 : Int32)), (xLay, (sm_up I1 98 9 (0 : Int32)), L, (kD49 R)))) ∧ (¬ x2 < x4 → Φ (some (.int (0 : Int32)), (xLay, I, L, (kD49 R)))))))) : sm_wp sm_P S (d + 1) 72 10 [.ref 0, .int x2, .int x3, .int x4] [] (xLay, I, L, (kD49 R)) (0, 0) Φ := sm_wp_step (⟨fun q3 => ⟨Or.inl rfl, ((h).1 q3)⟩, fun q3 => ⟨fun q2 => ⟨(((((h).2 q3)).1 q2)).1, ⟨Or.inl rfl, ⟨Or.inr rfl, ((((((h).2 q3)).1 q2)).2 _ rfl)⟩⟩⟩, fun q2 => ⟨Or.inl rfl, ((((h).2 q3)).2 q2)⟩⟩⟩)
end
section
/-! bears, as a specification of its answer -/
def bst (h : Nat → Int32) (x y : Int32) : Prop := h x.toNatClampNeg ≠ -1 ∧ (y = -1 ∨ h y.toNatClampNeg ≠ -1)
def bhd (h : Nat → Int32) (x y a b : Int32) : Prop := ¬ (h x.toNatClampNeg - (if y = -1 then 0 else h y.toNatClampNeg)) < a ∧ ¬ b < (h x.toNatClampNeg - (if y = -1 then 0 else h y.toNatClampNeg))
def BS (ch : Nat) (pt : Nat → Nat) (st hd : Nat → Nat → Prop) (v : Int32) : Prop := (∃ c, c < ch ∧ ∃ i, i < pt c ∧ ¬ st c i ∧ v = -4) ∨ ((∀ c, c < ch → ∀ i, i < pt c → st c i) ∧ ((∃ c, c < ch ∧ (∀ i, i < pt c → hd c i) ∧ (∀ c', c' < c → ∃ i, i < pt c' ∧ ¬ hd c' i) ∧ v = Int32.ofNat c) ∨ ((∀ c, c < ch → ∃ i, i < pt c ∧ ¬ hd c i) ∧ v = -2)))
theorem BS_fun {ch : Nat} {pt : Nat → Nat} {st hd : Nat → Nat → Prop} {v w : Int32} (h : BS ch pt st hd v) (g : BS ch pt st hd w) : v = w := by
  rcases h with ⟨c, hc, i, hi, s, e⟩ | ⟨s, h⟩
  · rcases g with ⟨c', _, i', _, _, e'⟩ | ⟨s', _⟩
    · rw [e, e']
    · exact absurd (s' c hc i hi) s
  · rcases g with ⟨c', hc', i', hi', s', e'⟩ | ⟨_, g⟩
    · exact absurd (s c' hc' i' hi') s'
    · rcases h with ⟨c, hc, h1, h2, e⟩ | ⟨h1, e⟩
      · rcases g with ⟨c', hc', g1, g2, e'⟩ | ⟨g1, e'⟩
        · rcases Nat.lt_trichotomy c c' with l | l | l
          · obtain ⟨i, hi, n⟩ := g2 c l
            exact absurd (h1 i hi) n
          · rw [e, e', l]
          · obtain ⟨i, hi, n⟩ := h2 c' l
            exact absurd (g1 i hi) n
        · obtain ⟨i, hi, n⟩ := g1 c hc
          exact absurd (h1 i hi) n
      · rcases g with ⟨c', hc', g1, g2, e'⟩ | ⟨g1, e'⟩
        · obtain ⟨i, hi, n⟩ := h1 c' hc'
          exact absurd (g1 i hi) n
        · rw [e, e']
theorem BS_cg {ch : Nat} {pt pt' : Nat → Nat} {st hd st' hd' : Nat → Nat → Prop} {v : Int32} (hp : ∀ c, c < ch → pt c = pt' c) (hs : ∀ c, c < ch → ∀ i, i < pt c → (st c i ↔ st' c i)) (hh : ∀ c, c < ch → ∀ i, i < pt c → (hd c i ↔ hd' c i)) (h : BS ch pt st hd v) : BS ch pt' st' hd' v := by
  rcases h with ⟨c, hc, i, hi, s, e⟩ | ⟨s, h⟩
  · exact Or.inl ⟨c, hc, i, by rw [← hp c hc]; exact hi, fun q => s ((hs c hc i hi).mpr q), e⟩
  · refine Or.inr ⟨fun c hc i hi => (hs c hc i (by rw [hp c hc]; exact hi)).mp (s c hc i (by rw [hp c hc]; exact hi)), ?_⟩
    rcases h with ⟨c, hc, h1, h2, e⟩ | ⟨h1, e⟩
    · refine Or.inl ⟨c, hc, fun i hi => (hh c hc i (by rw [hp c hc]; exact hi)).mp (h1 i (by rw [hp c hc]; exact hi)), fun c' hc' => ?_, e⟩
      obtain ⟨i, hi, n⟩ := h2 c' hc'
      exact ⟨i, by rw [← hp c' (by omega)]; exact hi, fun q => n ((hh c' (by omega) i hi).mpr q)⟩
    · refine Or.inr ⟨fun c hc => ?_, e⟩
      obtain ⟨i, hi, n⟩ := h1 c hc
      exact ⟨i, by rw [← hp c hc]; exact hi, fun q => n ((hh c hc i hi).mpr q)⟩
end
section
/-! the class's bears, exact, told = 12 (wip/pe/mkbears.py) -/
section
variable {S : sm_C} {d : Nat} {Φ : sm_Z → Prop} {I : sm_I} {L : sm_L} {R : sm_R}
theorem kD12_kP {R : sm_R} : kP 12 (kD12 R) = kD12 R := by
  funext x j
  show (match kPl.find? (fun t => Nat.beq t.1 x && Nat.beq t.2.1 j) with
    | some t => some t.2.2
    | none => bif Nat.beq x 0 && Nat.beq j 9 then some 12 else kD12 R x j) = kD12 R x j
  split
  · next t ht =>
    have mem := List.mem_of_find?_eq_some ht
    have pr := List.find?_some ht
    obtain ⟨p1, p2⟩ := Bool.and_eq_true_iff.mp pr
    rw [← Nat.eq_of_beq_eq_true p1, ← Nat.eq_of_beq_eq_true p2]
    simp only [kPl, List.mem_cons, List.mem_nil_iff, or_false] at mem
    rcases mem with e | e | e | e | e | e | e | e | e | e | e | e | e | e | e | e <;> subst e <;> rfl
  · cases e : (Nat.beq x 0 && Nat.beq j 9) with
    | false => rfl
    | true =>
      obtain ⟨p1, p2⟩ := Bool.and_eq_true_iff.mp e
      rw [Nat.eq_of_beq_eq_true p1, Nat.eq_of_beq_eq_true p2]
      rfl
theorem kD12_r : ∀ t, t ∈ kD12l → (t.1 = 0 ∧ t.2.1 = 9 ∧ t.2.2 = 12) ∨ en_refs kl_tb t.1 t.2.1 = [t.2.2] := by decide +kernel
theorem kD12_eq {w : sm_W} (hm : en_mem kl_tb klX w) (h : w.2.2.2 0 9 = some 12) : kD12 w.2.2.2 = w.2.2.2 := by
  funext x j
  unfold kD12
  split
  · next t ht =>
    have mem := List.mem_of_find?_eq_some ht
    have pr := List.find?_some ht
    obtain ⟨p1, p2⟩ := Bool.and_eq_true_iff.mp pr
    have e1 : t.1 = x := Nat.eq_of_beq_eq_true p1
    have e2 : t.2.1 = j := Nat.eq_of_beq_eq_true p2
    rcases kD12_r t mem with ⟨q1, q2, q3⟩ | q
    · rw [← e1, ← e2, q1, q2, q3]; exact h.symm
    · obtain ⟨a, g1, g2⟩ := hm.2.2.1 t.1 t.2.1 (by rw [q]; exact List.cons_ne_nil _ _)
      rw [q] at g1
      rw [← e1, ← e2, g2, List.mem_singleton.mp g1]
  · rfl
theorem b12_val {x o : Int32} (h0 : x.toInt < 0 ∨ 10 ≤ x.toInt → Φ (some (.int o), (xLay, I, L, kD12 R))) (h1 : 0 ≤ x.toInt → x.toInt < 10 → Φ (some (.int (I 38 x.toNatClampNeg)), (xLay, I, L, kD12 R))) : sm_wp sm_P S d 89 0 [.ref 38, .int x, .int o] [] (xLay, I, L, kD12 R) (0, 0) Φ := by
  have c : (Int32.ofNat 10).toInt = 10 := by decide
  refine pd12h_X11_valueAt_0 ⟨fun a => h0 (Or.inl ?_), fun a => ⟨fun b => h0 (Or.inr ?_), fun b => ⟨?_, h1 ?_ ?_⟩⟩⟩
  · have a := kl_lt.mp a
    rw [kl_0] at a; exact a
  · have b := kl_le.mp b
    omega
  · have a := kl_nlt a
    have b := kl_nle b
    rw [kl_0] at a
    exact kl_in a (by omega)
  · have a := kl_nlt a
    rw [kl_0] at a; exact a
  · have b := kl_nle b
    omega
theorem b12_row {x : Int32} (h0 : 0 ≤ x.toInt) (h1 : x.toInt < 120) (h : Φ (some (.int 1), (xLay, I, L, kD12 R))) : sm_wp sm_P S d 287 0 [.ref 24, .int x] [] (xLay, I, L, kD12 R) (0, 0) Φ := by
  have c : (Int32.ofNat 120).toInt = 120 := by decide
  refine pd12_X8_hasRow_0 ⟨fun a => ?_, fun _ => ⟨fun b => ?_, fun _ => h⟩⟩
  · have a := kl_lt.mp a
    rw [kl_0] at a; omega
  · have b := kl_le.mp b
    omega
theorem b12_set {x : Int32} {p : Nat} (hp : x.toInt = p) (p1 : p < 120) (bx : 0 ≤ (I 25 p).toInt ∧ (I 25 p).toInt ≤ 9) (bz : -1 ≤ (I 26 p).toInt ∧ (I 26 p).toInt ≤ 9) (h0 : ¬ bst (I 38) (I 25 p) (I 26 p) → Φ (some (.int 0), (xLay, I, L, kD12 R))) (h1 : bst (I 38) (I 25 p) (I 26 p) → Φ (some (.int 1), (xLay, I, L, kD12 R))) : sm_wp sm_P S (d + 1) 293 0 [.ref 24, .int x, .ref 38] [] (xLay, I, L, kD12 R) (0, 0) Φ := by
  have px := tk_nat hp
  have v : vp_in x 120 := kl_in (by omega) (by omega)
  refine pd12_X8_isSet_0 (b12_row (by omega) (by omega) ⟨_, I, L, rfl, fun z => absurd z (by decide), fun _ => ⟨v, ?_⟩⟩)
  rw [px]
  refine b12_val (fun c => by omega) (fun _ _ => ⟨_, I, L, rfl, fun e => h0 (fun k => k.1 e), fun e => ⟨v, ?_⟩⟩)
  refine ⟨fun e2 => h1 ⟨e, Or.inl e2⟩, fun e2 => ⟨v, ?_⟩⟩
  have b0 : 0 ≤ (I 26 p).toInt := by
    have : (I 26 p).toInt ≠ -1 := fun q => e2 (en_ofI (by rw [q]; decide))
    omega
  refine b12_val (fun c => by omega) (fun _ _ => ⟨_, I, L, rfl, fun e3 => h0 (fun k => k.2.elim e2 (fun q => q e3)), fun e3 => h1 ⟨e, Or.inr e3⟩⟩)
theorem b12_holds {x : Int32} {p : Nat} (hp : x.toInt = p) (p1 : p < 120) (bx : 0 ≤ (I 25 p).toInt ∧ (I 25 p).toInt ≤ 9) (bz : -1 ≤ (I 26 p).toInt ∧ (I 26 p).toInt ≤ 9) (h0 : ¬ bhd (I 38) (I 25 p) (I 26 p) (I 27 p) (I 28 p) → Φ (some (.int 0), (xLay, I, L, kD12 R))) (h1 : bhd (I 38) (I 25 p) (I 26 p) (I 27 p) (I 28 p) → Φ (some (.int 1), (xLay, I, L, kD12 R))) : sm_wp sm_P S (d + 1) 288 0 [.ref 24, .int x, .ref 38] [] (xLay, I, L, kD12 R) (0, 0) Φ := by
  have px := tk_nat hp
  have v : vp_in x 120 := kl_in (by omega) (by omega)
  refine pd12_X8_holds_0 (b12_row (by omega) (by omega) ⟨_, I, L, rfl, fun z => absurd z (by decide), fun _ => ⟨v, ?_⟩⟩)
  rw [px]
  have fin : ∀ r9 : Int32, r9 = (if I 26 p = -1 then 0 else I 38 (I 26 p).toNatClampNeg) → (vp_in x 120) ∧ (((I 38 (I 25 p).toNatClampNeg - r9) < (I 27 p) → Φ (some (.int (0 : Int32)), (xLay, I, L, (kD12 R)))) ∧ (¬ (I 38 (I 25 p).toNatClampNeg - r9) < (I 27 p) → (vp_in x 120) ∧ (((I 28 p) < (I 38 (I 25 p).toNatClampNeg - r9) → Φ (some (.int (0 : Int32)), (xLay, I, L, (kD12 R)))) ∧ (¬ (I 28 p) < (I 38 (I 25 p).toNatClampNeg - r9) → Φ (some (.int (1 : Int32)), (xLay, I, L, (kD12 R))))))) := fun r9 e9 => by
    unfold bhd at h0 h1
    rw [← e9] at h0 h1
    exact ⟨v, fun a => h0 (fun k => k.1 a), fun a => ⟨v, fun b => h0 (fun k => k.2 b), fun b => h1 ⟨a, b⟩⟩⟩
  refine b12_val (fun c => by omega) (fun _ _ => ⟨_, I, L, rfl, v, ?_⟩)
  refine b12_val (fun c => ⟨_, I, L, rfl, ?_⟩) (fun a b => ⟨_, I, L, rfl, ?_⟩)
  · have e2 : I 26 p = -1 := en_ofI (by rw [(by decide : (-1 : Int32).toInt = -1)]; omega)
    exact fin 0 (by rw [if_pos e2])
  · exact fin _ (by rw [if_neg (fun e2 => by rw [e2, (by decide : (-1 : Int32).toInt = -1)] at a; omega)])
def k12_st (I : sm_I) (n c i : Nat) : Prop := bst (I 38) (I 25 (12 * n + 3 * c + i)) (I 26 (12 * n + 3 * c + i))
def k12_hd (I : sm_I) (n c i : Nat) : Prop := bhd (I 38) (I 25 (12 * n + 3 * c + i)) (I 26 (12 * n + 3 * c + i)) (I 27 (12 * n + 3 * c + i)) (I 28 (12 * n + 3 * c + i))
/-- the spans of one choice -/
theorem b12_5 {x1 x2 x3 x4 : Int32} {n c : Nat} (hn : x1.toInt = n) (n1 : n < 10) (hc : x3.toInt = c) (c1 : c < 4) (h4 : x4.toInt = ((12 * n + 3 * c : Nat) : Int)) (b23 : 0 ≤ (I 23 (4 * n + c)).toInt ∧ (I 23 (4 * n + c)).toInt ≤ 3) (b25 : ∀ j, j < 120 → 0 ≤ (I 25 j).toInt ∧ (I 25 j).toInt ≤ 9) (b26 : ∀ j, j < 120 → -1 ≤ (I 26 j).toInt ∧ (I 26 j).toInt ≤ 9) (hb : ∀ i, i < (I 23 (4 * n + c)).toNatClampNeg → ¬ k12_st I n c i → Φ (some (.int (-4)), (xLay, I, L, kD12 R))) (hg : (∀ i, i < (I 23 (4 * n + c)).toNatClampNeg → k12_st I n c i) → ∀ v : Int32, ((v = x3 ∧ ∀ i, i < (I 23 (4 * n + c)).toNatClampNeg → k12_hd I n c i) ∨ (v = x2 ∧ ∃ i, i < (I 23 (4 * n + c)).toNatClampNeg ∧ ¬ k12_hd I n c i)) → sm_wp sm_P S (d + 2) 31 3 [.ref 0, .int x1, .int v, .int (x3 + (-1 : Int32))] [] (xLay, I, L, (kD12 R)) (0, 0) Φ) : ∀ (m i : Nat) (x5 x6 : Int32), x6.toInt = ((12 * n + 3 * c + i : Nat) : Int) → i + m = (I 23 (4 * n + c)).toNatClampNeg → (∀ j, j < i → k12_st I n c j) → ((x5 = 1 ∧ ∀ j, j < i → k12_hd I n c j) ∨ (x5 = 0 ∧ ∃ j, j < i ∧ ¬ k12_hd I n c j)) → sm_wp sm_P S (d + 2) 31 5 [.ref 0, .int x1, .int x2, .int x3, .int x4, .int x5, .int x6] [] (xLay, I, L, (kD12 R)) (0, 0) Φ := by
  have nn := kl_nat (i := I 23 (4 * n + c)) b23.1
  have m4 : (x1 * (4 : Int32)).toInt = (n : Int) * 4 := ml_mu hn (by decide) (by omega) (by omega)
  have s4 : ((x1 * (4 : Int32)) + x3).toInt = ((4 * n + c : Nat) : Int) := (ml_ad m4 hc (by omega) (by omega)).trans (by omega)
  have n4 := tk_nat s4
  have parts : ∀ Ψ : sm_Z → Prop, Ψ (some (.int (I 23 (4 * n + c))), (xLay, I, L, kD12 R)) → sm_wp sm_P S (d + 1) 23 0 [.ref 12, .int x1, .int x3] [] (xLay, I, L, (kD12 R)) (0, 0) Ψ := fun Ψ hΨ => by
    refine pd12_X10_partsOf_0 ⟨fun a => ?_, fun _ => ⟨fun a => ?_, fun _ => ⟨kl_in (by omega) (by omega), ?_⟩⟩⟩
    · have a := kl_lt.mp a
      rw [kl_0] at a; omega
    · have a := kl_le.mp a
      rw [(by decide : (Int32.ofNat 40).toInt = 40)] at a; omega
    · rw [n4]; exact hΨ
  have se : (x4 + I 23 (4 * n + c)).toInt = ((12 * n + 3 * c : Nat) : Int) + (I 23 (4 * n + c)).toInt := ml_ad h4 rfl (by omega) (by omega)
  intro m
  induction m with
  | zero =>
    intro i x5 x6 h6 hm hs hh
    refine pd12_X11_bears_5 (parts _ ⟨_, I, L, rfl, fun _ => ⟨fun z => ?_, fun z => ?_⟩, fun a => ?_⟩)
    · refine hg (fun j hj => hs j (by omega)) x2 (Or.inr ⟨rfl, ?_⟩)
      rcases hh with ⟨e, -⟩ | ⟨-, j, hj, hq⟩
      · rw [e] at z; exact absurd z (by decide)
      · exact ⟨j, by omega, hq⟩
    · refine hg (fun j hj => hs j (by omega)) x3 (Or.inl ⟨rfl, ?_⟩)
      rcases hh with ⟨-, q⟩ | ⟨e, -⟩
      · exact fun j hj => q j (by omega)
      · exact absurd e z
    · have a := kl_nle a
      omega
  | succ m ih =>
    intro i x5 x6 h6 hm hs hh
    have s6 := ml_in1 (x := x6) (by omega)
    have i6 : (x6 + 1).toInt = ((12 * n + 3 * c + (i + 1) : Nat) : Int) := by omega
    have p1 : 12 * n + 3 * c + i < 120 := by omega
    refine pd12_X11_bears_5 (parts _ ⟨_, I, L, rfl, fun a => ?_, fun _ => ?_⟩)
    · have a := kl_le.mp a
      omega
    refine b12_set h6 p1 (b25 _ p1) (b26 _ p1) (fun q => ⟨_, I, L, rfl, fun _ => hb i (by omega) q, fun z => absurd rfl z⟩) (fun q => ⟨_, I, L, rfl, fun z => absurd z (by decide), fun _ => ?_⟩)
    have hs' : ∀ j, j < i + 1 → k12_st I n c j := fun j hj => by
      rcases Nat.lt_or_ge j i with u | u
      · exact hs j u
      · have : j = i := by omega
        subst this; exact q
    rcases hh with ⟨e5, hh⟩ | ⟨e5, j, hj, hq⟩
    · refine ⟨fun z => absurd (e5.symm.trans z) (by decide), fun _ => ?_⟩
      refine b12_holds h6 p1 (b25 _ p1) (b26 _ p1) (fun g => ⟨_, I, L, rfl, fun _ => ?_, fun z => absurd rfl z⟩) (fun g => ⟨_, I, L, rfl, fun z => absurd z (by decide), fun _ => ?_⟩)
      · exact ih (i + 1) 0 _ i6 (by omega) hs' (Or.inr ⟨rfl, i, by omega, g⟩)
      · refine ih (i + 1) 1 _ i6 (by omega) hs' (Or.inl ⟨rfl, fun j hj => ?_⟩)
        rcases Nat.lt_or_ge j i with u | u
        · exact hh j u
        · have : j = i := by omega
          subst this; exact g
    · exact ⟨fun _ => ih (i + 1) 0 _ i6 (by omega) hs' (Or.inr ⟨rfl, j, by omega, hq⟩), fun z => absurd e5 z⟩
/-- the choices, from the last one on -/
theorem b12_3 {x1 : Int32} {n ch : Nat} (hn : x1.toInt = n) (n1 : n < 10) (hc : ch ≤ 4) (b23 : ∀ j, j < 40 → 0 ≤ (I 23 j).toInt ∧ (I 23 j).toInt ≤ 3) (b25 : ∀ j, j < 120 → 0 ≤ (I 25 j).toInt ∧ (I 25 j).toInt ≤ 9) (b26 : ∀ j, j < 120 → -1 ≤ (I 26 j).toInt ∧ (I 26 j).toInt ≤ 9) (h : ∀ v : Int32, BS ch (fun c => (I 23 (4 * n + c)).toNatClampNeg) (k12_st I n) (k12_hd I n) v → Φ (some (.int v), (xLay, I, L, kD12 R))) : ∀ (m : Nat) (x2 x3 : Int32), x3.toInt = (m : Int) - 1 → m ≤ ch → (∀ c, m ≤ c → c < ch → ∀ i, i < (I 23 (4 * n + c)).toNatClampNeg → k12_st I n c i) → ((∃ c, m ≤ c ∧ c < ch ∧ (∀ i, i < (I 23 (4 * n + c)).toNatClampNeg → k12_hd I n c i) ∧ (∀ c', m ≤ c' → c' < c → ∃ i, i < (I 23 (4 * n + c')).toNatClampNeg ∧ ¬ k12_hd I n c' i) ∧ x2 = Int32.ofNat c) ∨ ((∀ c, m ≤ c → c < ch → ∃ i, i < (I 23 (4 * n + c)).toNatClampNeg ∧ ¬ k12_hd I n c i) ∧ x2 = -2)) → sm_wp sm_P S (d + 2) 31 3 [.ref 0, .int x1, .int x2, .int x3] [] (xLay, I, L, (kD12 R)) (0, 0) Φ := by
  intro m
  induction m with
  | zero =>
    intro x2 x3 h3 hm hs hh
    refine pd12_X11_bears_3 ⟨fun _ => h x2 (Or.inr ⟨fun c hc => hs c (Nat.zero_le _) hc, ?_⟩), fun a => ?_⟩
    · rcases hh with ⟨c, -, q1, q2, q3, q4⟩ | ⟨q1, q2⟩
      · exact Or.inl ⟨c, q1, q2, fun c' hc' => q3 c' (Nat.zero_le _) hc', q4⟩
      · exact Or.inr ⟨fun c hc => q1 c (Nat.zero_le _) hc, q2⟩
    · have a := kl_nlt a
      rw [kl_0] at a; omega
  | succ m ih =>
    intro x2 x3 h3 hm hs hh
    have h3 : x3.toInt = (m : Int) := by omega
    have m4 : (x1 * (4 : Int32)).toInt = (n : Int) * 4 := ml_mu hn (by decide) (by omega) (by omega)
    have s4 : ((x1 * (4 : Int32)) + x3).toInt = (n : Int) * 4 + m := ml_ad m4 h3 (by omega) (by omega)
    have s12 : (((x1 * (4 : Int32)) + x3) * (3 : Int32)).toInt = ((12 * n + 3 * m : Nat) : Int) := (ml_mu s4 (by decide : (3 : Int32).toInt = 3) (by omega) (by omega)).trans (by omega)
    have ex3 : x3 = Int32.ofNat m := en_ofI (by rw [h3, Int32.toInt_ofNat_of_lt (by omega)])
    have pd : (x3 + (-1 : Int32)).toInt = (m : Int) - 1 := (ml_ad h3 (by decide : (-1 : Int32).toInt = -1) (by omega) (by omega)).trans (by omega)
    refine pd12_X11_bears_3 ⟨fun a => ?_, fun _ => pd12_X10_firstSpan_0 ⟨_, I, L, rfl, ?_⟩⟩
    · have a := kl_lt.mp a
      rw [kl_0] at a; omega
    refine b12_5 hn n1 h3 (by omega) s12 (b23 _ (by omega)) b25 b26 (fun i hi q => h _ (Or.inl ⟨m, by omega, i, hi, q, rfl⟩)) (fun hsm v hv => ih v _ pd (by omega) (fun c c1 c2 => ?_) ?_) _ 0 1 _ (by rw [s12]; omega) (Nat.zero_add _) (fun j hj => absurd hj (Nat.not_lt_zero j)) (Or.inl ⟨rfl, fun j hj => absurd hj (Nat.not_lt_zero j)⟩)
    · rcases Nat.lt_or_ge m c with u | u
      · exact hs c u c2
      · have : c = m := by omega
        subst this; exact hsm
    · rcases hv with ⟨ev, q⟩ | ⟨ev, q⟩
      · exact Or.inl ⟨m, Nat.le_refl _, by omega, q, fun c' a b => absurd b (by omega), by rw [ev, ex3]⟩
      · rcases hh with ⟨c, c1, c2, q1, q2, q3⟩ | ⟨q1, q2⟩
        · refine Or.inl ⟨c, by omega, c2, q1, fun c' a b => ?_, by rw [ev, q3]⟩
          rcases Nat.lt_or_ge m c' with u | u
          · exact q2 c' u b
          · have : c' = m := by omega
            subst this; exact q
        · refine Or.inr ⟨fun c a b => ?_, by rw [ev, q2]⟩
          rcases Nat.lt_or_ge m c with u | u
          · exact q1 c u b
          · have : c = m := by omega
            subst this; exact q
theorem b12_bears {x1 : Int32} (hb3 : (I 12 3).toInt ≤ 10) (b22 : ∀ j, j < 10 → 0 ≤ (I 22 j).toInt ∧ (I 22 j).toInt ≤ 4) (b23 : ∀ j, j < 40 → 0 ≤ (I 23 j).toInt ∧ (I 23 j).toInt ≤ 3) (b25 : ∀ j, j < 120 → 0 ≤ (I 25 j).toInt ∧ (I 25 j).toInt ≤ 9) (b26 : ∀ j, j < 120 → -1 ≤ (I 26 j).toInt ∧ (I 26 j).toInt ≤ 9) (h0 : ¬ (0 ≤ x1.toInt ∧ x1.toInt < (I 12 3).toInt) → Φ (some (.int (-1)), (xLay, I, L, kD12 R))) (h : ∀ n : Nat, x1.toInt = n → x1.toInt < (I 12 3).toInt → ∀ v : Int32, BS (I 22 n).toNatClampNeg (fun c => (I 23 (4 * n + c)).toNatClampNeg) (k12_st I n) (k12_hd I n) v → Φ (some (.int v), (xLay, I, L, kD12 R))) : sm_wp sm_P S (d + 2) 31 0 [.ref 0, .int x1] [] (xLay, I, L, (kD12 R)) (0, 0) Φ := by
  have g := kp_inS (S := S) (d := d + 1) (I := I) (L := L) (R := kD12 R) (q := 12) (x := x1) (Φ := fun z => ∃ (r3 : Int32) (I1 : sm_I) (L2 : sm_L), z = (some (.int r3), (xLay, I1, L2, (kD12 R))) ∧ ((r3 = 0 → Φ (some (.int (-1 : Int32)), (xLay, I1, L2, (kD12 R)))) ∧ (¬ r3 = 0 → (vp_in x1 10) ∧ ∀ n4 : Int32, n4 = ((I1 22 x1.toNatClampNeg) - (1 : Int32)) → sm_wp sm_P S (d + 1 + 1) 31 3 [.ref 0, .int x1, .int (-2 : Int32), .int n4] [] (xLay, I1, L2, (kD12 R)) (0, 0) Φ))) (by decide) (fun c => ⟨_, I, L, by rw [kD12_kP], fun _ => h0 c, fun z => absurd rfl z⟩) (fun a b => ⟨_, I, L, by rw [kD12_kP], fun z => absurd z (by decide), fun _ => ⟨kl_in a (by omega), fun n4 e4 => ?_⟩⟩)
  · rw [kD12_kP] at g
    exact pd12_X11_bears_0 g
  · have nx := kl_nat a
    have bn := b22 x1.toNatClampNeg (by omega)
    have nc := kl_nat bn.1
    refine b12_3 (n := x1.toNatClampNeg) (ch := (I 22 x1.toNatClampNeg).toNatClampNeg) (by omega) (by omega) (by omega) b23 b25 b26 (h x1.toNatClampNeg (by omega) b) (I 22 x1.toNatClampNeg).toNatClampNeg (-2) n4 ?_ (Nat.le_refl _) (fun c c1 c2 => absurd c2 (by omega)) (Or.inr ⟨fun c c1 c2 => absurd c2 (by omega), rfl⟩)
    rw [e4, Int32.toInt_sub, kl_1]
    exact en_bmod (by omega) (by omega) (Or.inl (by omega))
end
end
section
/-! the class's bears, exact, told = 49 (wip/pe/mkbears.py) -/
section
variable {S : sm_C} {d : Nat} {Φ : sm_Z → Prop} {I : sm_I} {L : sm_L} {R : sm_R}
theorem kD49_kP {R : sm_R} : kP 49 (kD49 R) = kD49 R := by
  funext x j
  show (match kPl.find? (fun t => Nat.beq t.1 x && Nat.beq t.2.1 j) with
    | some t => some t.2.2
    | none => bif Nat.beq x 0 && Nat.beq j 9 then some 49 else kD49 R x j) = kD49 R x j
  split
  · next t ht =>
    have mem := List.mem_of_find?_eq_some ht
    have pr := List.find?_some ht
    obtain ⟨p1, p2⟩ := Bool.and_eq_true_iff.mp pr
    rw [← Nat.eq_of_beq_eq_true p1, ← Nat.eq_of_beq_eq_true p2]
    simp only [kPl, List.mem_cons, List.mem_nil_iff, or_false] at mem
    rcases mem with e | e | e | e | e | e | e | e | e | e | e | e | e | e | e | e <;> subst e <;> rfl
  · cases e : (Nat.beq x 0 && Nat.beq j 9) with
    | false => rfl
    | true =>
      obtain ⟨p1, p2⟩ := Bool.and_eq_true_iff.mp e
      rw [Nat.eq_of_beq_eq_true p1, Nat.eq_of_beq_eq_true p2]
      rfl
theorem kD49_r : ∀ t, t ∈ kD49l → (t.1 = 0 ∧ t.2.1 = 9 ∧ t.2.2 = 49) ∨ en_refs kl_tb t.1 t.2.1 = [t.2.2] := by decide +kernel
theorem kD49_eq {w : sm_W} (hm : en_mem kl_tb klX w) (h : w.2.2.2 0 9 = some 49) : kD49 w.2.2.2 = w.2.2.2 := by
  funext x j
  unfold kD49
  split
  · next t ht =>
    have mem := List.mem_of_find?_eq_some ht
    have pr := List.find?_some ht
    obtain ⟨p1, p2⟩ := Bool.and_eq_true_iff.mp pr
    have e1 : t.1 = x := Nat.eq_of_beq_eq_true p1
    have e2 : t.2.1 = j := Nat.eq_of_beq_eq_true p2
    rcases kD49_r t mem with ⟨q1, q2, q3⟩ | q
    · rw [← e1, ← e2, q1, q2, q3]; exact h.symm
    · obtain ⟨a, g1, g2⟩ := hm.2.2.1 t.1 t.2.1 (by rw [q]; exact List.cons_ne_nil _ _)
      rw [q] at g1
      rw [← e1, ← e2, g2, List.mem_singleton.mp g1]
  · rfl
theorem b49_val {x o : Int32} (h0 : x.toInt < 0 ∨ 10 ≤ x.toInt → Φ (some (.int o), (xLay, I, L, kD49 R))) (h1 : 0 ≤ x.toInt → x.toInt < 10 → Φ (some (.int (I 38 x.toNatClampNeg)), (xLay, I, L, kD49 R))) : sm_wp sm_P S d 89 0 [.ref 38, .int x, .int o] [] (xLay, I, L, kD49 R) (0, 0) Φ := by
  have c : (Int32.ofNat 10).toInt = 10 := by decide
  refine pd49h_X11_valueAt_0 ⟨fun a => h0 (Or.inl ?_), fun a => ⟨fun b => h0 (Or.inr ?_), fun b => ⟨?_, h1 ?_ ?_⟩⟩⟩
  · have a := kl_lt.mp a
    rw [kl_0] at a; exact a
  · have b := kl_le.mp b
    omega
  · have a := kl_nlt a
    have b := kl_nle b
    rw [kl_0] at a
    exact kl_in a (by omega)
  · have a := kl_nlt a
    rw [kl_0] at a; exact a
  · have b := kl_nle b
    omega
theorem b49_row {x : Int32} (h0 : 0 ≤ x.toInt) (h1 : x.toInt < 120) (h : Φ (some (.int 1), (xLay, I, L, kD49 R))) : sm_wp sm_P S d 287 0 [.ref 61, .int x] [] (xLay, I, L, kD49 R) (0, 0) Φ := by
  have c : (Int32.ofNat 120).toInt = 120 := by decide
  refine pd49_X8_hasRow_0 ⟨fun a => ?_, fun _ => ⟨fun b => ?_, fun _ => h⟩⟩
  · have a := kl_lt.mp a
    rw [kl_0] at a; omega
  · have b := kl_le.mp b
    omega
theorem b49_set {x : Int32} {p : Nat} (hp : x.toInt = p) (p1 : p < 120) (bx : 0 ≤ (I 62 p).toInt ∧ (I 62 p).toInt ≤ 9) (bz : -1 ≤ (I 63 p).toInt ∧ (I 63 p).toInt ≤ 9) (h0 : ¬ bst (I 38) (I 62 p) (I 63 p) → Φ (some (.int 0), (xLay, I, L, kD49 R))) (h1 : bst (I 38) (I 62 p) (I 63 p) → Φ (some (.int 1), (xLay, I, L, kD49 R))) : sm_wp sm_P S (d + 1) 293 0 [.ref 61, .int x, .ref 38] [] (xLay, I, L, kD49 R) (0, 0) Φ := by
  have px := tk_nat hp
  have v : vp_in x 120 := kl_in (by omega) (by omega)
  refine pd49_X8_isSet_0 (b49_row (by omega) (by omega) ⟨_, I, L, rfl, fun z => absurd z (by decide), fun _ => ⟨v, ?_⟩⟩)
  rw [px]
  refine b49_val (fun c => by omega) (fun _ _ => ⟨_, I, L, rfl, fun e => h0 (fun k => k.1 e), fun e => ⟨v, ?_⟩⟩)
  refine ⟨fun e2 => h1 ⟨e, Or.inl e2⟩, fun e2 => ⟨v, ?_⟩⟩
  have b0 : 0 ≤ (I 63 p).toInt := by
    have : (I 63 p).toInt ≠ -1 := fun q => e2 (en_ofI (by rw [q]; decide))
    omega
  refine b49_val (fun c => by omega) (fun _ _ => ⟨_, I, L, rfl, fun e3 => h0 (fun k => k.2.elim e2 (fun q => q e3)), fun e3 => h1 ⟨e, Or.inr e3⟩⟩)
theorem b49_holds {x : Int32} {p : Nat} (hp : x.toInt = p) (p1 : p < 120) (bx : 0 ≤ (I 62 p).toInt ∧ (I 62 p).toInt ≤ 9) (bz : -1 ≤ (I 63 p).toInt ∧ (I 63 p).toInt ≤ 9) (h0 : ¬ bhd (I 38) (I 62 p) (I 63 p) (I 64 p) (I 65 p) → Φ (some (.int 0), (xLay, I, L, kD49 R))) (h1 : bhd (I 38) (I 62 p) (I 63 p) (I 64 p) (I 65 p) → Φ (some (.int 1), (xLay, I, L, kD49 R))) : sm_wp sm_P S (d + 1) 288 0 [.ref 61, .int x, .ref 38] [] (xLay, I, L, kD49 R) (0, 0) Φ := by
  have px := tk_nat hp
  have v : vp_in x 120 := kl_in (by omega) (by omega)
  refine pd49_X8_holds_0 (b49_row (by omega) (by omega) ⟨_, I, L, rfl, fun z => absurd z (by decide), fun _ => ⟨v, ?_⟩⟩)
  rw [px]
  have fin : ∀ r9 : Int32, r9 = (if I 63 p = -1 then 0 else I 38 (I 63 p).toNatClampNeg) → (vp_in x 120) ∧ (((I 38 (I 62 p).toNatClampNeg - r9) < (I 64 p) → Φ (some (.int (0 : Int32)), (xLay, I, L, (kD49 R)))) ∧ (¬ (I 38 (I 62 p).toNatClampNeg - r9) < (I 64 p) → (vp_in x 120) ∧ (((I 65 p) < (I 38 (I 62 p).toNatClampNeg - r9) → Φ (some (.int (0 : Int32)), (xLay, I, L, (kD49 R)))) ∧ (¬ (I 65 p) < (I 38 (I 62 p).toNatClampNeg - r9) → Φ (some (.int (1 : Int32)), (xLay, I, L, (kD49 R))))))) := fun r9 e9 => by
    unfold bhd at h0 h1
    rw [← e9] at h0 h1
    exact ⟨v, fun a => h0 (fun k => k.1 a), fun a => ⟨v, fun b => h0 (fun k => k.2 b), fun b => h1 ⟨a, b⟩⟩⟩
  refine b49_val (fun c => by omega) (fun _ _ => ⟨_, I, L, rfl, v, ?_⟩)
  refine b49_val (fun c => ⟨_, I, L, rfl, ?_⟩) (fun a b => ⟨_, I, L, rfl, ?_⟩)
  · have e2 : I 63 p = -1 := en_ofI (by rw [(by decide : (-1 : Int32).toInt = -1)]; omega)
    exact fin 0 (by rw [if_pos e2])
  · exact fin _ (by rw [if_neg (fun e2 => by rw [e2, (by decide : (-1 : Int32).toInt = -1)] at a; omega)])
def k49_st (I : sm_I) (n c i : Nat) : Prop := bst (I 38) (I 62 (12 * n + 3 * c + i)) (I 63 (12 * n + 3 * c + i))
def k49_hd (I : sm_I) (n c i : Nat) : Prop := bhd (I 38) (I 62 (12 * n + 3 * c + i)) (I 63 (12 * n + 3 * c + i)) (I 64 (12 * n + 3 * c + i)) (I 65 (12 * n + 3 * c + i))
/-- the spans of one choice -/
theorem b49_5 {x1 x2 x3 x4 : Int32} {n c : Nat} (hn : x1.toInt = n) (n1 : n < 10) (hc : x3.toInt = c) (c1 : c < 4) (h4 : x4.toInt = ((12 * n + 3 * c : Nat) : Int)) (b23 : 0 ≤ (I 60 (4 * n + c)).toInt ∧ (I 60 (4 * n + c)).toInt ≤ 3) (b25 : ∀ j, j < 120 → 0 ≤ (I 62 j).toInt ∧ (I 62 j).toInt ≤ 9) (b26 : ∀ j, j < 120 → -1 ≤ (I 63 j).toInt ∧ (I 63 j).toInt ≤ 9) (hb : ∀ i, i < (I 60 (4 * n + c)).toNatClampNeg → ¬ k49_st I n c i → Φ (some (.int (-4)), (xLay, I, L, kD49 R))) (hg : (∀ i, i < (I 60 (4 * n + c)).toNatClampNeg → k49_st I n c i) → ∀ v : Int32, ((v = x3 ∧ ∀ i, i < (I 60 (4 * n + c)).toNatClampNeg → k49_hd I n c i) ∨ (v = x2 ∧ ∃ i, i < (I 60 (4 * n + c)).toNatClampNeg ∧ ¬ k49_hd I n c i)) → sm_wp sm_P S (d + 2) 31 3 [.ref 0, .int x1, .int v, .int (x3 + (-1 : Int32))] [] (xLay, I, L, (kD49 R)) (0, 0) Φ) : ∀ (m i : Nat) (x5 x6 : Int32), x6.toInt = ((12 * n + 3 * c + i : Nat) : Int) → i + m = (I 60 (4 * n + c)).toNatClampNeg → (∀ j, j < i → k49_st I n c j) → ((x5 = 1 ∧ ∀ j, j < i → k49_hd I n c j) ∨ (x5 = 0 ∧ ∃ j, j < i ∧ ¬ k49_hd I n c j)) → sm_wp sm_P S (d + 2) 31 5 [.ref 0, .int x1, .int x2, .int x3, .int x4, .int x5, .int x6] [] (xLay, I, L, (kD49 R)) (0, 0) Φ := by
  have nn := kl_nat (i := I 60 (4 * n + c)) b23.1
  have m4 : (x1 * (4 : Int32)).toInt = (n : Int) * 4 := ml_mu hn (by decide) (by omega) (by omega)
  have s4 : ((x1 * (4 : Int32)) + x3).toInt = ((4 * n + c : Nat) : Int) := (ml_ad m4 hc (by omega) (by omega)).trans (by omega)
  have n4 := tk_nat s4
  have parts : ∀ Ψ : sm_Z → Prop, Ψ (some (.int (I 60 (4 * n + c))), (xLay, I, L, kD49 R)) → sm_wp sm_P S (d + 1) 23 0 [.ref 49, .int x1, .int x3] [] (xLay, I, L, (kD49 R)) (0, 0) Ψ := fun Ψ hΨ => by
    refine pd49_X10_partsOf_0 ⟨fun a => ?_, fun _ => ⟨fun a => ?_, fun _ => ⟨kl_in (by omega) (by omega), ?_⟩⟩⟩
    · have a := kl_lt.mp a
      rw [kl_0] at a; omega
    · have a := kl_le.mp a
      rw [(by decide : (Int32.ofNat 40).toInt = 40)] at a; omega
    · rw [n4]; exact hΨ
  have se : (x4 + I 60 (4 * n + c)).toInt = ((12 * n + 3 * c : Nat) : Int) + (I 60 (4 * n + c)).toInt := ml_ad h4 rfl (by omega) (by omega)
  intro m
  induction m with
  | zero =>
    intro i x5 x6 h6 hm hs hh
    refine pd49_X11_bears_5 (parts _ ⟨_, I, L, rfl, fun _ => ⟨fun z => ?_, fun z => ?_⟩, fun a => ?_⟩)
    · refine hg (fun j hj => hs j (by omega)) x2 (Or.inr ⟨rfl, ?_⟩)
      rcases hh with ⟨e, -⟩ | ⟨-, j, hj, hq⟩
      · rw [e] at z; exact absurd z (by decide)
      · exact ⟨j, by omega, hq⟩
    · refine hg (fun j hj => hs j (by omega)) x3 (Or.inl ⟨rfl, ?_⟩)
      rcases hh with ⟨-, q⟩ | ⟨e, -⟩
      · exact fun j hj => q j (by omega)
      · exact absurd e z
    · have a := kl_nle a
      omega
  | succ m ih =>
    intro i x5 x6 h6 hm hs hh
    have s6 := ml_in1 (x := x6) (by omega)
    have i6 : (x6 + 1).toInt = ((12 * n + 3 * c + (i + 1) : Nat) : Int) := by omega
    have p1 : 12 * n + 3 * c + i < 120 := by omega
    refine pd49_X11_bears_5 (parts _ ⟨_, I, L, rfl, fun a => ?_, fun _ => ?_⟩)
    · have a := kl_le.mp a
      omega
    refine b49_set h6 p1 (b25 _ p1) (b26 _ p1) (fun q => ⟨_, I, L, rfl, fun _ => hb i (by omega) q, fun z => absurd rfl z⟩) (fun q => ⟨_, I, L, rfl, fun z => absurd z (by decide), fun _ => ?_⟩)
    have hs' : ∀ j, j < i + 1 → k49_st I n c j := fun j hj => by
      rcases Nat.lt_or_ge j i with u | u
      · exact hs j u
      · have : j = i := by omega
        subst this; exact q
    rcases hh with ⟨e5, hh⟩ | ⟨e5, j, hj, hq⟩
    · refine ⟨fun z => absurd (e5.symm.trans z) (by decide), fun _ => ?_⟩
      refine b49_holds h6 p1 (b25 _ p1) (b26 _ p1) (fun g => ⟨_, I, L, rfl, fun _ => ?_, fun z => absurd rfl z⟩) (fun g => ⟨_, I, L, rfl, fun z => absurd z (by decide), fun _ => ?_⟩)
      · exact ih (i + 1) 0 _ i6 (by omega) hs' (Or.inr ⟨rfl, i, by omega, g⟩)
      · refine ih (i + 1) 1 _ i6 (by omega) hs' (Or.inl ⟨rfl, fun j hj => ?_⟩)
        rcases Nat.lt_or_ge j i with u | u
        · exact hh j u
        · have : j = i := by omega
          subst this; exact g
    · exact ⟨fun _ => ih (i + 1) 0 _ i6 (by omega) hs' (Or.inr ⟨rfl, j, by omega, hq⟩), fun z => absurd e5 z⟩
/-- the choices, from the last one on -/
theorem b49_3 {x1 : Int32} {n ch : Nat} (hn : x1.toInt = n) (n1 : n < 10) (hc : ch ≤ 4) (b23 : ∀ j, j < 40 → 0 ≤ (I 60 j).toInt ∧ (I 60 j).toInt ≤ 3) (b25 : ∀ j, j < 120 → 0 ≤ (I 62 j).toInt ∧ (I 62 j).toInt ≤ 9) (b26 : ∀ j, j < 120 → -1 ≤ (I 63 j).toInt ∧ (I 63 j).toInt ≤ 9) (h : ∀ v : Int32, BS ch (fun c => (I 60 (4 * n + c)).toNatClampNeg) (k49_st I n) (k49_hd I n) v → Φ (some (.int v), (xLay, I, L, kD49 R))) : ∀ (m : Nat) (x2 x3 : Int32), x3.toInt = (m : Int) - 1 → m ≤ ch → (∀ c, m ≤ c → c < ch → ∀ i, i < (I 60 (4 * n + c)).toNatClampNeg → k49_st I n c i) → ((∃ c, m ≤ c ∧ c < ch ∧ (∀ i, i < (I 60 (4 * n + c)).toNatClampNeg → k49_hd I n c i) ∧ (∀ c', m ≤ c' → c' < c → ∃ i, i < (I 60 (4 * n + c')).toNatClampNeg ∧ ¬ k49_hd I n c' i) ∧ x2 = Int32.ofNat c) ∨ ((∀ c, m ≤ c → c < ch → ∃ i, i < (I 60 (4 * n + c)).toNatClampNeg ∧ ¬ k49_hd I n c i) ∧ x2 = -2)) → sm_wp sm_P S (d + 2) 31 3 [.ref 0, .int x1, .int x2, .int x3] [] (xLay, I, L, (kD49 R)) (0, 0) Φ := by
  intro m
  induction m with
  | zero =>
    intro x2 x3 h3 hm hs hh
    refine pd49_X11_bears_3 ⟨fun _ => h x2 (Or.inr ⟨fun c hc => hs c (Nat.zero_le _) hc, ?_⟩), fun a => ?_⟩
    · rcases hh with ⟨c, -, q1, q2, q3, q4⟩ | ⟨q1, q2⟩
      · exact Or.inl ⟨c, q1, q2, fun c' hc' => q3 c' (Nat.zero_le _) hc', q4⟩
      · exact Or.inr ⟨fun c hc => q1 c (Nat.zero_le _) hc, q2⟩
    · have a := kl_nlt a
      rw [kl_0] at a; omega
  | succ m ih =>
    intro x2 x3 h3 hm hs hh
    have h3 : x3.toInt = (m : Int) := by omega
    have m4 : (x1 * (4 : Int32)).toInt = (n : Int) * 4 := ml_mu hn (by decide) (by omega) (by omega)
    have s4 : ((x1 * (4 : Int32)) + x3).toInt = (n : Int) * 4 + m := ml_ad m4 h3 (by omega) (by omega)
    have s12 : (((x1 * (4 : Int32)) + x3) * (3 : Int32)).toInt = ((12 * n + 3 * m : Nat) : Int) := (ml_mu s4 (by decide : (3 : Int32).toInt = 3) (by omega) (by omega)).trans (by omega)
    have ex3 : x3 = Int32.ofNat m := en_ofI (by rw [h3, Int32.toInt_ofNat_of_lt (by omega)])
    have pd : (x3 + (-1 : Int32)).toInt = (m : Int) - 1 := (ml_ad h3 (by decide : (-1 : Int32).toInt = -1) (by omega) (by omega)).trans (by omega)
    refine pd49_X11_bears_3 ⟨fun a => ?_, fun _ => pd49_X10_firstSpan_0 ⟨_, I, L, rfl, ?_⟩⟩
    · have a := kl_lt.mp a
      rw [kl_0] at a; omega
    refine b49_5 hn n1 h3 (by omega) s12 (b23 _ (by omega)) b25 b26 (fun i hi q => h _ (Or.inl ⟨m, by omega, i, hi, q, rfl⟩)) (fun hsm v hv => ih v _ pd (by omega) (fun c c1 c2 => ?_) ?_) _ 0 1 _ (by rw [s12]; omega) (Nat.zero_add _) (fun j hj => absurd hj (Nat.not_lt_zero j)) (Or.inl ⟨rfl, fun j hj => absurd hj (Nat.not_lt_zero j)⟩)
    · rcases Nat.lt_or_ge m c with u | u
      · exact hs c u c2
      · have : c = m := by omega
        subst this; exact hsm
    · rcases hv with ⟨ev, q⟩ | ⟨ev, q⟩
      · exact Or.inl ⟨m, Nat.le_refl _, by omega, q, fun c' a b => absurd b (by omega), by rw [ev, ex3]⟩
      · rcases hh with ⟨c, c1, c2, q1, q2, q3⟩ | ⟨q1, q2⟩
        · refine Or.inl ⟨c, by omega, c2, q1, fun c' a b => ?_, by rw [ev, q3]⟩
          rcases Nat.lt_or_ge m c' with u | u
          · exact q2 c' u b
          · have : c' = m := by omega
            subst this; exact q
        · refine Or.inr ⟨fun c a b => ?_, by rw [ev, q2]⟩
          rcases Nat.lt_or_ge m c with u | u
          · exact q1 c u b
          · have : c = m := by omega
            subst this; exact q
theorem b49_bears {x1 : Int32} (hb3 : (I 49 3).toInt ≤ 10) (b22 : ∀ j, j < 10 → 0 ≤ (I 59 j).toInt ∧ (I 59 j).toInt ≤ 4) (b23 : ∀ j, j < 40 → 0 ≤ (I 60 j).toInt ∧ (I 60 j).toInt ≤ 3) (b25 : ∀ j, j < 120 → 0 ≤ (I 62 j).toInt ∧ (I 62 j).toInt ≤ 9) (b26 : ∀ j, j < 120 → -1 ≤ (I 63 j).toInt ∧ (I 63 j).toInt ≤ 9) (h0 : ¬ (0 ≤ x1.toInt ∧ x1.toInt < (I 49 3).toInt) → Φ (some (.int (-1)), (xLay, I, L, kD49 R))) (h : ∀ n : Nat, x1.toInt = n → x1.toInt < (I 49 3).toInt → ∀ v : Int32, BS (I 59 n).toNatClampNeg (fun c => (I 60 (4 * n + c)).toNatClampNeg) (k49_st I n) (k49_hd I n) v → Φ (some (.int v), (xLay, I, L, kD49 R))) : sm_wp sm_P S (d + 2) 31 0 [.ref 0, .int x1] [] (xLay, I, L, (kD49 R)) (0, 0) Φ := by
  have g := kp_inS (S := S) (d := d + 1) (I := I) (L := L) (R := kD49 R) (q := 49) (x := x1) (Φ := fun z => ∃ (r3 : Int32) (I1 : sm_I) (L2 : sm_L), z = (some (.int r3), (xLay, I1, L2, (kD49 R))) ∧ ((r3 = 0 → Φ (some (.int (-1 : Int32)), (xLay, I1, L2, (kD49 R)))) ∧ (¬ r3 = 0 → (vp_in x1 10) ∧ ∀ n4 : Int32, n4 = ((I1 59 x1.toNatClampNeg) - (1 : Int32)) → sm_wp sm_P S (d + 1 + 1) 31 3 [.ref 0, .int x1, .int (-2 : Int32), .int n4] [] (xLay, I1, L2, (kD49 R)) (0, 0) Φ))) (by decide) (fun c => ⟨_, I, L, by rw [kD49_kP], fun _ => h0 c, fun z => absurd rfl z⟩) (fun a b => ⟨_, I, L, by rw [kD49_kP], fun z => absurd z (by decide), fun _ => ⟨kl_in a (by omega), fun n4 e4 => ?_⟩⟩)
  · rw [kD49_kP] at g
    exact pd49_X11_bears_0 g
  · have nx := kl_nat a
    have bn := b22 x1.toNatClampNeg (by omega)
    have nc := kl_nat bn.1
    refine b49_3 (n := x1.toNatClampNeg) (ch := (I 59 x1.toNatClampNeg).toNatClampNeg) (by omega) (by omega) (by omega) b23 b25 b26 (h x1.toNatClampNeg (by omega) b) (I 59 x1.toNatClampNeg).toNatClampNeg (-2) n4 ?_ (Nat.le_refl _) (fun c c1 c2 => absurd c2 (by omega)) (Or.inr ⟨fun c c1 c2 => absurd c2 (by omega), rfl⟩)
    rw [e4, Int32.toInt_sub, kl_1]
    exact en_bmod (by omega) (by omega) (Or.inl (by omega))
end
end
section
/-! the reference's bears, exact -/
section
variable {S : sm_C} {d : Nat} {Φ : sm_Z → Prop} {I : sm_I} {L : sm_L} {R : sm_R}
theorem bm_span {x : Int32} {p : Nat} (hp : x.toInt = p) (p1 : p < 260) (bx : 0 ≤ (I 130 p).toInt ∧ (I 130 p).toInt ≤ 9) (bz : -1 ≤ (I 131 p).toInt ∧ (I 131 p).toInt ≤ 9) (h4 : ¬ bst (I 138) (I 130 p) (I 131 p) → Φ (some (.int (-4)), (xLay, I, L, kM R))) (h0 : bst (I 138) (I 130 p) (I 131 p) → ¬ bhd (I 138) (I 130 p) (I 131 p) (I 132 p) (I 133 p) → Φ (some (.int 0), (xLay, I, L, kM R))) (h1 : bst (I 138) (I 130 p) (I 131 p) → bhd (I 138) (I 130 p) (I 131 p) (I 132 p) (I 133 p) → Φ (some (.int 1), (xLay, I, L, kM R))) : sm_wp sm_P S (d + 1) 101 0 [.ref 107, .int x] [] (xLay, I, L, kM R) (0, 0) Φ := by
  have px := tk_nat hp
  have v : vp_in x 260 := kl_in (by omega) (by omega)
  have inn : ∀ y : Int32, y = (if I 131 p = -1 then 0 else I 138 (I 131 p).toNatClampNeg) → bst (I 138) (I 130 p) (I 131 p) → sm_wp sm_P S d 141 0 [.int (I 138 (I 130 p).toNatClampNeg - y), .int (I 132 p), .int (I 133 p)] [] (xLay, I, L, (kM R)) (0, 0) (fun z => ∃ (r12 : Int32) (I10 : sm_I) (L11 : sm_L), z = (some (.int r12), (xLay, I10, L11, (kM R))) ∧ ((r12 = 0 → Φ (some (.int (0 : Int32)), (xLay, I10, L11, (kM R)))) ∧ (¬ r12 = 0 → Φ (some (.int (1 : Int32)), (xLay, I10, L11, (kM R)))))) := fun y ey q => by
    have h0 := h0 q
    have h1 := h1 q
    unfold bhd at h0 h1
    rw [← ey] at h0 h1
    refine yp_in (fun c => ⟨_, I, L, rfl, fun _ => h0 (fun k => c ⟨kl_nlt k.1, kl_nlt k.2⟩), fun z => absurd rfl z⟩) (fun a b => ⟨_, I, L, rfl, fun z => absurd z (by decide), fun _ => h1 ⟨fun k => ?_, fun k => ?_⟩⟩)
    · have k := kl_lt.mp k
      omega
    · have k := kl_lt.mp k
      omega
  refine v_X12_bearsSpan_0 ⟨v, ?_⟩
  rw [px]
  refine ⟨kl_in bx.1 (by omega), fun n1 e1 => ⟨v, fun e2 => ⟨fun e3 => h4 (fun k => k.1 (by rw [← e1]; exact e3)), fun e3 => ⟨fun z => absurd z (by decide), fun _ => ⟨v, v, ?_⟩⟩⟩, fun e2 => ⟨v, ?_⟩⟩⟩
  · rw [e1] at e3 ⊢
    exact inn 0 (by rw [if_pos e2]) ⟨e3, Or.inl e2⟩
  · have b0 : 0 ≤ (I 131 p).toInt := by
      have : (I 131 p).toInt ≠ -1 := fun q => e2 (en_ofI (by rw [q]; decide))
      omega
    refine ⟨kl_in b0 (by omega), fun n2 en2 => ⟨fun e3 => h4 (fun k => k.1 (by rw [← e1]; exact e3)), fun e3 => ⟨fun e4 => h4 (fun k => k.2.elim e2 (fun q => q (by rw [← en2]; exact e4))), fun e4 => ⟨v, v, ?_⟩⟩⟩⟩
    rw [e1] at e3 ⊢
    rw [en2] at e4 ⊢
    exact inn _ (by rw [if_neg e2]) ⟨e3, Or.inr e4⟩
def m_st (I : sm_I) (s c i : Nat) : Prop := bst (I 138) (I 130 (3 * (4 * s + c) + i)) (I 131 (3 * (4 * s + c) + i))
def m_hd (I : sm_I) (s c i : Nat) : Prop := bhd (I 138) (I 130 (3 * (4 * s + c) + i)) (I 131 (3 * (4 * s + c) + i)) (I 132 (3 * (4 * s + c) + i)) (I 133 (3 * (4 * s + c) + i))
theorem bm_5 {x2 x3 x4 : Int32} {s c : Nat} (hs : x2.toInt = s) (s1 : s < 20) (hc : x4.toInt = c) (c1 : c < 4) (b129 : 0 ≤ (I 129 (4 * s + c)).toInt ∧ (I 129 (4 * s + c)).toInt ≤ 3) (b130 : ∀ i, i < (I 129 (4 * s + c)).toNatClampNeg → 0 ≤ (I 130 (3 * (4 * s + c) + i)).toInt ∧ (I 130 (3 * (4 * s + c) + i)).toInt ≤ 9) (b131 : ∀ i, i < 260 → -1 ≤ (I 131 i).toInt ∧ (I 131 i).toInt ≤ 9) (hb : ∀ i, i < (I 129 (4 * s + c)).toNatClampNeg → ¬ m_st I s c i → Φ (some (.int (-4)), (xLay, I, L, kM R))) (hg : (∀ i, i < (I 129 (4 * s + c)).toNatClampNeg → m_st I s c i) → ∀ v : Int32, ((x3 = -2 ∧ v = x4 ∧ ∀ i, i < (I 129 (4 * s + c)).toNatClampNeg → m_hd I s c i) ∨ (x3 ≠ -2 ∧ v = x3 ∧ ∀ i, i < (I 129 (4 * s + c)).toNatClampNeg → m_hd I s c i) ∨ (v = x3 ∧ ∃ i, i < (I 129 (4 * s + c)).toNatClampNeg ∧ ¬ m_hd I s c i)) → sm_wp sm_P S (d + 2) 100 3 [.ref 107, .int x2, .int v, .int (x4 + (1 : Int32))] [] (xLay, I, L, (kM R)) (0, 0) Φ) : ∀ (m i : Nat) (x5 x6 : Int32), x6.toInt = i → i + m = (I 129 (4 * s + c)).toNatClampNeg → (∀ j, j < i → m_st I s c j) → ((x5 = 1 ∧ ∀ j, j < i → m_hd I s c j) ∨ (x5 = 0 ∧ ∃ j, j < i ∧ ¬ m_hd I s c j)) → sm_wp sm_P S (d + 2) 100 5 [.ref 107, .int x2, .int x3, .int x4, .int x5, .int x6] [] (xLay, I, L, (kM R)) (0, 0) Φ := by
  have nn := kl_nat (i := I 129 (4 * s + c)) b129.1
  have m4 : ((4 : Int32) * x2).toInt = 4 * (s : Int) := ml_mu (by decide) hs (by omega) (by omega)
  have s4 : (((4 : Int32) * x2) + x4).toInt = ((4 * s + c : Nat) : Int) := (ml_ad m4 hc (by omega) (by omega)).trans (by omega)
  have n4 := tk_nat s4
  have s12 : ((3 : Int32) * (((4 : Int32) * x2) + x4)).toInt = 3 * ((4 * s + c : Nat) : Int) := ml_mu (by decide) s4 (by omega) (by omega)
  intro m
  induction m with
  | zero =>
    intro i x5 x6 h6 hm hst hh
    refine v_X12_bears_5 ⟨kl_in (by omega) (by omega), ?_⟩
    rw [n4]
    refine ⟨fun _ => ⟨fun z => hg (fun j hj => hst j (by omega)) x3 (Or.inr (Or.inr ⟨rfl, ?_⟩)), fun z => ?_⟩, fun a => ?_⟩
    · rcases hh with ⟨e, -⟩ | ⟨-, j, hj, hq⟩
      · rw [e] at z; exact absurd z (by decide)
      · exact ⟨j, by omega, hq⟩
    · rcases hh with ⟨-, q⟩ | ⟨e, -⟩
      · have q' : ∀ j, j < (I 129 (4 * s + c)).toNatClampNeg → m_hd I s c j := fun j hj => q j (by omega)
        exact ⟨fun e3 => hg (fun j hj => hst j (by omega)) x4 (Or.inl ⟨e3, rfl, q'⟩), fun e3 => hg (fun j hj => hst j (by omega)) x3 (Or.inr (Or.inl ⟨e3, rfl, q'⟩))⟩
      · exact absurd e z
    · have a := kl_nle a
      omega
  | succ m ih =>
    intro i x5 x6 h6 hm hst hh
    have s6 := ml_in1 (x := x6) (by omega)
    have i6 : (x6 + 1).toInt = ((i + 1 : Nat) : Int) := by omega
    have p1 : 3 * (4 * s + c) + i < 260 := by omega
    refine v_X12_bears_5 ⟨kl_in (by omega) (by omega), ?_⟩
    rw [n4]
    refine ⟨fun a => ?_, fun _ n3 e3 => ?_⟩
    · have a := kl_le.mp a
      omega
    have h3 : n3.toInt = ((3 * (4 * s + c) + i : Nat) : Int) := by rw [e3, ml_ad s12 h6 (by omega) (by omega)]; omega
    have hs' : m_st I s c i → ∀ j, j < i + 1 → m_st I s c j := fun q j hj => by
      rcases Nat.lt_or_ge j i with u | u
      · exact hst j u
      · have : j = i := by omega
        subst this; exact q
    have bi := b130 i (by omega)
    refine bm_span h3 p1 bi (b131 _ p1) (fun q => ⟨_, I, L, rfl, fun _ => hb i (by omega) q, fun z => absurd rfl z⟩) (fun q g => ⟨_, I, L, rfl, fun z => absurd z (by decide), fun _ => ⟨fun z => ?_, fun z => ⟨fun w => absurd w (by decide), fun _ => ?_⟩⟩⟩) (fun q g => ⟨_, I, L, rfl, fun z => absurd z (by decide), fun _ => ⟨fun z => ?_, fun z => ⟨fun _ => ?_, fun w => absurd rfl w⟩⟩⟩)
    · exact ih (i + 1) 0 _ i6 (by omega) (hs' q) (Or.inr ⟨rfl, i, by omega, g⟩)
    · exact ih (i + 1) 0 _ i6 (by omega) (hs' q) (Or.inr ⟨rfl, i, by omega, g⟩)
    · refine ih (i + 1) 0 _ i6 (by omega) (hs' q) (Or.inr ⟨rfl, ?_⟩)
      rcases hh with ⟨e5, hh⟩ | ⟨e5, j, hj, hq⟩
      · rw [e5] at z; exact absurd z (by decide)
      · exact ⟨j, by omega, hq⟩
    · refine ih (i + 1) 1 _ i6 (by omega) (hs' q) (Or.inl ⟨rfl, fun j hj => ?_⟩)
      rcases hh with ⟨e5, hh⟩ | ⟨e5, j', hj', hq⟩
      · rcases Nat.lt_or_ge j i with u | u
        · exact hh j u
        · have : j = i := by omega
          subst this; exact g
      · exact absurd e5 z
theorem bm_3 {x2 : Int32} {s ch : Nat} (hs : x2.toInt = s) (s1 : s < 20) (hc : ch ≤ 4) (hch : (I 128 s).toInt = ch) (b129 : ∀ j, j < 80 → 0 ≤ (I 129 j).toInt ∧ (I 129 j).toInt ≤ 3) (b130 : ∀ c i, c < ch → i < (I 129 (4 * s + c)).toNatClampNeg → 0 ≤ (I 130 (3 * (4 * s + c) + i)).toInt ∧ (I 130 (3 * (4 * s + c) + i)).toInt ≤ 9) (b131 : ∀ i, i < 260 → -1 ≤ (I 131 i).toInt ∧ (I 131 i).toInt ≤ 9) (h : ∀ v : Int32, BS ch (fun c => (I 129 (4 * s + c)).toNatClampNeg) (m_st I s) (m_hd I s) v → Φ (some (.int v), (xLay, I, L, kM R))) : ∀ (m c : Nat) (x3 x4 : Int32), x4.toInt = c → c + m = ch → (∀ c', c' < c → ∀ i, i < (I 129 (4 * s + c')).toNatClampNeg → m_st I s c' i) → ((∃ c', c' < c ∧ (∀ i, i < (I 129 (4 * s + c')).toNatClampNeg → m_hd I s c' i) ∧ (∀ c2, c2 < c' → ∃ i, i < (I 129 (4 * s + c2)).toNatClampNeg ∧ ¬ m_hd I s c2 i) ∧ x3 = Int32.ofNat c') ∨ ((∀ c', c' < c → ∃ i, i < (I 129 (4 * s + c')).toNatClampNeg ∧ ¬ m_hd I s c' i) ∧ x3 = -2)) → sm_wp sm_P S (d + 2) 100 3 [.ref 107, .int x2, .int x3, .int x4] [] (xLay, I, L, (kM R)) (0, 0) Φ := by
  have nx := tk_nat hs
  have no2 : ∀ k, k < 4 → Int32.ofNat k ≠ -2 := by decide
  intro m
  induction m with
  | zero =>
    intro c x3 x4 h4 hm hst hh
    have e : c = ch := by omega
    subst e
    refine v_X12_bears_3 ⟨kl_in (by omega) (by omega), fun _ => h x3 (Or.inr ⟨hst, hh⟩), fun a => ?_⟩
    have a := kl_nle a
    rw [nx] at a
    omega
  | succ m ih =>
    intro c x3 x4 h4 hm hst hh
    have s4 := ml_in1 (x := x4) (by omega)
    refine v_X12_bears_3 ⟨kl_in (by omega) (by omega), fun a => ?_, fun _ => ?_⟩
    · have a := kl_le.mp a
      rw [nx] at a
      omega
    refine bm_5 hs s1 h4 (by omega) (b129 _ (by omega)) (fun i hi => b130 c i (by omega) hi) b131 (fun i hi q => h _ (Or.inl ⟨c, by omega, i, hi, q, rfl⟩)) (fun hsm v hv => ih (c + 1) v _ (by omega) (by omega) (fun c' c1 => ?_) ?_) _ 0 1 0 (by decide) (Nat.zero_add _) (fun j hj => absurd hj (Nat.not_lt_zero j)) (Or.inl ⟨rfl, fun j hj => absurd hj (Nat.not_lt_zero j)⟩)
    · rcases Nat.lt_or_ge c' c with u | u
      · exact hst c' u
      · have : c' = c := by omega
        subst this; exact hsm
    · have ex4 : x4 = Int32.ofNat c := en_ofI (by rw [h4, Int32.toInt_ofNat_of_lt (by omega)])
      rcases hv with ⟨e3, ev, q⟩ | ⟨e3, ev, q⟩ | ⟨ev, q⟩
      · rcases hh with ⟨c', c1, q1, q2, q3⟩ | ⟨q1, q2⟩
        · exact absurd (q3.symm.trans e3) (no2 c' (by omega))
        · exact Or.inl ⟨c, by omega, q, q1, by rw [ev, ex4]⟩
      · rcases hh with ⟨c', c1, q1, q2, q3⟩ | ⟨q1, q2⟩
        · exact Or.inl ⟨c', by omega, q1, q2, by rw [ev, q3]⟩
        · exact absurd q2 e3
      · rcases hh with ⟨c', c1, q1, q2, q3⟩ | ⟨q1, q2⟩
        · exact Or.inl ⟨c', by omega, q1, q2, by rw [ev, q3]⟩
        · refine Or.inr ⟨fun c' c1 => ?_, by rw [ev, q2]⟩
          rcases Nat.lt_or_ge c' c with u | u
          · exact q1 c' u
          · have : c' = c := by omega
            subst this; exact q
theorem bm_bears0 {x1 : Int32} {l : Nat} (hl : (I 107 18).toInt = l) (l1 : l ≤ 1) (hm : en_mem ml_tb mlX (xLay, I, L, R)) (h0 : ¬ (0 ≤ x1.toInt ∧ x1.toInt < (I 125 l).toInt) → Φ (some (.int (-1)), (xLay, I, L, kM R))) (h : ∀ n : Nat, x1.toInt = n → x1.toInt < (I 125 l).toInt → ∀ v : Int32, BS (I 128 (10 * l + n)).toNatClampNeg (fun c => (I 129 (4 * (10 * l + n) + c)).toNatClampNeg) (m_st I (10 * l + n)) (m_hd I (10 * l + n)) v → Φ (some (.int v), (xLay, I, L, kM R))) : sm_wp sm_P S (d + 2) 100 0 [.ref 107, .int x1] [] (xLay, I, L, kM R) (0, 0) Φ := by
  have b128 : ∀ j, j < 20 → 0 ≤ (I 128 j).toInt ∧ (I 128 j).toInt ≤ 4 := fun j hj => ml_row hm (p := 128) (n := 20) (q := (0, 4)) (fun _ => rfl) j hj
  have b129 : ∀ j, j < 80 → 0 ≤ (I 129 j).toInt ∧ (I 129 j).toInt ≤ 3 := fun j hj => ml_row hm (p := 129) (n := 80) (q := (0, 3)) (fun _ => rfl) j hj
  have b130 : ∀ j, j < 260 → -1 ≤ (I 130 j).toInt ∧ (I 130 j).toInt ≤ 9 := fun j hj => ml_row hm (p := 130) (n := 260) (q := (-1, 9)) (fun _ => rfl) j hj
  have b131 : ∀ j, j < 260 → -1 ≤ (I 131 j).toInt ∧ (I 131 j).toInt ≤ 9 := fun j hj => ml_row hm (p := 131) (n := 260) (q := (-1, 9)) (fun _ => rfl) j hj
  have V : mlV I l := hm.2.2.2.2.2.2.1 l hl.symm
  refine v_X12_bears_0 (yp_inS hl l1 (ml_cs l1 hm).2.2.2.1 (fun c => ⟨_, I, L, rfl, fun _ => h0 c, fun z => absurd rfl z⟩) (fun a b => ⟨_, I, L, rfl, fun z => absurd z (by decide), fun _ n4 e4 => ?_⟩))
  have nx := kl_nat a
  have bb := (ml_cs l1 hm).2.2.2.1
  have q1 : ((10 : Int32) * (I 107 18)).toInt = 10 * (l : Int) := ml_mu (by decide) hl (by omega) (by omega)
  have q2 : n4.toInt = ((10 * l + x1.toNatClampNeg : Nat) : Int) := by rw [e4, ml_ad q1 rfl (by omega) (by omega)]; omega
  have bn := b128 (10 * l + x1.toNatClampNeg) (by omega)
  have nc := kl_nat bn.1
  refine bm_3 (ch := (I 128 (10 * l + x1.toNatClampNeg)).toNatClampNeg) q2 (by omega) (by omega) (by omega) b129 (fun c i hc hi => ⟨?_, (b130 _ ?_).2⟩) b131 (h x1.toNatClampNeg (by omega) b) _ 0 (-2) 0 (by decide) (Nat.zero_add _) (fun c' c1 => absurd c1 (Nat.not_lt_zero c')) (Or.inr ⟨fun c' c1 => absurd c1 (Nat.not_lt_zero c'), rfl⟩)
  · have n9 := kl_nat (b129 (4 * (10 * l + x1.toNatClampNeg) + c) (by omega)).1
    exact V.2 x1.toNatClampNeg c i (by omega) (by omega) (by omega)
  · have n9 := kl_nat (b129 (4 * (10 * l + x1.toNatClampNeg) + c) (by omega)).1
    have := (b129 (4 * (10 * l + x1.toNatClampNeg) + c) (by omega)).2
    omega
end
end
section
/-! the first of a list; when a MOVE breaks; what is picked (wip/pe/mkb3.py) -/
def FS (n : Nat) (P : Nat → Prop) (v : Int32) : Prop := (∃ j, j < n ∧ P j ∧ (∀ i, i < j → ¬ P i) ∧ v = Int32.ofNat j) ∨ ((∀ j, j < n → ¬ P j) ∧ v = -2)
theorem FS_fun {n : Nat} {P : Nat → Prop} {v w : Int32} (h : FS n P v) (g : FS n P w) : v = w := by
  rcases h with ⟨j, j1, j2, j3, e⟩ | ⟨j1, e⟩
  · rcases g with ⟨k, k1, k2, k3, f⟩ | ⟨k1, f⟩
    · rcases Nat.lt_trichotomy j k with u | u | u
      · exact absurd j2 (k3 j u)
      · rw [e, f, u]
      · exact absurd k2 (j3 k u)
    · exact absurd j2 (k1 j j1)
  · rcases g with ⟨k, k1, k2, k3, f⟩ | ⟨k1, f⟩
    · exact absurd k2 (j1 k k1)
    · rw [e, f]
theorem FS_cg {n : Nat} {P P' : Nat → Prop} {v : Int32} (e : ∀ j, j < n → (P j ↔ P' j)) (h : FS n P v) : FS n P' v := by
  rcases h with ⟨j, j1, j2, j3, e1⟩ | ⟨j1, e1⟩
  · exact Or.inl ⟨j, j1, (e j j1).mp j2, fun i hi q => j3 i hi ((e i (by omega)).mpr q), e1⟩
  · exact Or.inr ⟨fun j hj q => j1 j hj ((e j hj).mpr q), e1⟩
def bq (h f t w : Nat → Int32) (nw : Int32 → Prop) (j : Nat) : Prop := h (f j).toNatClampNeg ≠ -1 ∧ h (t j).toNatClampNeg ≠ -1 ∧ (nw (w j) ∨ ((h (f j).toNatClampNeg).toInt - (h (t j).toNatClampNeg).toInt < (w j).toInt ∧ (h (t j).toNatClampNeg).toInt - (h (f j).toNatClampNeg).toInt < (w j).toInt))
theorem ab_i {a b : Int32} (a0 : 0 ≤ a.toInt) (a1 : a.toInt ≤ 1440) (b0 : 0 ≤ b.toInt) (b1 : b.toInt ≤ 1440) : (if 0 ≤ (a - b) then (a - b) else 0 - (a - b)).toInt = if b.toInt ≤ a.toInt then a.toInt - b.toInt else b.toInt - a.toInt := by
  have s : (a - b).toInt = a.toInt - b.toInt := by rw [Int32.toInt_sub]; exact en_bmod (by omega) (by omega) (Or.inl rfl)
  have s0 : (0 - (a - b)).toInt = b.toInt - a.toInt := by rw [Int32.toInt_sub, s, kl_0]; exact en_bmod (by omega) (by omega) (Or.inl (by omega))
  by_cases c : (0 : Int32) ≤ a - b
  · have c' := kl_le.mp c
    rw [kl_0, s] at c'
    rw [if_pos c, s, if_pos (by omega)]
  · have c' := kl_nle c
    rw [kl_0, s] at c'
    rw [if_neg c, s0, if_neg (by omega)]
theorem sub100 {x : Int32} : (x - 100).toInt = x.toInt - 100 ∨ (x.toInt < -2147483548 ∧ (x - 100).toInt = x.toInt + 4294967196) := by
  have a := Int32.le_toInt x
  have b := Int32.toInt_lt x
  have c : (100 : Int32).toInt = 100 := by decide
  rcases Int.lt_or_le x.toInt (-2147483548) with u | u
  · right
    refine ⟨u, ?_⟩
    rw [Int32.toInt_sub, c]
    exact en_bmod (by omega) (by omega) (Or.inr (Or.inl (by omega)))
  · left
    rw [Int32.toInt_sub, c]
    exact en_bmod (by omega) (by omega) (Or.inl rfl)
def pks (qt : Nat) (I : sm_I) (x : Int32) (s : Nat) (ch : Int) : Prop := (0 ≤ x.toInt ∧ x.toInt < (I qt 3).toInt ∧ ((I 37 0) >>> (x &&& 31)) &&& (1 : Int32) = 0 ∧ x.toInt = s ∧ ch = (I (qt + 10) s).toInt) ∨ (100 ≤ x.toInt ∧ x.toInt < 100 + (I qt 5).toInt ∧ x.toInt = s + 90 ∧ ch = if 0 ≤ (I (qt + 24) (s - 10)).toInt then 2 else 0)
def pkm (l : Nat) (I : sm_I) (x : Int32) (s : Nat) (ch : Int) : Prop := (0 ≤ x.toInt ∧ x.toInt < (I 125 l).toInt ∧ I 137 s = 0 ∧ x.toInt = s ∧ ch = (I 128 (10 * l + s)).toInt) ∨ (100 ≤ x.toInt ∧ x.toInt < 100 + (I 107 46).toInt ∧ x.toInt = s + 90 ∧ ch = if I 142 (s - 10) = -1 then 0 else 2)
theorem pks_fun {qt s s' : Nat} {I : sm_I} {x : Int32} {ch ch' : Int} (h3 : (I qt 3).toInt ≤ 10) (h : pks qt I x s ch) (g : pks qt I x s' ch') : s' = s ∧ ch' = ch := by
  rcases h with ⟨a1, a2, a3, a4, a5⟩ | ⟨a1, a2, a3, a4⟩
  · rcases g with ⟨b1, b2, b3, b4, b5⟩ | ⟨b1, b2, b3, b4⟩
    · have e : s' = s := by omega
      subst e
      exact ⟨rfl, by rw [a5, b5]⟩
    · omega
  · rcases g with ⟨b1, b2, b3, b4, b5⟩ | ⟨b1, b2, b3, b4⟩
    · omega
    · have e : s' = s := by omega
      subst e
      exact ⟨rfl, by rw [a4, b4]⟩
theorem bst_cg {h h' : Nat → Int32} {x y : Int32} (e : ∀ k, k < 10 → h k = h' k) (hx : 0 ≤ x.toInt ∧ x.toInt ≤ 9) (hy : -1 ≤ y.toInt ∧ y.toInt ≤ 9) : (bst h x y ↔ bst h' x y) ∧ ∀ a b, (bhd h x y a b ↔ bhd h' x y a b) := by
  have nx := kl_nat hx.1
  have ex := e x.toNatClampNeg (by omega)
  by_cases c : y = -1
  · refine ⟨?_, fun a b => ?_⟩
    · unfold bst
      rw [ex]
      exact ⟨fun q => ⟨q.1, Or.inl c⟩, fun q => ⟨q.1, Or.inl c⟩⟩
    · unfold bhd
      rw [ex, if_pos c, if_pos c]
  · have ny := kl_nat (i := y) (by
      have : y.toInt ≠ -1 := fun q => c (en_ofI (by rw [q]; decide))
      omega)
    have ey := e y.toNatClampNeg (by omega)
    refine ⟨?_, fun a b => ?_⟩
    · unfold bst
      rw [ex, ey]
    · unfold bhd
      rw [ex, ey]
end
section
/-! the class's walk, move, breaks, pick, exact, told = 12 (wip/pe/mkb3.py) -/
section
variable {S : sm_C} {d : Nat} {Φ : sm_Z → Prop} {I : sm_I} {L : sm_L} {R : sm_R}
theorem b12_pl {x : Int32} (h0 : ¬ (0 ≤ x.toInt ∧ x.toInt < (I 12 1).toInt) → Φ (some (.int 0), (xLay, I, L, kD12 R))) (h1 : 0 ≤ x.toInt → x.toInt < (I 12 1).toInt → Φ (some (.int 1), (xLay, I, L, kD12 R))) : sm_wp sm_P S d 60 0 [.ref 0, .int x] [] (xLay, I, L, kD12 R) (0, 0) Φ := by
  refine pd12_X11_isPlace_0 ⟨fun a => h0 (fun c => ?_), fun a => ⟨fun b => h0 (fun c => ?_), fun b => h1 (kl_nlt0 a) (kl_nle b)⟩⟩
  · have a := kl_lt.mp a
    rw [kl_0] at a; omega
  · have b := kl_le.mp b
    omega
theorem b12_inS {x : Int32} (h0 : ¬ (0 ≤ x.toInt ∧ x.toInt < (I 12 3).toInt) → Φ (some (.int 0), (xLay, I, L, kD12 R))) (h1 : 0 ≤ x.toInt → x.toInt < (I 12 3).toInt → Φ (some (.int 1), (xLay, I, L, kD12 R))) : sm_wp sm_P S d 62 0 [.ref 0, .int x] [] (xLay, I, L, kD12 R) (0, 0) Φ := by
  have g := kp_inS (S := S) (d := d) (Φ := Φ) (I := I) (L := L) (R := kD12 R) (q := 12) (x := x) (by decide) (fun c => by rw [kD12_kP]; exact h0 c) (fun a b => by rw [kD12_kP]; exact h1 a b)
  rw [kD12_kP] at g
  exact g
theorem b12_wb {x y : Int32} (x0 : 0 ≤ x.toInt) (x1 : x.toInt < 6) (y0 : 0 ≤ y.toInt) (y1 : y.toInt < 6) (h : Φ (some (.int (I 13 (6 * x.toNatClampNeg + y.toNatClampNeg))), (xLay, I, L, kD12 R))) : sm_wp sm_P S d 27 0 [.ref 12, .int x, .int y] [] (xLay, I, L, kD12 R) (0, 0) Φ := by
  have c6 : (6 : Int32).toInt = 6 := by decide
  have nx := kl_nat x0
  have ny := kl_nat y0
  have m6 : (x * (6 : Int32)).toInt = x.toInt * 6 := ml_mu rfl c6 (by omega) (by omega)
  have s6 : ((x * (6 : Int32)) + y).toInt = ((6 * x.toNatClampNeg + y.toNatClampNeg : Nat) : Int) := (ml_ad m6 rfl (by omega) (by omega)).trans (by omega)
  have t6 := tk_nat s6
  refine pd12_X10_walkBetween_0 ⟨fun a => ?_, fun _ => ⟨fun a => ?_, fun _ => ⟨fun a => ?_, fun _ => ⟨fun _ => ⟨kl_in (by omega) (by omega), ?_⟩, fun a => ?_⟩⟩⟩⟩
  · have a := kl_lt.mp a
    rw [kl_0] at a; omega
  · have a := kl_le.mp a
    omega
  · have a := kl_lt.mp a
    rw [kl_0] at a; omega
  · rw [t6]; exact h
  · have a := kl_nlt a
    omega
theorem b12_walk {x y : Int32} (h6 : (I 12 1).toInt ≤ 6) (h0 : ¬ ((0 ≤ x.toInt ∧ x.toInt < (I 12 1).toInt) ∧ (0 ≤ y.toInt ∧ y.toInt < (I 12 1).toInt)) → Φ (some (.int (-1)), (xLay, I, L, kD12 R))) (h1 : 0 ≤ x.toInt → x.toInt < (I 12 1).toInt → 0 ≤ y.toInt → y.toInt < (I 12 1).toInt → Φ (some (.int (I 13 (6 * x.toNatClampNeg + y.toNatClampNeg))), (xLay, I, L, kD12 R))) : sm_wp sm_P S (d + 1) 90 0 [.ref 0, .int x, .int y] [] (xLay, I, L, kD12 R) (0, 0) Φ :=
  pd12_X11_walk_0 (b12_pl (fun c => ⟨_, I, L, rfl, fun _ => h0 (fun k => c k.1), fun z => absurd rfl z⟩) (fun a1 a2 => ⟨_, I, L, rfl, fun z => absurd z (by decide), fun _ => b12_pl (fun c => ⟨_, I, L, rfl, fun _ => h0 (fun k => c k.2), fun z => absurd rfl z⟩) (fun b1 b2 => ⟨_, I, L, rfl, fun z => absurd z (by decide), fun _ => b12_wb a1 (by omega) b1 (by omega) ⟨_, I, L, rfl, h1 a1 a2 b1 b2⟩⟩)⟩))
theorem b12_move {x y : Int32} (h45 : (I 12 5).toInt ≤ 45) (h0 : ¬ (0 ≤ x.toInt ∧ x.toInt < (I 12 5).toInt ∧ 0 ≤ y.toInt ∧ y.toInt ≤ 2) → Φ (some (.int (-1)), (xLay, I, L, kD12 R))) (h1 : 0 ≤ x.toInt → x.toInt < (I 12 5).toInt → y.toInt = 0 → Φ (some (.int (I 34 x.toNatClampNeg)), (xLay, I, L, kD12 R))) (h2 : 0 ≤ x.toInt → x.toInt < (I 12 5).toInt → y.toInt = 1 → Φ (some (.int (I 35 x.toNatClampNeg)), (xLay, I, L, kD12 R))) (h3 : 0 ≤ x.toInt → x.toInt < (I 12 5).toInt → y.toInt = 2 → Φ (some (.int (I 36 x.toNatClampNeg)), (xLay, I, L, kD12 R))) : sm_wp sm_P S d 70 0 [.ref 0, .int x, .int y] [] (xLay, I, L, kD12 R) (0, 0) Φ := by
  refine pd12_X11_move_0 ⟨fun a => h0 (fun c => ?_), fun a => ⟨fun b => ?_, fun b => h0 (fun c => ?_)⟩⟩
  · have a := kl_lt.mp a
    rw [kl_0] at a; omega
  · have a := kl_nlt0 a
    have b := kl_lt.mp b
    have v : vp_in x 45 := kl_in a (by omega)
    exact ⟨fun e => ⟨v, h1 a b e⟩, fun e0 => ⟨fun e => ⟨v, h2 a b e⟩, fun e1 => ⟨fun e => ⟨v, h3 a b e⟩, fun e2 => h0 (fun c => by omega)⟩⟩⟩
  · have b := kl_nlt b
    omega
def k12_bq (I : sm_I) : Nat → Prop := bq (I 38) (I 34) (I 35) (I 36) (fun w => w.toInt < 0)
theorem b12_br {n : Nat} (hn : (I 12 5).toInt = n) (n1 : n ≤ 45) (b34 : ∀ j, j < 45 → 0 ≤ (I 34 j).toInt ∧ (I 34 j).toInt ≤ 9) (b35 : ∀ j, j < 45 → 0 ≤ (I 35 j).toInt ∧ (I 35 j).toInt ≤ 9) (b38 : ∀ j, j < 10 → -1 ≤ (I 38 j).toInt ∧ (I 38 j).toInt ≤ 1440) (h : ∀ v : Int32, FS n (k12_bq I) v → Φ (some (.int v), (xLay, I, L, kD12 R))) : ∀ (m j : Nat) (x1 : Int32), x1.toInt = j → j + m = n → (∀ i, i < j → ¬ k12_bq I i) → sm_wp sm_P S (d + 1) 33 1 [.ref 0, .int x1] [] (xLay, I, L, kD12 R) (0, 0) Φ := by
  intro m
  induction m with
  | zero =>
    intro j x1 h1 hm hs
    refine pd12_X11_breaks_1 ⟨fun _ => h _ (Or.inr ⟨fun i hi => hs i (by omega), rfl⟩), fun a => ?_⟩
    have a := kl_nle a
    omega
  | succ m ih =>
    intro j x1 h1 hm hs
    have px := tk_nat h1
    have s1 := ml_in1 (x := x1) (by omega)
    have v : vp_in x1 45 := kl_in (by omega) (by omega)
    have ex : x1 = Int32.ofNat j := en_ofI (by rw [h1, Int32.toInt_ofNat_of_lt (by omega)])
    have next : ¬ k12_bq I j → sm_wp sm_P S (d + 1) 33 1 [.ref 0, .int (x1 + (1 : Int32))] [] (xLay, I, L, kD12 R) (0, 0) Φ := fun q => ih (j + 1) _ (by omega) (by omega) (fun i hi => by
      rcases Nat.lt_or_ge i j with u | u
      · exact hs i u
      · have : i = j := by omega
        subst this; exact q)
    have ans : k12_bq I j → Φ (some (.int x1), (xLay, I, L, kD12 R)) := fun q => h x1 (Or.inl ⟨j, by omega, q, hs, ex⟩)
    refine pd12_X11_breaks_1 ⟨fun a => ?_, fun _ => ⟨v, ?_⟩⟩
    · have a := kl_le.mp a
      omega
    rw [px]
    have f1 := b34 j (by omega)
    have t1 := b35 j (by omega)
    have nf := kl_nat f1.1
    have nt := kl_nat t1.1
    have bf := b38 (I 34 j).toNatClampNeg (by omega)
    have bt := b38 (I 35 j).toNatClampNeg (by omega)
    refine b12_val (fun c => by omega) (fun _ _ => ⟨_, I, L, rfl, v, ?_⟩)
    refine b12_val (fun c => by omega) (fun _ _ => ⟨_, I, L, rfl, v, fun e1 => next (fun q => q.1 e1), fun e1 => ⟨fun e2 => next (fun q => q.2.1 e2), fun e2 => ?_⟩⟩)
    have vf : (I 38 (I 34 j).toNatClampNeg).toInt ≠ -1 := fun q => e1 (en_ofI (by rw [q]; decide))
    have vt : (I 38 (I 35 j).toNatClampNeg).toInt ≠ -1 := fun q => e2 (en_ofI (by rw [q]; decide))
    have ab := ab_i (a := I 38 (I 35 j).toNatClampNeg) (b := I 38 (I 34 j).toNatClampNeg) (by omega) (by omega) (by omega) (by omega)
    refine ⟨fun e3 => ans ⟨e1, e2, Or.inl ?_⟩, fun e3 => ⟨fun e4 => next (fun q => ?_), fun e4 => ans ⟨e1, e2, Or.inr ?_⟩⟩⟩
    · have e3 := kl_lt.mp e3
      rw [kl_0] at e3; exact e3
    · have e4 := kl_le.mp e4
      rw [ab] at e4
      rcases q.2.2 with q | ⟨q1, q2⟩
      · exact e3 (kl_lt.mpr (by rw [kl_0]; exact q))
      · split at e4 <;> omega
    · have e4 := kl_nle e4
      rw [ab] at e4
      split at e4 <;> exact ⟨by omega, by omega⟩
theorem b12_breaks {n : Nat} (hn : (I 12 5).toInt = n) (n1 : n ≤ 45) (b34 : ∀ j, j < 45 → 0 ≤ (I 34 j).toInt ∧ (I 34 j).toInt ≤ 9) (b35 : ∀ j, j < 45 → 0 ≤ (I 35 j).toInt ∧ (I 35 j).toInt ≤ 9) (b38 : ∀ j, j < 10 → -1 ≤ (I 38 j).toInt ∧ (I 38 j).toInt ≤ 1440) (h : ∀ v : Int32, FS n (k12_bq I) v → Φ (some (.int v), (xLay, I, L, kD12 R))) : sm_wp sm_P S (d + 1) 33 0 [.ref 0] [] (xLay, I, L, kD12 R) (0, 0) Φ := pd12_X11_breaks_0 (b12_br hn n1 b34 b35 b38 h n 0 0 kl_0 (Nat.zero_add _) (fun i hi => absurd hi (Nat.not_lt_zero i)))
theorem b12_pick {x y : Int32} (h3 : (I 12 3).toInt ≤ 10) (h5 : (I 12 5).toInt ≤ 45) (b22 : ∀ j, j < 10 → 0 ≤ (I 22 j).toInt) (h0 : (∀ s ch, pks 12 I x s ch → ¬ (-1 ≤ y.toInt ∧ y.toInt < ch)) → Φ (some (.int 0), (xLay, I, L, kD12 R))) (h1 : ∀ s ch, s < 55 → pks 12 I x s ch → -1 ≤ y.toInt → y.toInt < ch → Φ (some (.int 1), (xLay, sm_up (sm_up I 39 s y) 98 9 0, L, kD12 R))) : sm_wp sm_P S (d + 1) 72 0 [.ref 0, .int x, .int y] [] (xLay, I, L, kD12 R) (0, 0) Φ := by
  have cm : (-1 : Int32).toInt = -1 := by decide
  have c100 : (100 : Int32).toInt = 100 := by decide
  have c10 : (10 : Int32).toInt = 10 := by decide
  have fin : ∀ (s : Nat) (c z3 : Int32), z3.toInt = s → s < 55 → pks 12 I x s c.toInt → sm_wp sm_P S (d + 1) 72 10 [.ref 0, .int y, .int z3, .int c] [] (xLay, I, L, kD12 R) (0, 0) Φ := fun s c z3 e3 s55 p => by
    refine pd12_X11_pick_10 ⟨fun a => h0 (fun s' ch' q b => ?_), fun a => ⟨fun b => ⟨kl_in (by omega) (by omega), fun I1 e1 => ?_⟩, fun b => h0 (fun s' ch' q bb => ?_)⟩⟩
    · have a := kl_lt.mp a
      omega
    · rw [e1, tk_nat e3]
      have a := kl_nlt a
      exact h1 s _ s55 p (by omega) (kl_lt.mp b)
    · have b := kl_nlt b
      have e := (pks_fun h3 p q).2
      omega
  have no : x.toInt < 100 → ¬ (0 ≤ x.toInt ∧ x.toInt < (I 12 3).toInt ∧ ((I 37 0) >>> (x &&& 31)) &&& (1 : Int32) = 0) → Φ (some (.int 0), (xLay, I, L, kD12 R)) := fun a b => h0 (fun s ch q => by
    rcases q with ⟨q1, q2, q3, -⟩ | ⟨q1, -⟩
    · exact absurd ⟨q1, q2, q3⟩ b
    · omega)
  refine pd12_X11_pick_0 (b12_inS (fun c => ⟨_, I, L, rfl, fun _ => ⟨fun a => ?_, fun a => ⟨fun b => h0 (fun s ch q => ?_), fun b n4 e4 => ?_⟩⟩, fun z => absurd rfl z⟩) (fun a1 a2 => ⟨_, I, L, rfl, fun z => absurd z (by decide), fun _ => pd12_X11_isDoubted_0 ⟨fun e => ⟨_, I, L, rfl, fun _ => ⟨kl_in a1 (by omega), ?_⟩, fun z => absurd rfl z⟩, fun e => ⟨_, I, L, rfl, fun z => absurd z (by decide), fun _ => ⟨fun _ => no (by omega) (fun k => e k.2.2), fun a => ?_⟩⟩⟩⟩))
  · have a := kl_lt.mp a
    exact no (by omega) (fun k => c ⟨k.1, k.2.1⟩)
  · have a := kl_nlt a
    have b := kl_le.mp b
    have s1 : (x - 100).toInt = x.toInt - 100 := by
      rcases sub100 (x := x) with u | u
      · exact u
      · omega
    rw [s1] at b
    rcases q with ⟨q1, q2, -⟩ | ⟨q1, q2, -⟩
    · exact absurd ⟨q1, q2⟩ c
    · omega
  · have a := kl_nlt a
    have b := kl_nle b
    have s1 : (x - 100).toInt = x.toInt - 100 := by
      rcases sub100 (x := x) with u | u
      · exact u
      · omega
    rw [s1] at b
    have x0 : 0 ≤ x.toInt := by omega
    have nx := kl_nat x0
    have t1 : (x - 100).toNatClampNeg = x.toNatClampNeg - 100 := tk_nat (by omega)
    have s2 : ((10 : Int32) + x).toInt = 10 + x.toInt := ml_ad c10 rfl (by omega) (by omega)
    have s3 : n4.toInt = ((x.toNatClampNeg - 90 : Nat) : Int) := by
      rw [e4, Int32.toInt_sub, s2, c100]
      exact en_bmod (by omega) (by omega) (Or.inl (by omega))
    rw [t1]
    refine ⟨kl_in (by omega) (by omega), fun w => fin _ _ _ s3 (by omega) (Or.inr ⟨by omega, by omega, by omega, ?_⟩), fun w => fin _ _ _ s3 (by omega) (Or.inr ⟨by omega, by omega, by omega, ?_⟩)⟩
    · have w := kl_le.mp w
      rw [kl_0] at w
      show (2 : Int32).toInt = if 0 ≤ (I 36 (x.toNatClampNeg - 90 - 10)).toInt then 2 else 0
      rw [show x.toNatClampNeg - 90 - 10 = x.toNatClampNeg - 100 by omega, if_pos w]
      decide
    · have w := kl_nle w
      rw [kl_0] at w
      show (0 : Int32).toInt = if 0 ≤ (I 36 (x.toNatClampNeg - 90 - 10)).toInt then 2 else 0
      rw [show x.toNatClampNeg - 90 - 10 = x.toNatClampNeg - 100 by omega, if_neg (by omega)]
      decide
  · have nx := kl_nat a1
    exact fin x.toNatClampNeg _ _ nx.symm (by omega) (Or.inl ⟨a1, a2, e, nx.symm, rfl⟩)
  · have a := kl_nlt a
    omega
end
end
