section
/-! conditions of the class: net, book, going; told = 49, going = 74 (wip/pe/symg2.py) -/
def kG49_74l : List (Nat × Nat × Nat) := [(0, 0, 1), (0, 1, 2), (0, 2, 37), (0, 3, 45), (0, 4, 74), (0, 5, 82), (0, 6, 90), (0, 7, 98), (0, 8, 103), (37, 2, 38), (37, 3, 39), (37, 4, 40), (40, 0, 41), (40, 1, 42), (40, 2, 43), (40, 3, 44), (45, 0, 46), (45, 1, 47), (45, 2, 48), (49, 7, 50), (49, 8, 51), (49, 9, 52), (49, 10, 53), (49, 11, 58), (49, 12, 59), (49, 13, 60), (49, 14, 61), (49, 15, 66), (49, 16, 71), (49, 17, 72), (49, 18, 73), (53, 0, 54), (53, 1, 55), (53, 2, 56), (53, 3, 57), (61, 0, 62), (61, 1, 63), (61, 2, 64), (61, 3, 65), (66, 0, 67), (66, 1, 68), (66, 2, 69), (66, 3, 70), (74, 0, 75), (74, 2, 80), (74, 3, 81), (74, 5, 37), (75, 0, 76), (75, 1, 77), (75, 2, 78), (75, 3, 79), (0, 9, 49), (74, 4, 49)]
def kG49_74 (R : sm_R) : sm_R := fun x j => match kG49_74l.find? (fun t => Nat.beq t.1 x && Nat.beq t.2.1 j) with
  | some t => some t.2.2
  | none => R x j
theorem pg49_74_X5_hasLevel_0 {S : sm_C} {d : Nat} {Φ : sm_Z → Prop} {I : sm_I} {L : sm_L} {R : sm_R} {x1 : Int32} (h : ((x1 < 0 → Φ (some (.int (0 : Int32)), (xLay, I, L, (kG49_74 R)))) ∧ (¬ x1 < 0 → (((Int32.ofNat 7381) < ((x1 + (1 : Int32)) * (I 75 5)) → Φ (some (.int (0 : Int32)), (xLay, I, L, (kG49_74 R)))) ∧ (¬ (Int32.ofNat 7381) < ((x1 + (1 : Int32)) * (I 75 5)) → Φ (some (.int (1 : Int32)), (xLay, I, L, (kG49_74 R)))))))) : sm_wp sm_P S d 249 0 [.ref 75, .int x1] [] (xLay, I, L, (kG49_74 R)) (0, 0) Φ := sm_wp_step (⟨fun q2 => ⟨Or.inl rfl, ((h).1 q2)⟩, fun q2 => ⟨fun q1 => ⟨Or.inl rfl, ((((h).2 q2)).1 q1)⟩, fun q1 => ⟨Or.inr rfl, ((((h).2 q2)).2 q1)⟩⟩⟩)
theorem pg49_74_X5_hasNode_0 {S : sm_C} {d : Nat} {Φ : sm_Z → Prop} {I : sm_I} {L : sm_L} {R : sm_R} {x1 : Int32} (h : ((x1 < 0 → Φ (some (.int (0 : Int32)), (xLay, I, L, (kG49_74 R)))) ∧ (¬ x1 < 0 → (((I 75 4) ≤ x1 → Φ (some (.int (0 : Int32)), (xLay, I, L, (kG49_74 R)))) ∧ (¬ (I 75 4) ≤ x1 → Φ (some (.int (1 : Int32)), (xLay, I, L, (kG49_74 R)))))))) : sm_wp sm_P S d 250 0 [.ref 75, .int x1] [] (xLay, I, L, (kG49_74 R)) (0, 0) Φ := sm_wp_step (⟨fun q2 => ⟨Or.inl rfl, ((h).1 q2)⟩, fun q2 => ⟨fun q1 => ⟨Or.inl rfl, ((((h).2 q2)).1 q1)⟩, fun q1 => ⟨Or.inr rfl, ((((h).2 q2)).2 q1)⟩⟩⟩)
theorem pg49_74_X5_blank_0 {S : sm_C} {d : Nat} {Φ : sm_Z → Prop} {I : sm_I} {L : sm_L} {R : sm_R} {x1 : Int32} (h : ((x1 < (1 : Int32) → Φ (none, (xLay, I, L, (kG49_74 R)))) ∧ (¬ x1 < (1 : Int32) → ((x1 ≤ (Int32.ofNat 11) → ∀ I1 : sm_I, I1 = (sm_up (sm_up I 75 4 x1) 75 5 (x1 * x1)) → sm_wp sm_P S d 247 4 [.ref 75, .int (0 : Int32)] [] (xLay, I1, L, (kG49_74 R)) (0, 0) Φ) ∧ (¬ x1 ≤ (Int32.ofNat 11) → Φ (none, (xLay, I, L, (kG49_74 R)))))))) : sm_wp sm_P S d 247 0 [.ref 75, .int x1] [] (xLay, I, L, (kG49_74 R)) (0, 0) Φ := sm_wp_step (⟨fun q3 => ((h).1 q3), fun q3 => ⟨fun q2 => (((((h).2 q3)).1 q2) _ rfl), fun q2 => ((((h).2 q3)).2 q2)⟩⟩)
theorem pg49_74_X5_blank_4 {S : sm_C} {d : Nat} {Φ : sm_Z → Prop} {I : sm_I} {L : sm_L} {R : sm_R} {x2 : Int32} (h : (((I 75 4) ≤ x2 → Φ (none, (xLay, I, L, (kG49_74 R)))) ∧ (¬ (I 75 4) ≤ x2 → (vp_in x2 11) ∧ ∀ I1 : sm_I, I1 = (sm_up I 77 x2.toNatClampNeg x2) → (vp_in x2 11) ∧ ∀ I2 : sm_I, I2 = (sm_up I1 78 x2.toNatClampNeg (0 : Int32)) → (vp_in x2 11) ∧ ∀ I3 : sm_I, I3 = (sm_up I2 79 x2.toNatClampNeg (0 : Int32)) → sm_wp sm_P S d 247 6 [.ref 75, .int x2, .int (0 : Int32)] [] (xLay, I3, L, (kG49_74 R)) (0, 0) Φ))) : sm_wp sm_P S d 247 4 [.ref 75, .int x2] [] (xLay, I, L, (kG49_74 R)) (0, 0) Φ := sm_wp_step (⟨fun q4 => ((h).1 q4), fun q4 => ⟨(((h).2 q4)).1, ⟨(((((h).2 q4)).2 _ rfl)).1, ⟨(((((((h).2 q4)).2 _ rfl)).2 _ rfl)).1, ((((((((h).2 q4)).2 _ rfl)).2 _ rfl)).2 _ rfl)⟩⟩⟩⟩)
theorem pg49_74_X5_blank_6 {S : sm_C} {d : Nat} {Φ : sm_Z → Prop} {I : sm_I} {L : sm_L} {R : sm_R} {x2 : Int32} {x3 : Int32} (h : (((I 75 4) ≤ x3 → sm_wp sm_P S d 247 4 [.ref 75, .int (x2 + (1 : Int32))] [] (xLay, I, L, (kG49_74 R)) (0, 0) Φ) ∧ (¬ (I 75 4) ≤ x3 → ((x2 = 0 → (vp_in ((x2 * (I 75 4)) + x3) 7381) ∧ ∀ I1 : sm_I, I1 = (sm_up I 76 ((x2 * (I 75 4)) + x3).toNatClampNeg (0 : Int32)) → sm_wp sm_P S d 247 6 [.ref 75, .int x2, .int (x3 + (1 : Int32))] [] (xLay, I1, L, (kG49_74 R)) (0, 0) Φ) ∧ (¬ x2 = 0 → ((x2 = x3 → (vp_in ((x2 * (I 75 4)) + x3) 7381) ∧ ∀ I3 : sm_I, I3 = (sm_up I 76 ((x2 * (I 75 4)) + x3).toNatClampNeg (0 : Int32)) → sm_wp sm_P S d 247 6 [.ref 75, .int x2, .int (x3 + (1 : Int32))] [] (xLay, I3, L, (kG49_74 R)) (0, 0) Φ) ∧ (¬ x2 = x3 → (vp_in ((x2 * (I 75 4)) + x3) 7381) ∧ ∀ I2 : sm_I, I2 = (sm_up I 76 ((x2 * (I 75 4)) + x3).toNatClampNeg (1440 : Int32)) → sm_wp sm_P S d 247 6 [.ref 75, .int x2, .int (x3 + (1 : Int32))] [] (xLay, I2, L, (kG49_74 R)) (0, 0) Φ))))))) : sm_wp sm_P S d 247 6 [.ref 75, .int x2, .int x3] [] (xLay, I, L, (kG49_74 R)) (0, 0) Φ := sm_wp_step (⟨fun q6 => ((h).1 q6), fun q6 => ⟨fun q5 => ⟨(((((h).2 q6)).1 q5)).1, ((((((h).2 q6)).1 q5)).2 _ rfl)⟩, fun q5 => ⟨fun q4 => ⟨(((((((h).2 q6)).2 q5)).1 q4)).1, ((((((((h).2 q6)).2 q5)).1 q4)).2 _ rfl)⟩, fun q4 => ⟨(((((((h).2 q6)).2 q5)).2 q4)).1, ((((((((h).2 q6)).2 q5)).2 q4)).2 _ rfl)⟩⟩⟩⟩)
theorem pg49_74_X5_copyUp_0 {S : sm_C} {d : Nat} {Φ : sm_Z → Prop} {I : sm_I} {L : sm_L} {R : sm_R} {x1 : Int32} (h : sm_wp sm_P S d 249 0 [.ref 75, .int x1] [] (xLay, I, L, (kG49_74 R)) (0, 0) (fun z => ∃ (r3 : Int32) (I1 : sm_I) (L2 : sm_L), z = (some (.int r3), (xLay, I1, L2, (kG49_74 R))) ∧ ((r3 = 0 → Φ (none, (xLay, I1, L2, (kG49_74 R)))) ∧ (¬ r3 = 0 → sm_wp sm_P S d 249 0 [.ref 75, .int (x1 + (1 : Int32))] [] (xLay, I1, L2, (kG49_74 R)) (0, 0) (fun z => ∃ (r6 : Int32) (I4 : sm_I) (L5 : sm_L), z = (some (.int r6), (xLay, I4, L5, (kG49_74 R))) ∧ ((r6 = 0 → Φ (none, (xLay, I4, L5, (kG49_74 R)))) ∧ (¬ r6 = 0 → ∀ n7 : Int32, n7 = ((x1 + (1 : Int32)) * (I4 75 5)) → (¬ (x1 * (I4 75 5)) < 0 ∧ ¬ n7 < 0 ∧ ¬ (I4 75 5) < 0 ∧ (x1 * (I4 75 5)).toNatClampNeg + (I4 75 5).toNatClampNeg ≤ 7381 ∧ n7.toNatClampNeg + (I4 75 5).toNatClampNeg ≤ 7381) ∧ ∀ I8 : sm_I, I8 = (sm_row I4 76 (va_cpy (I4 76) (I4 76) (x1 * (I4 75 5)).toNatClampNeg n7.toNatClampNeg (I4 75 5).toNatClampNeg)) → Φ (none, (xLay, I8, L5, (kG49_74 R)))))))))) : sm_wp sm_P S (d + 1) 248 0 [.ref 75, .int x1] [] (xLay, I, L, (kG49_74 R)) (0, 0) Φ := sm_wp_step (sm_ci0 (h) (fun r3 I1 L2 q12 => ⟨fun q11 => ((q12).1 q11), fun q11 => sm_ci0 (((q12).2 q11)) (fun r6 I4 L5 q10 => ⟨fun q9 => ((q10).1 q9), fun q9 => ⟨((((q10).2 q9) _ rfl)).1, (((((q10).2 q9) _ rfl)).2 _ rfl)⟩⟩)⟩))
theorem pg49_74_X5_reach_0 {S : sm_C} {d : Nat} {Φ : sm_Z → Prop} {I : sm_I} {L : sm_L} {R : sm_R} {x1 : Int32} {x2 : Int32} {x3 : Int32} (h : sm_wp sm_P S d 249 0 [.ref 75, .int x1] [] (xLay, I, L, (kG49_74 R)) (0, 0) (fun z => ∃ (r3 : Int32) (I1 : sm_I) (L2 : sm_L), z = (some (.int r3), (xLay, I1, L2, (kG49_74 R))) ∧ ((r3 = 0 → Φ (some (.int (0 : Int32)), (xLay, I1, L2, (kG49_74 R)))) ∧ (¬ r3 = 0 → sm_wp sm_P S d 250 0 [.ref 75, .int x2] [] (xLay, I1, L2, (kG49_74 R)) (0, 0) (fun z => ∃ (r6 : Int32) (I4 : sm_I) (L5 : sm_L), z = (some (.int r6), (xLay, I4, L5, (kG49_74 R))) ∧ ((r6 = 0 → Φ (some (.int (0 : Int32)), (xLay, I4, L5, (kG49_74 R)))) ∧ (¬ r6 = 0 → sm_wp sm_P S d 250 0 [.ref 75, .int x3] [] (xLay, I4, L5, (kG49_74 R)) (0, 0) (fun z => ∃ (r9 : Int32) (I7 : sm_I) (L8 : sm_L), z = (some (.int r9), (xLay, I7, L8, (kG49_74 R))) ∧ ((r9 = 0 → Φ (some (.int (0 : Int32)), (xLay, I7, L8, (kG49_74 R)))) ∧ (¬ r9 = 0 → ∀ n10 : Int32, n10 = (((x1 * (I7 75 5)) + (x2 * (I7 75 4))) + x3) → (vp_in n10 7381) ∧ Φ (some (.int (I7 76 n10.toNatClampNeg)), (xLay, I7, L8, (kG49_74 R))))))))))))) : sm_wp sm_P S (d + 1) 255 0 [.ref 75, .int x1, .int x2, .int x3] [] (xLay, I, L, (kG49_74 R)) (0, 0) Φ := sm_wp_step (sm_ci0 (h) (fun r3 I1 L2 q16 => ⟨fun q15 => ((q16).1 q15), fun q15 => sm_ci0 (((q16).2 q15)) (fun r6 I4 L5 q14 => ⟨fun q13 => ((q14).1 q13), fun q13 => sm_ci0 (((q14).2 q13)) (fun r9 I7 L8 q12 => ⟨fun q11 => ((q12).1 q11), fun q11 => ⟨((((q12).2 q11) _ rfl)).1, ((((q12).2 q11) _ rfl)).2⟩⟩)⟩)⟩))
theorem pg49_74_X5_tightenRow_0 {S : sm_C} {d : Nat} {Φ : sm_Z → Prop} {I : sm_I} {L : sm_L} {R : sm_R} {x1 : Int32} {x2 : Int32} {x3 : Int32} (h : sm_wp sm_P S d 257 1 [.ref 75, .int x1, .int x2, .int x3, .int (0 : Int32)] [] (xLay, I, L, (kG49_74 R)) (0, 0) Φ) : sm_wp sm_P S d 257 0 [.ref 75, .int x1, .int x2, .int x3] [] (xLay, I, L, (kG49_74 R)) (0, 0) Φ := sm_wp_step (h)
theorem pg49_74_X5_tightenRow_1 {S : sm_C} {d : Nat} {Φ : sm_Z → Prop} {I : sm_I} {L : sm_L} {R : sm_R} {x1 : Int32} {x2 : Int32} {x3 : Int32} {x4 : Int32} (h : (((I 75 4) ≤ x4 → Φ (none, (xLay, I, L, (kG49_74 R)))) ∧ (¬ (I 75 4) ≤ x4 → (vp_in (x3 + x4) 7381) ∧ ∀ n1 : Int32, n1 = (x2 + (I 76 (x3 + x4).toNatClampNeg)) → (vp_in (x1 + x4) 7381) ∧ (((I 76 (x1 + x4).toNatClampNeg) ≤ n1 → sm_wp sm_P S d 257 1 [.ref 75, .int x1, .int x2, .int x3, .int (x4 + (1 : Int32))] [] (xLay, I, L, (kG49_74 R)) (0, 0) Φ) ∧ (¬ (I 76 (x1 + x4).toNatClampNeg) ≤ n1 → (vp_in (x1 + x4) 7381) ∧ ∀ I2 : sm_I, I2 = (sm_up I 76 (x1 + x4).toNatClampNeg n1) → sm_wp sm_P S d 257 1 [.ref 75, .int x1, .int x2, .int x3, .int (x4 + (1 : Int32))] [] (xLay, I2, L, (kG49_74 R)) (0, 0) Φ))))) : sm_wp sm_P S d 257 1 [.ref 75, .int x1, .int x2, .int x3, .int x4] [] (xLay, I, L, (kG49_74 R)) (0, 0) Φ := sm_wp_step (⟨fun q4 => ((h).1 q4), fun q4 => ⟨(((h).2 q4)).1, ⟨(((((h).2 q4)).2 _ rfl)).1, ⟨fun q3 => (((((((h).2 q4)).2 _ rfl)).2).1 q3), fun q3 => ⟨((((((((h).2 q4)).2 _ rfl)).2).2 q3)).1, (((((((((h).2 q4)).2 _ rfl)).2).2 q3)).2 _ rfl)⟩⟩⟩⟩⟩)
theorem pg49_74_X5_tighten_0 {S : sm_C} {d : Nat} {Φ : sm_Z → Prop} {I : sm_I} {L : sm_L} {R : sm_R} {x1 : Int32} {x2 : Int32} {x3 : Int32} {x4 : Int32} (h : ((x1 < 0 → sm_wp sm_P S (d + 1) 256 4 [.ref 75, .int x1, .int x2, .int x3, .int x4] [.int (0 : Int32)] (xLay, I, L, (kG49_74 R)) (0, 0) Φ) ∧ (¬ x1 < 0 → (((Int32.ofNat 7381) < ((x1 + (1 : Int32)) * (I 75 5)) → sm_wp sm_P S (d + 1) 256 4 [.ref 75, .int x1, .int x2, .int x3, .int x4] [.int (0 : Int32)] (xLay, I, L, (kG49_74 R)) (0, 0) Φ) ∧ (¬ (Int32.ofNat 7381) < ((x1 + (1 : Int32)) * (I 75 5)) → sm_wp sm_P S (d + 1) 256 4 [.ref 75, .int x1, .int x2, .int x3, .int x4] [.int (1 : Int32)] (xLay, I, L, (kG49_74 R)) (0, 0) Φ))))) : sm_wp sm_P S (d + 1) 256 0 [.ref 75, .int x1, .int x2, .int x3, .int x4] [] (xLay, I, L, (kG49_74 R)) (0, 0) Φ := sm_wp_step (⟨fun q2 => ((h).1 q2), fun q2 => ⟨fun q1 => ((((h).2 q2)).1 q1), fun q1 => ((((h).2 q2)).2 q1)⟩⟩)
theorem pg49_74_X5_tighten_4 {S : sm_C} {d : Nat} {Φ : sm_Z → Prop} {I : sm_I} {L : sm_L} {R : sm_R} {x1 : Int32} {x2 : Int32} {x3 : Int32} {x4 : Int32} {s0 : Int32} (h : ((s0 = 0 → Φ (some (.int (0 : Int32)), (xLay, I, L, (kG49_74 R)))) ∧ (¬ s0 = 0 → ((x2 < 0 → Φ (some (.int (0 : Int32)), (xLay, I, L, (kG49_74 R)))) ∧ (¬ x2 < 0 → (((I 75 4) ≤ x2 → Φ (some (.int (0 : Int32)), (xLay, I, L, (kG49_74 R)))) ∧ (¬ (I 75 4) ≤ x2 → ((x3 < 0 → Φ (some (.int (0 : Int32)), (xLay, I, L, (kG49_74 R)))) ∧ (¬ x3 < 0 → ((x3 < (I 75 4) → ((x2 = x3 → ((x4 < 0 → Φ (some (.int (0 : Int32)), (xLay, I, L, (kG49_74 R)))) ∧ (¬ x4 < 0 → Φ (some (.int (1 : Int32)), (xLay, I, L, (kG49_74 R)))))) ∧ (¬ x2 = x3 → (vp_in x2 11) ∧ (vp_in x3 11) ∧ ∀ n1 : Int32, n1 = ((x4 - (I 79 x2.toNatClampNeg)) + (I 78 x3.toNatClampNeg)) → (vp_in x2 11) ∧ (vp_in x3 11) ∧ ∀ n2 : Int32, n2 = ((x1 * (I 75 5)) + ((I 77 x3.toNatClampNeg) * (I 75 4))) → ∀ n3 : Int32, n3 = (n2 + (I 77 x2.toNatClampNeg)) → (vp_in n3 7381) ∧ ((0 ≤ ((I 76 n3.toNatClampNeg) + n1) → ∀ n4 : Int32, n4 = (((x1 * (I 75 5)) + ((I 77 x2.toNatClampNeg) * (I 75 4))) + (I 77 x3.toNatClampNeg)) → (vp_in n4 7381) ∧ ((n1 < (I 76 n4.toNatClampNeg) → sm_wp sm_P S (d + 1) 256 21 [.ref 75, .int n1, .int (x1 * (I 75 5)), .int (I 77 x2.toNatClampNeg), .int (I 77 x3.toNatClampNeg), .int n2, .int (0 : Int32)] [] (xLay, I, L, (kG49_74 R)) (0, 0) Φ) ∧ (¬ n1 < (I 76 n4.toNatClampNeg) → Φ (some (.int (1 : Int32)), (xLay, I, L, (kG49_74 R)))))) ∧ (¬ 0 ≤ ((I 76 n3.toNatClampNeg) + n1) → Φ (some (.int (0 : Int32)), (xLay, I, L, (kG49_74 R)))))))) ∧ (¬ x3 < (I 75 4) → Φ (some (.int (0 : Int32)), (xLay, I, L, (kG49_74 R)))))))))))))) : sm_wp sm_P S (d + 1) 256 4 [.ref 75, .int x1, .int x2, .int x3, .int x4] [.int s0] (xLay, I, L, (kG49_74 R)) (0, 0) Φ := sm_wp_step (⟨fun q13 => ⟨Or.inl rfl, ((h).1 q13)⟩, fun q13 => ⟨fun q12 => ⟨Or.inl rfl, ((((h).2 q13)).1 q12)⟩, fun q12 => ⟨fun q11 => ⟨Or.inl rfl, ((((((h).2 q13)).2 q12)).1 q11)⟩, fun q11 => ⟨fun q10 => ⟨Or.inl rfl, ((((((((h).2 q13)).2 q12)).2 q11)).1 q10)⟩, fun q10 => ⟨fun q9 => ⟨fun q8 => ⟨fun q7 => ⟨Or.inl rfl, ((((((((((((((h).2 q13)).2 q12)).2 q11)).2 q10)).1 q9)).1 q8)).1 q7)⟩, fun q7 => ⟨Or.inr rfl, ((((((((((((((h).2 q13)).2 q12)).2 q11)).2 q10)).1 q9)).1 q8)).2 q7)⟩⟩, fun q8 => ⟨(((((((((((((h).2 q13)).2 q12)).2 q11)).2 q10)).1 q9)).2 q8)).1, ⟨((((((((((((((h).2 q13)).2 q12)).2 q11)).2 q10)).1 q9)).2 q8)).2).1, ⟨((((((((((((((((h).2 q13)).2 q12)).2 q11)).2 q10)).1 q9)).2 q8)).2).2 _ rfl)).1, ⟨(((((((((((((((((h).2 q13)).2 q12)).2 q11)).2 q10)).1 q9)).2 q8)).2).2 _ rfl)).2).1, ⟨((((((((((((((((((((h).2 q13)).2 q12)).2 q11)).2 q10)).1 q9)).2 q8)).2).2 _ rfl)).2).2 _ rfl) _ rfl)).1, ⟨fun q6 => ⟨((((((((((((((((((((((((h).2 q13)).2 q12)).2 q11)).2 q10)).1 q9)).2 q8)).2).2 _ rfl)).2).2 _ rfl) _ rfl)).2).1 q6) _ rfl)).1, ⟨fun q5 => ((((((((((((((((((((((((((h).2 q13)).2 q12)).2 q11)).2 q10)).1 q9)).2 q8)).2).2 _ rfl)).2).2 _ rfl) _ rfl)).2).1 q6) _ rfl)).2).1 q5), fun q5 => ⟨Or.inr rfl, ((((((((((((((((((((((((((h).2 q13)).2 q12)).2 q11)).2 q10)).1 q9)).2 q8)).2).2 _ rfl)).2).2 _ rfl) _ rfl)).2).1 q6) _ rfl)).2).2 q5)⟩⟩⟩, fun q6 => ⟨Or.inl rfl, ((((((((((((((((((((((h).2 q13)).2 q12)).2 q11)).2 q10)).1 q9)).2 q8)).2).2 _ rfl)).2).2 _ rfl) _ rfl)).2).2 q6)⟩⟩⟩⟩⟩⟩⟩⟩, fun q9 => ⟨Or.inl rfl, ((((((((((h).2 q13)).2 q12)).2 q11)).2 q10)).2 q9)⟩⟩⟩⟩⟩⟩)
theorem pg49_74_X5_tighten_21 {S : sm_C} {d : Nat} {Φ : sm_Z → Prop} {I : sm_I} {L : sm_L} {R : sm_R} {x6 : Int32} {x7 : Int32} {x8 : Int32} {x9 : Int32} {x10 : Int32} {x11 : Int32} (h : (((I 75 4) ≤ x11 → Φ (some (.int (1 : Int32)), (xLay, I, L, (kG49_74 R)))) ∧ (¬ (I 75 4) ≤ x11 → ∀ n1 : Int32, n1 = ((x7 + (x11 * (I 75 4))) + x8) → (vp_in n1 7381) ∧ ∀ n2 : Int32, n2 = ((I 76 n1.toNatClampNeg) + x6) → ∀ n3 : Int32, n3 = ((x7 + (x11 * (I 75 4))) + x9) → (vp_in n3 7381) ∧ (((I 76 n3.toNatClampNeg) ≤ n2 → sm_wp sm_P S (d + 1) 256 21 [.ref 75, .int x6, .int x7, .int x8, .int x9, .int x10, .int (x11 + (1 : Int32))] [] (xLay, I, L, (kG49_74 R)) (0, 0) Φ) ∧ (¬ (I 76 n3.toNatClampNeg) ≤ n2 → sm_wp sm_P S d 257 0 [.ref 75, .int (x7 + (x11 * (I 75 4))), .int n2, .int x10] [] (xLay, I, L, (kG49_74 R)) (0, 0) (fun z => ∃ (I4 : sm_I) (L5 : sm_L), z = (none, (xLay, I4, L5, (kG49_74 R))) ∧ sm_wp sm_P S (d + 1) 256 21 [.ref 75, .int x6, .int x7, .int x8, .int x9, .int x10, .int (x11 + (1 : Int32))] [] (xLay, I4, L5, (kG49_74 R)) (0, 0) Φ)))))) : sm_wp sm_P S (d + 1) 256 21 [.ref 75, .int x6, .int x7, .int x8, .int x9, .int x10, .int x11] [] (xLay, I, L, (kG49_74 R)) (0, 0) Φ := sm_wp_step (⟨fun q9 => ⟨Or.inr rfl, ((h).1 q9)⟩, fun q9 => ⟨((((h).2 q9) _ rfl)).1, ⟨(((((((h).2 q9) _ rfl)).2 _ rfl) _ rfl)).1, ⟨fun q8 => (((((((((h).2 q9) _ rfl)).2 _ rfl) _ rfl)).2).1 q8), fun q8 => sm_cv0 ((((((((((h).2 q9) _ rfl)).2 _ rfl) _ rfl)).2).2 q8)) (fun I4 L5 q7 => q7)⟩⟩⟩⟩)
theorem pg49_74_X1_addTry_0 {S : sm_C} {d : Nat} {Φ : sm_Z → Prop} {I : sm_I} {L : sm_L} {R : sm_R} {x1 : Int32} {x2 : Int32} {x3 : Int32} {x4 : Int32} (h : ((x1 < 0 → Φ (none, (xLay, I, L, (kG49_74 R)))) ∧ (¬ x1 < 0 → (((1000 : Int32) ≤ x1 → Φ (none, (xLay, I, L, (kG49_74 R)))) ∧ (¬ (1000 : Int32) ≤ x1 → ((x4 = 0 → ∀ n1 : Int32, n1 = (((x2 <<< ((4 : Int32) &&& 31)) ||| (x3 <<< ((1 : Int32) &&& 31))) ||| (0 : Int32)) → (vp_in x1 1000) ∧ ∀ I2 : sm_I, I2 = (sm_up I 46 x1.toNatClampNeg n1) → Φ (none, (xLay, I2, L, (kG49_74 R)))) ∧ (¬ x4 = 0 → ∀ n3 : Int32, n3 = (((x2 <<< ((4 : Int32) &&& 31)) ||| (x3 <<< ((1 : Int32) &&& 31))) ||| (1 : Int32)) → (vp_in x1 1000) ∧ ∀ I4 : sm_I, I4 = (sm_up I 46 x1.toNatClampNeg n3) → Φ (none, (xLay, I4, L, (kG49_74 R)))))))))) : sm_wp sm_P S d 214 0 [.ref 45, .int x1, .int x2, .int x3, .int x4] [] (xLay, I, L, (kG49_74 R)) (0, 0) Φ := sm_wp_step (⟨fun q7 => ((h).1 q7), fun q7 => ⟨fun q6 => ((((h).2 q7)).1 q6), fun q6 => ⟨fun q5 => ⟨((((((((h).2 q7)).2 q6)).1 q5) _ rfl)).1, (((((((((h).2 q7)).2 q6)).1 q5) _ rfl)).2 _ rfl)⟩, fun q5 => ⟨((((((((h).2 q7)).2 q6)).2 q5) _ rfl)).1, (((((((((h).2 q7)).2 q6)).2 q5) _ rfl)).2 _ rfl)⟩⟩⟩⟩)
theorem pg49_74_X1_addWay_0 {S : sm_C} {d : Nat} {Φ : sm_Z → Prop} {I : sm_I} {L : sm_L} {R : sm_R} {x1 : Int32} {x4 : Int32} (h : ((x1 < 0 → Φ (none, (xLay, I, L, (kG49_74 R)))) ∧ (¬ x1 < 0 → ((x1 < (1000 : Int32) → (vp_in x1 1000) ∧ ∀ I1 : sm_I, I1 = (sm_up I 47 x1.toNatClampNeg (0 : Int32)) → (vp_in x1 1000) ∧ ∀ L2 : sm_L, L2 = (sm_up L 48 x1.toNatClampNeg (0 : Int64)) → sm_wp sm_P S d 215 4 [.ref 45, .int x1, .ref 80, .ref 81, .int x4, .int (0 : Int32)] [] (xLay, I1, L2, (kG49_74 R)) (0, 0) Φ) ∧ (¬ x1 < (1000 : Int32) → Φ (none, (xLay, I, L, (kG49_74 R)))))))) : sm_wp sm_P S d 215 0 [.ref 45, .int x1, .ref 80, .ref 81, .int x4] [] (xLay, I, L, (kG49_74 R)) (0, 0) Φ := sm_wp_step (⟨fun q4 => ((h).1 q4), fun q4 => ⟨fun q3 => ⟨(((((h).2 q4)).1 q3)).1, ⟨(((((((h).2 q4)).1 q3)).2 _ rfl)).1, ((((((((h).2 q4)).1 q3)).2 _ rfl)).2 _ rfl)⟩⟩, fun q3 => ((((h).2 q4)).2 q3)⟩⟩)
theorem pg49_74_X1_addWay_4 {S : sm_C} {d : Nat} {Φ : sm_Z → Prop} {I : sm_I} {L : sm_L} {R : sm_R} {x1 : Int32} {x4 : Int32} {x5 : Int32} (h : ((x4 ≤ x5 → Φ (none, (xLay, I, L, (kG49_74 R)))) ∧ (¬ x4 ≤ x5 → (vp_in x5 60) ∧ (((100 : Int32) ≤ (I 80 x5.toNatClampNeg) → (vp_in x1 1000) ∧ (vp_in x5 60) ∧ (vp_in x5 60) ∧ (vp_in x1 1000) ∧ ∀ L1 : sm_L, L1 = (sm_up L 48 x1.toNatClampNeg ((L 48 x1.toNatClampNeg) ||| (((I 81 x5.toNatClampNeg)).toInt64 <<< ((((I 80 x5.toNatClampNeg) - (100 : Int32))).toInt64 &&& 63)))) → sm_wp sm_P S d 215 4 [.ref 45, .int x1, .ref 80, .ref 81, .int x4, .int (x5 + (1 : Int32))] [] (xLay, I, L1, (kG49_74 R)) (0, 0) Φ) ∧ (¬ (100 : Int32) ≤ (I 80 x5.toNatClampNeg) → (vp_in x1 1000) ∧ (vp_in x5 60) ∧ (vp_in x5 60) ∧ ∀ n2 : Int32, n2 = ((I 47 x1.toNatClampNeg) ||| ((I 81 x5.toNatClampNeg) <<< (((2 : Int32) * (I 80 x5.toNatClampNeg)) &&& 31))) → (vp_in x1 1000) ∧ ∀ I3 : sm_I, I3 = (sm_up I 47 x1.toNatClampNeg n2) → sm_wp sm_P S d 215 4 [.ref 45, .int x1, .ref 80, .ref 81, .int x4, .int (x5 + (1 : Int32))] [] (xLay, I3, L, (kG49_74 R)) (0, 0) Φ))))) : sm_wp sm_P S d 215 4 [.ref 45, .int x1, .ref 80, .ref 81, .int x4, .int x5] [] (xLay, I, L, (kG49_74 R)) (0, 0) Φ := sm_wp_step (⟨fun q5 => ((h).1 q5), fun q5 => ⟨(((h).2 q5)).1, ⟨fun q4 => ⟨((((((h).2 q5)).2).1 q4)).1, ⟨(((((((h).2 q5)).2).1 q4)).2).1, ⟨((((((((h).2 q5)).2).1 q4)).2).2).1, ⟨(((((((((h).2 q5)).2).1 q4)).2).2).2).1, ((((((((((h).2 q5)).2).1 q4)).2).2).2).2 _ rfl)⟩⟩⟩⟩, fun q4 => ⟨((((((h).2 q5)).2).2 q4)).1, ⟨(((((((h).2 q5)).2).2 q4)).2).1, ⟨((((((((h).2 q5)).2).2 q4)).2).2).1, ⟨((((((((((h).2 q5)).2).2 q4)).2).2).2 _ rfl)).1, (((((((((((h).2 q5)).2).2 q4)).2).2).2 _ rfl)).2 _ rfl)⟩⟩⟩⟩⟩⟩⟩)
theorem pg49_74_X1_choiceOf_0 {S : sm_C} {d : Nat} {Φ : sm_Z → Prop} {I : sm_I} {L : sm_L} {R : sm_R} {x1 : Int32} {x2 : Int32} (h : ((x1 < 0 → Φ (some (.int (0 : Int32)), (xLay, I, L, (kG49_74 R)))) ∧ (¬ x1 < 0 → ((x1 < (1000 : Int32) → (((100 : Int32) ≤ x2 → (vp_in x1 1000) ∧ Φ (some (.int ((((L 48 x1.toNatClampNeg) >>> (((x2 - (100 : Int32))).toInt64 &&& 63)) &&& (1 : Int64))).toInt32), (xLay, I, L, (kG49_74 R)))) ∧ (¬ (100 : Int32) ≤ x2 → (vp_in x1 1000) ∧ Φ (some (.int (((I 47 x1.toNatClampNeg) >>> (((2 : Int32) * x2) &&& 31)) &&& (3 : Int32))), (xLay, I, L, (kG49_74 R)))))) ∧ (¬ x1 < (1000 : Int32) → Φ (some (.int (0 : Int32)), (xLay, I, L, (kG49_74 R)))))))) : sm_wp sm_P S d 216 0 [.ref 45, .int x1, .int x2] [] (xLay, I, L, (kG49_74 R)) (0, 0) Φ := sm_wp_step (⟨fun q3 => ((h).1 q3), fun q3 => ⟨fun q2 => ⟨fun q1 => ⟨(((((((h).2 q3)).1 q2)).1 q1)).1, (((((((h).2 q3)).1 q2)).1 q1)).2⟩, fun q1 => ⟨(((((((h).2 q3)).1 q2)).2 q1)).1, (((((((h).2 q3)).1 q2)).2 q1)).2⟩⟩, fun q2 => ((((h).2 q3)).2 q2)⟩⟩)
theorem pg49_74_X1_tryOf_0 {S : sm_C} {d : Nat} {Φ : sm_Z → Prop} {I : sm_I} {L : sm_L} {R : sm_R} {x1 : Int32} {x2 : Int32} (h : sm_wp sm_P S d 89 0 [.ref 46, .int x1, .int (0 : Int32)] [] (xLay, I, L, (kG49_74 R)) (0, 0) (fun z => ∃ (r3 : Int32) (I1 : sm_I) (L2 : sm_L), z = (some (.int r3), (xLay, I1, L2, (kG49_74 R))) ∧ (((x2).toInt = 0 → Φ (some (.int (r3 >>> ((4 : Int32) &&& 31))), (xLay, I1, L2, (kG49_74 R)))) ∧ (¬ (x2).toInt = 0 → (((x2).toInt = 1 → Φ (some (.int ((r3 >>> ((1 : Int32) &&& 31)) &&& (7 : Int32))), (xLay, I1, L2, (kG49_74 R)))) ∧ (¬ (x2).toInt = 1 → (((x2).toInt = 2 → Φ (some (.int (r3 &&& (1 : Int32))), (xLay, I1, L2, (kG49_74 R)))) ∧ (¬ (x2).toInt = 2 → Φ (some (.int (-1 : Int32)), (xLay, I1, L2, (kG49_74 R))))))))))) : sm_wp sm_P S (d + 1) 218 0 [.ref 45, .int x1, .int x2] [] (xLay, I, L, (kG49_74 R)) (0, 0) Φ := sm_wp_step (sm_ci0 (h) (fun r3 I1 L2 q7 => ⟨fun q6 => ((q7).1 q6), fun q6 => ⟨fun q5 => ((((q7).2 q6)).1 q5), fun q5 => ⟨fun q4 => ((((((q7).2 q6)).2 q5)).1 q4), fun q4 => ((((((q7).2 q6)).2 q5)).2 q4)⟩⟩⟩))
theorem pg49_74_X2_addItem_0 {S : sm_C} {d : Nat} {Φ : sm_Z → Prop} {I : sm_I} {L : sm_L} {R : sm_R} {x1 : Int32} (h : (((Int32.ofNat 60) ≤ (I 74 11) → Φ (none, (xLay, I, L, (kG49_74 R)))) ∧ (¬ (Int32.ofNat 60) ≤ (I 74 11) → (vp_in (I 74 11) 60) ∧ ∀ I1 : sm_I, I1 = (sm_up I 80 (I 74 11).toNatClampNeg x1) → ∀ I2 : sm_I, I2 = (sm_up I1 74 11 ((I1 74 11) + (1 : Int32))) → Φ (none, (xLay, I2, L, (kG49_74 R)))))) : sm_wp sm_P S d 219 0 [.ref 74, .int x1] [] (xLay, I, L, (kG49_74 R)) (0, 0) Φ := sm_wp_step (⟨fun q3 => ((h).1 q3), fun q3 => ⟨(((h).2 q3)).1, (((((h).2 q3)).2 _ rfl) _ rfl)⟩⟩)
theorem pg49_74_X2_bind_0 {S : sm_C} {d : Nat} {Φ : sm_Z → Prop} {I : sm_I} {L : sm_L} {R : sm_R} {x1 : Int32} {x2 : Int32} {x3 : Int32} {x4 : Int32} {x5 : Int32} (h : sm_wp sm_P S d 256 0 [.ref 75, .int x1, .int (x2 + (1 : Int32)), .int (x3 + (1 : Int32)), .int x5] [] (xLay, I, L, (kG49_74 R)) (0, 0) (fun z => ∃ (r3 : Int32) (I1 : sm_I) (L2 : sm_L), z = (some (.int r3), (xLay, I1, L2, (kG49_74 R))) ∧ ((r3 = 0 → Φ (some (.int (0 : Int32)), (xLay, I1, L2, (kG49_74 R)))) ∧ (¬ r3 = 0 → sm_wp sm_P S d 256 0 [.ref 75, .int x1, .int (x3 + (1 : Int32)), .int (x2 + (1 : Int32)), .int (-x4)] [] (xLay, I1, L2, (kG49_74 R)) (0, 0) (fun z => ∃ (r6 : Int32) (I4 : sm_I) (L5 : sm_L), z = (some (.int r6), (xLay, I4, L5, (kG49_74 R))) ∧ ((r6 = 0 → Φ (some (.int (0 : Int32)), (xLay, I4, L5, (kG49_74 R)))) ∧ (¬ r6 = 0 → Φ (some (.int (1 : Int32)), (xLay, I4, L5, (kG49_74 R)))))))))) : sm_wp sm_P S (d + 1) 221 0 [.ref 74, .int x1, .int x2, .int x3, .int x4, .int x5] [] (xLay, I, L, (kG49_74 R)) (0, 0) Φ := sm_wp_step (sm_ci0 (h) (fun r3 I1 L2 q10 => ⟨fun q9 => ⟨Or.inl rfl, ((q10).1 q9)⟩, fun q9 => sm_ci0 (((q10).2 q9)) (fun r6 I4 L5 q8 => ⟨fun q7 => ⟨Or.inl rfl, ((q8).1 q7)⟩, fun q7 => ⟨Or.inr rfl, ((q8).2 q7)⟩⟩)⟩))
theorem pg49_74_X2_walkOf_0 {S : sm_C} {d : Nat} {Φ : sm_Z → Prop} {I : sm_I} {L : sm_L} {R : sm_R} {x1 : Int32} (h : ((x1 < (200 : Int32) → sm_wp sm_P S d 89 0 [.ref 73, .int (x1 - (100 : Int32)), .int (-2 : Int32)] [] (xLay, I, L, (kG49_74 R)) (0, 0) (fun z => ∃ (r3 : Int32) (I1 : sm_I) (L2 : sm_L), z = (some (.int r3), (xLay, I1, L2, (kG49_74 R))) ∧ Φ (some (.int r3), (xLay, I1, L2, (kG49_74 R))))) ∧ (¬ x1 < (200 : Int32) → sm_wp sm_P S d 89 0 [.ref 52, .int (x1 - (200 : Int32)), .int (-1 : Int32)] [] (xLay, I, L, (kG49_74 R)) (0, 0) (fun z => ∃ (r7 : Int32) (I5 : sm_I) (L6 : sm_L), z = (some (.int r7), (xLay, I5, L6, (kG49_74 R))) ∧ sm_wp sm_P S d 27 0 [.ref 49, .int r7, .int (I5 74 9)] [] (xLay, I5, L6, (kG49_74 R)) (0, 0) (fun z => ∃ (r10 : Int32) (I8 : sm_I) (L9 : sm_L), z = (some (.int r10), (xLay, I8, L9, (kG49_74 R))) ∧ Φ (some (.int r10), (xLay, I8, L9, (kG49_74 R)))))))) : sm_wp sm_P S (d + 1) 237 0 [.ref 74, .int x1] [] (xLay, I, L, (kG49_74 R)) (0, 0) Φ := sm_wp_step (⟨fun q13 => sm_ci0 (((h).1 q13)) (fun r3 I1 L2 q4 => q4), fun q13 => sm_ci0 (((h).2 q13)) (fun r7 I5 L6 q12 => sm_ci0 (q12) (fun r10 I8 L9 q11 => q11))⟩)
theorem pg49_74_X2_choicesOf_0 {S : sm_C} {d : Nat} {Φ : sm_Z → Prop} {I : sm_I} {L : sm_L} {R : sm_R} {x1 : Int32} (h : (((100 : Int32) ≤ x1 → sm_wp sm_P S d 237 0 [.ref 74, .int x1] [] (xLay, I, L, (kG49_74 R)) (0, 0) (fun z => ∃ (r3 : Int32) (I1 : sm_I) (L2 : sm_L), z = (some (.int r3), (xLay, I1, L2, (kG49_74 R))) ∧ ((0 ≤ r3 → Φ (some (.int (2 : Int32)), (xLay, I1, L2, (kG49_74 R)))) ∧ (¬ 0 ≤ r3 → Φ (some (.int (0 : Int32)), (xLay, I1, L2, (kG49_74 R))))))) ∧ (¬ (100 : Int32) ≤ x1 → sm_wp sm_P S d 89 0 [.ref 59, .int x1, .int (0 : Int32)] [] (xLay, I, L, (kG49_74 R)) (0, 0) (fun z => ∃ (r8 : Int32) (I6 : sm_I) (L7 : sm_L), z = (some (.int r8), (xLay, I6, L7, (kG49_74 R))) ∧ Φ (some (.int r8), (xLay, I6, L7, (kG49_74 R))))))) : sm_wp sm_P S (d + 1) 223 0 [.ref 74, .int x1] [] (xLay, I, L, (kG49_74 R)) (0, 0) Φ := sm_wp_step (⟨fun q10 => sm_ci0 (((h).1 q10)) (fun r3 I1 L2 q5 => ⟨fun q4 => ((q5).1 q4), fun q4 => ((q5).2 q4)⟩), fun q10 => sm_ci0 (((h).2 q10)) (fun r8 I6 L7 q9 => q9)⟩)
theorem pg49_74_X2_pushMove_0 {S : sm_C} {d : Nat} {Φ : sm_Z → Prop} {I : sm_I} {L : sm_L} {R : sm_R} {x1 : Int32} {x2 : Int32} {x3 : Int32} (h : sm_wp sm_P S d 237 0 [.ref 74, .int x2] [] (xLay, I, L, (kG49_74 R)) (0, 0) (fun z => ∃ (r3 : Int32) (I1 : sm_I) (L2 : sm_L), z = (some (.int r3), (xLay, I1, L2, (kG49_74 R))) ∧ (((200 : Int32) ≤ x2 → ((x3 = 0 → ∀ n9 : Int32, n9 = ((x2 - (200 : Int32)) + (1 : Int32)) → sm_wp sm_P S d 256 0 [.ref 75, .int x1, .int n9, .int ((I1 49 2) + (1 : Int32)), .int (-r3)] [] (xLay, I1, L2, (kG49_74 R)) (0, 0) (fun z => ∃ (r12 : Int32) (I10 : sm_I) (L11 : sm_L), z = (some (.int r12), (xLay, I10, L11, (kG49_74 R))) ∧ (r12 = 0 ∨ r12 = 1) ∧ Φ (some (.int r12), (xLay, I10, L11, (kG49_74 R))))) ∧ (¬ x3 = 0 → ∀ n4 : Int32, n4 = ((x2 - (200 : Int32)) + (1 : Int32)) → sm_wp sm_P S d 256 0 [.ref 75, .int x1, .int ((I1 49 2) + (1 : Int32)), .int n4, .int (-r3)] [] (xLay, I1, L2, (kG49_74 R)) (0, 0) (fun z => ∃ (r7 : Int32) (I5 : sm_I) (L6 : sm_L), z = (some (.int r7), (xLay, I5, L6, (kG49_74 R))) ∧ (r7 = 0 ∨ r7 = 1) ∧ Φ (some (.int r7), (xLay, I5, L6, (kG49_74 R))))))) ∧ (¬ (200 : Int32) ≤ x2 → sm_wp sm_P S d 89 0 [.ref 71, .int (x2 - (100 : Int32)), .int (-1 : Int32)] [] (xLay, I1, L2, (kG49_74 R)) (0, 0) (fun z => ∃ (r17 : Int32) (I15 : sm_I) (L16 : sm_L), z = (some (.int r17), (xLay, I15, L16, (kG49_74 R))) ∧ sm_wp sm_P S d 89 0 [.ref 72, .int (x2 - (100 : Int32)), .int (-1 : Int32)] [] (xLay, I15, L16, (kG49_74 R)) (0, 0) (fun z => ∃ (r20 : Int32) (I18 : sm_I) (L19 : sm_L), z = (some (.int r20), (xLay, I18, L19, (kG49_74 R))) ∧ ((x3 = 0 → sm_wp sm_P S d 256 0 [.ref 75, .int x1, .int (r17 + (1 : Int32)), .int (r20 + (1 : Int32)), .int (-r3)] [] (xLay, I18, L19, (kG49_74 R)) (0, 0) (fun z => ∃ (r27 : Int32) (I25 : sm_I) (L26 : sm_L), z = (some (.int r27), (xLay, I25, L26, (kG49_74 R))) ∧ (r27 = 0 ∨ r27 = 1) ∧ Φ (some (.int r27), (xLay, I25, L26, (kG49_74 R))))) ∧ (¬ x3 = 0 → sm_wp sm_P S d 256 0 [.ref 75, .int x1, .int (r20 + (1 : Int32)), .int (r17 + (1 : Int32)), .int (-r3)] [] (xLay, I18, L19, (kG49_74 R)) (0, 0) (fun z => ∃ (r23 : Int32) (I21 : sm_I) (L22 : sm_L), z = (some (.int r23), (xLay, I21, L22, (kG49_74 R))) ∧ (r23 = 0 ∨ r23 = 1) ∧ Φ (some (.int r23), (xLay, I21, L22, (kG49_74 R)))))))))))) : sm_wp sm_P S (d + 1) 235 0 [.ref 74, .int x1, .int x2, .int x3] [] (xLay, I, L, (kG49_74 R)) (0, 0) Φ := sm_wp_step (sm_ci0 (h) (fun r3 I1 L2 q33 => ⟨fun q32 => ⟨fun q14 => sm_ci0 ((((((q33).1 q32)).1 q14) _ rfl)) (fun r12 I10 L11 q13 => ⟨(q13).1, (q13).2⟩), fun q14 => sm_ci0 ((((((q33).1 q32)).2 q14) _ rfl)) (fun r7 I5 L6 q8 => ⟨(q8).1, (q8).2⟩)⟩, fun q32 => sm_ci0 (((q33).2 q32)) (fun r17 I15 L16 q31 => sm_ci0 (q31) (fun r20 I18 L19 q30 => ⟨fun q29 => sm_ci0 (((q30).1 q29)) (fun r27 I25 L26 q28 => ⟨(q28).1, (q28).2⟩), fun q29 => sm_ci0 (((q30).2 q29)) (fun r23 I21 L22 q24 => ⟨(q24).1, (q24).2⟩)⟩))⟩))
theorem pg49_74_X2_push_0 {S : sm_C} {d : Nat} {Φ : sm_Z → Prop} {I : sm_I} {L : sm_L} {R : sm_R} {x1 : Int32} {x2 : Int32} {x3 : Int32} (h : sm_wp sm_P S d 248 0 [.ref 75, .int x1] [] (xLay, I, L, (kG49_74 R)) (0, 0) (fun z => ∃ (I1 : sm_I) (L2 : sm_L), z = (none, (xLay, I1, L2, (kG49_74 R))) ∧ ((x2 < (100 : Int32) → ∀ n4 : Int32, n4 = ((((I1 74 7) >>> (x2 &&& 31)) &&& (1 : Int32)) * (I1 74 8)) → sm_wp sm_P S d 19 0 [.ref 49, .int x2, .int x3] [] (xLay, I1, L2, (kG49_74 R)) (0, 0) (fun z => ∃ (r7 : Int32) (I5 : sm_I) (L6 : sm_L), z = (some (.int r7), (xLay, I5, L6, (kG49_74 R))) ∧ sm_wp sm_P S d 23 0 [.ref 49, .int x2, .int x3] [] (xLay, I5, L6, (kG49_74 R)) (0, 0) (fun z => ∃ (r10 : Int32) (I8 : sm_I) (L9 : sm_L), z = (some (.int r10), (xLay, I8, L9, (kG49_74 R))) ∧ ((r7 < 0 → Φ (some (.int (0 : Int32)), (xLay, I8, L9, (kG49_74 R)))) ∧ (¬ r7 < 0 → (((r7 + r10) ≤ (Int32.ofNat 120) → sm_wp sm_P S (d + 1) 234 6 [.ref 74, .int x1, .ref 61, .int n4, .int (r7 + r10), .int r7] [] (xLay, I8, L9, (kG49_74 R)) (0, 0) Φ) ∧ (¬ (r7 + r10) ≤ (Int32.ofNat 120) → Φ (some (.int (0 : Int32)), (xLay, I8, L9, (kG49_74 R)))))))))) ∧ (¬ x2 < (100 : Int32) → sm_wp sm_P S d 235 0 [.ref 74, .int (x1 + (1 : Int32)), .int x2, .int x3] [] (xLay, I1, L2, (kG49_74 R)) (0, 0) (fun z => ∃ (r17 : Int32) (I15 : sm_I) (L16 : sm_L), z = (some (.int r17), (xLay, I15, L16, (kG49_74 R))) ∧ (r17 = 0 ∨ r17 = 1) ∧ Φ (some (.int r17), (xLay, I15, L16, (kG49_74 R)))))))) : sm_wp sm_P S (d + 1) 234 0 [.ref 74, .int x1, .int x2, .int x3] [] (xLay, I, L, (kG49_74 R)) (0, 0) Φ := sm_wp_step (sm_cv0 (h) (fun I1 L2 q20 => ⟨fun q19 => sm_ci0 ((((q20).1 q19) _ rfl)) (fun r7 I5 L6 q14 => sm_ci0 (q14) (fun r10 I8 L9 q13 => ⟨fun q12 => ⟨Or.inl rfl, ((q13).1 q12)⟩, fun q12 => ⟨fun q11 => ((((q13).2 q12)).1 q11), fun q11 => ⟨Or.inl rfl, ((((q13).2 q12)).2 q11)⟩⟩⟩)), fun q19 => sm_ci0 (((q20).2 q19)) (fun r17 I15 L16 q18 => ⟨(q18).1, (q18).2⟩)⟩))
theorem pg49_74_X2_push_6 {S : sm_C} {d : Nat} {Φ : sm_Z → Prop} {I : sm_I} {L : sm_L} {R : sm_R} {x1 : Int32} {x5 : Int32} {x7 : Int32} {x8 : Int32} (h : ((x7 ≤ x8 → Φ (some (.int (1 : Int32)), (xLay, I, L, (kG49_74 R)))) ∧ (¬ x7 ≤ x8 → (vp_in x8 120) ∧ (vp_in x8 120) ∧ (vp_in x8 120) ∧ (vp_in x8 120) ∧ ∀ n1 : Int32, n1 = ((I 64 x8.toNatClampNeg) - x5) → ∀ n2 : Int32, n2 = ((I 65 x8.toNatClampNeg) + x5) → sm_wp sm_P S d 221 0 [.ref 74, .int (x1 + (1 : Int32)), .int (I 62 x8.toNatClampNeg), .int (I 63 x8.toNatClampNeg), .int n1, .int n2] [] (xLay, I, L, (kG49_74 R)) (0, 0) (fun z => ∃ (r5 : Int32) (I3 : sm_I) (L4 : sm_L), z = (some (.int r5), (xLay, I3, L4, (kG49_74 R))) ∧ ((r5 = 0 → Φ (some (.int (0 : Int32)), (xLay, I3, L4, (kG49_74 R)))) ∧ (¬ r5 = 0 → sm_wp sm_P S (d + 1) 234 6 [.ref 74, .int x1, .ref 61, .int x5, .int x7, .int (x8 + (1 : Int32))] [] (xLay, I3, L4, (kG49_74 R)) (0, 0) Φ)))))) : sm_wp sm_P S (d + 1) 234 6 [.ref 74, .int x1, .ref 61, .int x5, .int x7, .int x8] [] (xLay, I, L, (kG49_74 R)) (0, 0) Φ := sm_wp_step (⟨fun q8 => ⟨Or.inr rfl, ((h).1 q8)⟩, fun q8 => ⟨(((h).2 q8)).1, ⟨((((h).2 q8)).2).1, ⟨(((((h).2 q8)).2).2).1, ⟨((((((h).2 q8)).2).2).2).1, sm_ci0 (((((((((h).2 q8)).2).2).2).2 _ rfl) _ rfl)) (fun r5 I3 L4 q7 => ⟨fun q6 => ⟨Or.inl rfl, ((q7).1 q6)⟩, fun q6 => ((q7).2 q6)⟩)⟩⟩⟩⟩⟩)
theorem pg49_74_X2_noteWay_0 {S : sm_C} {d : Nat} {Φ : sm_Z → Prop} {I : sm_I} {L : sm_L} {R : sm_R} (h : sm_wp sm_P S d 215 0 [.ref 45, .int (I 74 14), .ref 80, .ref 81, .int (I 74 11)] [] (xLay, I, L, (kG49_74 R)) (0, 0) (fun z => ∃ (I1 : sm_I) (L2 : sm_L), z = (none, (xLay, I1, L2, (kG49_74 R))) ∧ (((I1 74 10) = 0 → ∀ I4 : sm_I, I4 = (sm_up I1 74 14 ((I1 74 14) + (1 : Int32))) → Φ (none, (xLay, I4, L2, (kG49_74 R)))) ∧ (¬ (I1 74 10) = 0 → sm_wp sm_P S d 255 0 [.ref 75, .int (I1 74 11), .int (0 : Int32), .int ((I1 49 2) + (1 : Int32))] [] (xLay, I1, L2, (kG49_74 R)) (0, 0) (fun z => ∃ (r7 : Int32) (I5 : sm_I) (L6 : sm_L), z = (some (.int r7), (xLay, I5, L6, (kG49_74 R))) ∧ ∀ n8 : Int32, n8 = (if (-r7) < (I1 74 16) then (-r7) else (I1 74 16)) → ∀ n9 : Int32, n9 = (((sm_up I5 74 16 n8) 49 2) + (1 : Int32)) → sm_wp sm_P S d 255 0 [.ref 75, .int ((sm_up I5 74 16 n8) 74 11), .int n9, .int (0 : Int32)] [] (xLay, (sm_up I5 74 16 n8), L6, (kG49_74 R)) (0, 0) (fun z => ∃ (r12 : Int32) (I10 : sm_I) (L11 : sm_L), z = (some (.int r12), (xLay, I10, L11, (kG49_74 R))) ∧ ∀ n13 : Int32, n13 = (if ((sm_up I5 74 16 n8) 74 17) < r12 then r12 else ((sm_up I5 74 16 n8) 74 17)) → ∀ n14 : Int32, n14 = (((sm_up I10 74 17 n13) 74 14) + (1 : Int32)) → ∀ I15 : sm_I, I15 = (sm_up (sm_up I10 74 17 n13) 74 14 n14) → Φ (none, (xLay, I15, L11, (kG49_74 R))))))))) : sm_wp sm_P S (d + 1) 233 0 [.ref 74, .ref 45] [] (xLay, I, L, (kG49_74 R)) (0, 0) Φ := sm_wp_step (sm_cv0 (h) (fun I1 L2 q19 => ⟨fun q18 => (((q19).1 q18) _ rfl), fun q18 => sm_ci0 (((q19).2 q18)) (fun r7 I5 L6 q17 => sm_ci0 (((q17 _ rfl) _ rfl)) (fun r12 I10 L11 q16 => (((q16 _ rfl) _ rfl) _ rfl)))⟩))
theorem pg49_74_X2_goThrough_0 {S : sm_C} {d : Nat} {Φ : sm_Z → Prop} {I : sm_I} {L : sm_L} {R : sm_R} {x2 : Int32} (h : ∀ I1 : sm_I, I1 = (sm_up (sm_up I 74 13 (0 : Int32)) 74 14 (0 : Int32)) → ∀ I2 : sm_I, I2 = (sm_up (sm_up I1 74 15 (0 : Int32)) 74 6 (0 : Int32)) → (((I2 74 12) = 0 → Φ (none, (xLay, I2, L, (kG49_74 R)))) ∧ (¬ (I2 74 12) = 0 → (((I2 74 11) = 0 → sm_wp sm_P S d 233 0 [.ref 74, .ref 45] [] (xLay, I2, L, (kG49_74 R)) (0, 0) (fun z => ∃ (I4 : sm_I) (L5 : sm_L), z = (none, (xLay, I4, L5, (kG49_74 R))) ∧ Φ (none, (xLay, I4, L5, (kG49_74 R))))) ∧ (¬ (I2 74 11) = 0 → (vp_in (0 : Int32) 60) ∧ ∀ I3 : sm_I, I3 = (sm_up I2 81 (0 : Int32).toNatClampNeg (-1 : Int32)) → sm_wp sm_P S (d + 1) 225 5 [.ref 74, .ref 45, .int x2, .int (0 : Int32), .int (0 : Int32)] [] (xLay, I3, L, (kG49_74 R)) (0, 0) Φ))))) : sm_wp sm_P S (d + 1) 225 0 [.ref 74, .ref 45, .int x2] [] (xLay, I, L, (kG49_74 R)) (0, 0) Φ := sm_wp_step (⟨Or.inl rfl, ⟨fun q9 => ((((h _ rfl) _ rfl)).1 q9), fun q9 => ⟨fun q8 => sm_cv0 (((((((h _ rfl) _ rfl)).2 q9)).1 q8)) (fun I4 L5 q7 => q7), fun q8 => ⟨(((((((h _ rfl) _ rfl)).2 q9)).2 q8)).1, ((((((((h _ rfl) _ rfl)).2 q9)).2 q8)).2 _ rfl)⟩⟩⟩⟩)
theorem pg49_74_X2_goThrough_5 {S : sm_C} {d : Nat} {Φ : sm_Z → Prop} {I : sm_I} {L : sm_L} {R : sm_R} {x2 : Int32} {x3 : Int32} {x4 : Int32} (h : (((2010 : Int32) ≤ x4 → Φ (none, (xLay, I, L, (kG49_74 R)))) ∧ (¬ (2010 : Int32) ≤ x4 → ((x3 < 0 → Φ (none, (xLay, I, L, (kG49_74 R)))) ∧ (¬ x3 < 0 → (vp_in x3 60) ∧ ∀ n1 : Int32, n1 = ((I 81 x3.toNatClampNeg) + (1 : Int32)) → (vp_in x3 60) ∧ ∀ I2 : sm_I, I2 = (sm_up I 81 x3.toNatClampNeg n1) → (vp_in x3 60) ∧ (vp_in x3 60) ∧ sm_wp sm_P S d 223 0 [.ref 74, .int (I2 80 x3.toNatClampNeg)] [] (xLay, I2, L, (kG49_74 R)) (0, 0) (fun z => ∃ (r5 : Int32) (I3 : sm_I) (L4 : sm_L), z = (some (.int r5), (xLay, I3, L4, (kG49_74 R))) ∧ (((I2 81 x3.toNatClampNeg) < r5 → ∀ I6 : sm_I, I6 = (sm_up I3 74 13 ((I3 74 13) + (1 : Int32))) → (((I6 74 13) ≤ (1000 : Int32) → (vp_in x3 60) ∧ (vp_in x3 60) ∧ sm_wp sm_P S d 234 0 [.ref 74, .int x3, .int (I6 80 x3.toNatClampNeg), .int (I6 81 x3.toNatClampNeg)] [] (xLay, I6, L4, (kG49_74 R)) (0, 0) (fun z => ∃ (r9 : Int32) (I7 : sm_I) (L8 : sm_L), z = (some (.int r9), (xLay, I7, L8, (kG49_74 R))) ∧ (vp_in x3 60) ∧ (vp_in x3 60) ∧ sm_wp sm_P S d 214 0 [.ref 45, .int ((I7 74 13) - (1 : Int32)), .int (I7 80 x3.toNatClampNeg), .int (I7 81 x3.toNatClampNeg), .int r9] [] (xLay, I7, L8, (kG49_74 R)) (0, 0) (fun z => ∃ (I10 : sm_I) (L11 : sm_L), z = (none, (xLay, I10, L11, (kG49_74 R))) ∧ ((r9 = 0 → sm_wp sm_P S (d + 1) 225 16 [.ref 74, .ref 45, .int x2, .int x3, .int x4, .int r9] [] (xLay, I10, L11, (kG49_74 R)) (0, 0) Φ) ∧ (¬ r9 = 0 → ((((I10 74 11) - (1 : Int32)) ≤ x3 → sm_wp sm_P S (d + 1) 225 16 [.ref 74, .ref 45, .int x2, .int x3, .int x4, .int r9] [] (xLay, I10, L11, (kG49_74 R)) (0, 0) Φ) ∧ (¬ ((I10 74 11) - (1 : Int32)) ≤ x3 → (vp_in (x3 + (1 : Int32)) 60) ∧ ∀ I13 : sm_I, I13 = (sm_up I10 81 (x3 + (1 : Int32)).toNatClampNeg (-1 : Int32)) → sm_wp sm_P S (d + 1) 225 19 [.ref 74, .ref 45, .int x2, .int (x3 + (1 : Int32)), .int x4] [] (xLay, I13, L11, (kG49_74 R)) (0, 0) Φ))))))) ∧ (¬ (I6 74 13) ≤ (1000 : Int32) → Φ (none, (xLay, (sm_up I6 74 15 (1 : Int32)), L4, (kG49_74 R)))))) ∧ (¬ (I2 81 x3.toNatClampNeg) < r5 → sm_wp sm_P S (d + 1) 225 19 [.ref 74, .ref 45, .int x2, .int (x3 + (-1 : Int32)), .int x4] [] (xLay, I3, L4, (kG49_74 R)) (0, 0) Φ)))))))) : sm_wp sm_P S (d + 1) 225 5 [.ref 74, .ref 45, .int x2, .int x3, .int x4] [] (xLay, I, L, (kG49_74 R)) (0, 0) Φ := sm_wp_step (⟨fun q22 => ((h).1 q22), fun q22 => ⟨fun q21 => ((((h).2 q22)).1 q21), fun q21 => ⟨(((((h).2 q22)).2 q21)).1, ⟨(((((((h).2 q22)).2 q21)).2 _ rfl)).1, ⟨(((((((((h).2 q22)).2 q21)).2 _ rfl)).2 _ rfl)).1, ⟨((((((((((h).2 q22)).2 q21)).2 _ rfl)).2 _ rfl)).2).1, sm_ci0 (((((((((((h).2 q22)).2 q21)).2 _ rfl)).2 _ rfl)).2).2) (fun r5 I3 L4 q20 => ⟨fun q19 => ⟨fun q18 => ⟨((((((q20).1 q19) _ rfl)).1 q18)).1, ⟨(((((((q20).1 q19) _ rfl)).1 q18)).2).1, sm_ci0 ((((((((q20).1 q19) _ rfl)).1 q18)).2).2) (fun r9 I7 L8 q17 => ⟨(q17).1, ⟨((q17).2).1, sm_cv0 (((q17).2).2) (fun I10 L11 q16 => ⟨fun q15 => ((q16).1 q15), fun q15 => ⟨fun q14 => ((((q16).2 q15)).1 q14), fun q14 => ⟨(((((q16).2 q15)).2 q14)).1, ((((((q16).2 q15)).2 q14)).2 _ rfl)⟩⟩⟩)⟩⟩)⟩⟩, fun q18 => ⟨Or.inr rfl, (((((q20).1 q19) _ rfl)).2 q18)⟩⟩, fun q19 => ((q20).2 q19)⟩)⟩⟩⟩⟩⟩⟩)
theorem pg49_74_X2_goThrough_16 {S : sm_C} {d : Nat} {Φ : sm_Z → Prop} {I : sm_I} {L : sm_L} {R : sm_R} {x2 : Int32} {x3 : Int32} {x4 : Int32} {x5 : Int32} (h : ((x5 = 0 → sm_wp sm_P S (d + 1) 225 19 [.ref 74, .ref 45, .int x2, .int x3, .int x4] [] (xLay, I, L, (kG49_74 R)) (0, 0) Φ) ∧ (¬ x5 = 0 → sm_wp sm_P S d 233 0 [.ref 74, .ref 45] [] (xLay, I, L, (kG49_74 R)) (0, 0) (fun z => ∃ (I1 : sm_I) (L2 : sm_L), z = (none, (xLay, I1, L2, (kG49_74 R))) ∧ ((x2 = 0 → sm_wp sm_P S (d + 1) 225 19 [.ref 74, .ref 45, .int x2, .int x3, .int x4] [] (xLay, I1, L2, (kG49_74 R)) (0, 0) Φ) ∧ (¬ x2 = 0 → Φ (none, (xLay, I1, L2, (kG49_74 R))))))))) : sm_wp sm_P S (d + 1) 225 16 [.ref 74, .ref 45, .int x2, .int x3, .int x4, .int x5] [] (xLay, I, L, (kG49_74 R)) (0, 0) Φ := sm_wp_step (⟨fun q6 => ((h).1 q6), fun q6 => sm_cv0 (((h).2 q6)) (fun I1 L2 q5 => ⟨fun q4 => ((q5).1 q4), fun q4 => ((q5).2 q4)⟩)⟩)
theorem pg49_74_X2_goThrough_19 {S : sm_C} {d : Nat} {Φ : sm_Z → Prop} {I : sm_I} {L : sm_L} {R : sm_R} {x2 : Int32} {x3 : Int32} {x4 : Int32} (h : sm_wp sm_P S (d + 1) 225 5 [.ref 74, .ref 45, .int x2, .int x3, .int (x4 + (1 : Int32))] [] (xLay, I, L, (kG49_74 R)) (0, 0) Φ) : sm_wp sm_P S (d + 1) 225 19 [.ref 74, .ref 45, .int x2, .int x3, .int x4] [] (xLay, I, L, (kG49_74 R)) (0, 0) Φ := sm_wp_step (h)
theorem pg49_74_X2_bring_0 {S : sm_C} {d : Nat} {Φ : sm_Z → Prop} {I : sm_I} {L : sm_L} {R : sm_R} {x2 : Int32} (h : sm_wp sm_P S (d + 1) 222 1 [.ref 74, .ref 45, .int x2, .int (0 : Int32)] [] (xLay, I, L, (kG49_74 R)) (0, 0) Φ) : sm_wp sm_P S (d + 1) 222 0 [.ref 74, .ref 45, .int x2] [] (xLay, I, L, (kG49_74 R)) (0, 0) Φ := sm_wp_step (h)
theorem pg49_74_X2_bring_1 {S : sm_C} {d : Nat} {Φ : sm_Z → Prop} {I : sm_I} {L : sm_L} {R : sm_R} {x2 : Int32} {x3 : Int32} (h : (((I 74 11) ≤ x3 → Φ (some (.int (1 : Int32)), (xLay, I, L, (kG49_74 R)))) ∧ (¬ (I 74 11) ≤ x3 → (vp_in x3 60) ∧ sm_wp sm_P S d 216 0 [.ref 45, .int x2, .int (I 80 x3.toNatClampNeg)] [] (xLay, I, L, (kG49_74 R)) (0, 0) (fun z => ∃ (r3 : Int32) (I1 : sm_I) (L2 : sm_L), z = (some (.int r3), (xLay, I1, L2, (kG49_74 R))) ∧ (((I1 74 6) ≤ x3 → (vp_in x3 60) ∧ ∀ I4 : sm_I, I4 = (sm_up (sm_up I1 74 6 x3) 81 x3.toNatClampNeg r3) → (vp_in x3 60) ∧ sm_wp sm_P S d 234 0 [.ref 74, .int x3, .int (I4 80 x3.toNatClampNeg), .int r3] [] (xLay, I4, L2, (kG49_74 R)) (0, 0) (fun z => ∃ (r7 : Int32) (I5 : sm_I) (L6 : sm_L), z = (some (.int r7), (xLay, I5, L6, (kG49_74 R))) ∧ ((r7 = 0 → Φ (some (.int (0 : Int32)), (xLay, I5, L6, (kG49_74 R)))) ∧ (¬ r7 = 0 → ∀ I8 : sm_I, I8 = (sm_up I5 74 6 (x3 + (1 : Int32))) → sm_wp sm_P S (d + 1) 222 1 [.ref 74, .ref 45, .int x2, .int (x3 + (1 : Int32))] [] (xLay, I8, L6, (kG49_74 R)) (0, 0) Φ)))) ∧ (¬ (I1 74 6) ≤ x3 → (vp_in x3 60) ∧ (((I1 81 x3.toNatClampNeg) = r3 → sm_wp sm_P S (d + 1) 222 1 [.ref 74, .ref 45, .int x2, .int (x3 + (1 : Int32))] [] (xLay, I1, L2, (kG49_74 R)) (0, 0) Φ) ∧ (¬ (I1 81 x3.toNatClampNeg) = r3 → (vp_in x3 60) ∧ ∀ I11 : sm_I, I11 = (sm_up (sm_up I1 74 6 x3) 81 x3.toNatClampNeg r3) → (vp_in x3 60) ∧ sm_wp sm_P S d 234 0 [.ref 74, .int x3, .int (I11 80 x3.toNatClampNeg), .int r3] [] (xLay, I11, L2, (kG49_74 R)) (0, 0) (fun z => ∃ (r14 : Int32) (I12 : sm_I) (L13 : sm_L), z = (some (.int r14), (xLay, I12, L13, (kG49_74 R))) ∧ ((r14 = 0 → Φ (some (.int (0 : Int32)), (xLay, I12, L13, (kG49_74 R)))) ∧ (¬ r14 = 0 → ∀ I15 : sm_I, I15 = (sm_up I12 74 6 (x3 + (1 : Int32))) → sm_wp sm_P S (d + 1) 222 1 [.ref 74, .ref 45, .int x2, .int (x3 + (1 : Int32))] [] (xLay, I15, L13, (kG49_74 R)) (0, 0) Φ))))))))))) : sm_wp sm_P S (d + 1) 222 1 [.ref 74, .ref 45, .int x2, .int x3] [] (xLay, I, L, (kG49_74 R)) (0, 0) Φ := sm_wp_step (⟨fun q21 => ⟨Or.inr rfl, ((h).1 q21)⟩, fun q21 => ⟨(((h).2 q21)).1, sm_ci0 ((((h).2 q21)).2) (fun r3 I1 L2 q20 => ⟨fun q19 => ⟨(((q20).1 q19)).1, ⟨(((((q20).1 q19)).2 _ rfl)).1, sm_ci0 ((((((q20).1 q19)).2 _ rfl)).2) (fun r7 I5 L6 q10 => ⟨fun q9 => ⟨Or.inl rfl, ((q10).1 q9)⟩, fun q9 => (((q10).2 q9) _ rfl)⟩)⟩⟩, fun q19 => ⟨(((q20).2 q19)).1, ⟨fun q18 => (((((q20).2 q19)).2).1 q18), fun q18 => ⟨((((((q20).2 q19)).2).2 q18)).1, ⟨((((((((q20).2 q19)).2).2 q18)).2 _ rfl)).1, sm_ci0 (((((((((q20).2 q19)).2).2 q18)).2 _ rfl)).2) (fun r14 I12 L13 q17 => ⟨fun q16 => ⟨Or.inl rfl, ((q17).1 q16)⟩, fun q16 => (((q17).2 q16) _ rfl)⟩)⟩⟩⟩⟩⟩)⟩⟩)
theorem pg49_74_X2_distance_0 {S : sm_C} {d : Nat} {Φ : sm_Z → Prop} {I : sm_I} {L : sm_L} {R : sm_R} {x1 : Int32} {x2 : Int32} {x3 : Int32} {x4 : Int32} (h : ((x4 = 0 → sm_wp sm_P S d 255 0 [.ref 75, .int x1, .int (x3 + (1 : Int32)), .int (x2 + (1 : Int32))] [] (xLay, I, L, (kG49_74 R)) (0, 0) (fun z => ∃ (r3 : Int32) (I1 : sm_I) (L2 : sm_L), z = (some (.int r3), (xLay, I1, L2, (kG49_74 R))) ∧ Φ (some (.int (-r3)), (xLay, I1, L2, (kG49_74 R))))) ∧ (¬ x4 = 0 → sm_wp sm_P S d 255 0 [.ref 75, .int x1, .int (x2 + (1 : Int32)), .int (x3 + (1 : Int32))] [] (xLay, I, L, (kG49_74 R)) (0, 0) (fun z => ∃ (r7 : Int32) (I5 : sm_I) (L6 : sm_L), z = (some (.int r7), (xLay, I5, L6, (kG49_74 R))) ∧ Φ (some (.int r7), (xLay, I5, L6, (kG49_74 R))))))) : sm_wp sm_P S (d + 1) 224 0 [.ref 74, .int x1, .int x2, .int x3, .int x4] [] (xLay, I, L, (kG49_74 R)) (0, 0) Φ := sm_wp_step (⟨fun q9 => sm_ci0 (((h).1 q9)) (fun r3 I1 L2 q4 => q4), fun q9 => sm_ci0 (((h).2 q9)) (fun r7 I5 L6 q8 => q8)⟩)
theorem pg49_74_X2_minute_0 {S : sm_C} {d : Nat} {Φ : sm_Z → Prop} {I : sm_I} {L : sm_L} {R : sm_R} {x1 : Int32} {x2 : Int32} {x3 : Int32} (h : sm_wp sm_P S d 224 0 [.ref 74, .int x1, .int x2, .int (-1 : Int32), .int x3] [] (xLay, I, L, (kG49_74 R)) (0, 0) (fun z => ∃ (r3 : Int32) (I1 : sm_I) (L2 : sm_L), z = (some (.int r3), (xLay, I1, L2, (kG49_74 R))) ∧ Φ (some (.int r3), (xLay, I1, L2, (kG49_74 R))))) : sm_wp sm_P S (d + 1) 231 0 [.ref 74, .int x1, .int x2, .int x3] [] (xLay, I, L, (kG49_74 R)) (0, 0) Φ := sm_wp_step (sm_ci0 (h) (fun r3 I1 L2 q4 => q4))
theorem pg49_74_X2_layBase_0 {S : sm_C} {d : Nat} {Φ : sm_Z → Prop} {I : sm_I} {L : sm_L} {R : sm_R} {x1 : Int32} (h : ∀ n1 : Int32, n1 = ((((sm_up I 74 6 (0 : Int32)) 49 2) + (1 : Int32)) + x1) → sm_wp sm_P S d 247 0 [.ref 75, .int n1] [] (xLay, (sm_up I 74 6 (0 : Int32)), L, (kG49_74 R)) (0, 0) (fun z => ∃ (I2 : sm_I) (L3 : sm_L), z = (none, (xLay, I2, L3, (kG49_74 R))) ∧ sm_wp sm_P S (d + 1) 230 1 [.ref 74, .ref 53, .int (0 : Int32)] [] (xLay, (sm_up I2 74 12 (1 : Int32)), L3, (kG49_74 R)) (0, 0) Φ)) : sm_wp sm_P S (d + 1) 230 0 [.ref 74, .int x1] [] (xLay, I, L, (kG49_74 R)) (0, 0) Φ := sm_wp_step (sm_cv0 ((h _ rfl)) (fun I2 L3 q5 => ⟨Or.inr rfl, q5⟩))
theorem pg49_74_X2_layBase_1 {S : sm_C} {d : Nat} {Φ : sm_Z → Prop} {I : sm_I} {L : sm_L} {R : sm_R} {x3 : Int32} (h : (((I 49 2) ≤ x3 → sm_wp sm_P S (d + 1) 230 17 [.ref 74, .ref 40, .int (0 : Int32)] [] (xLay, I, L, (kG49_74 R)) (0, 0) Φ) ∧ (¬ (I 49 2) ≤ x3 → (vp_in x3 10) ∧ (((I 55 x3.toNatClampNeg) = (-1 : Int32) → sm_wp sm_P S (d + 1) 230 1 [.ref 74, .ref 53, .int (x3 + (1 : Int32))] [] (xLay, I, L, (kG49_74 R)) (0, 0) Φ) ∧ (¬ (I 55 x3.toNatClampNeg) = (-1 : Int32) → (((I 74 1) = 0 → (((I 74 12) = 0 → sm_wp sm_P S (d + 1) 230 1 [.ref 74, .ref 53, .int (x3 + (1 : Int32))] [] (xLay, (sm_up I 74 12 (0 : Int32)), L, (kG49_74 R)) (0, 0) Φ) ∧ (¬ (I 74 12) = 0 → (vp_in x3 10) ∧ (vp_in x3 10) ∧ (vp_in x3 10) ∧ sm_wp sm_P S d 221 0 [.ref 74, .int (0 : Int32), .int x3, .int (I 55 x3.toNatClampNeg), .int (I 56 x3.toNatClampNeg), .int (I 57 x3.toNatClampNeg)] [] (xLay, I, L, (kG49_74 R)) (0, 0) (fun z => ∃ (r3 : Int32) (I1 : sm_I) (L2 : sm_L), z = (some (.int r3), (xLay, I1, L2, (kG49_74 R))) ∧ ((r3 = 0 → sm_wp sm_P S (d + 1) 230 1 [.ref 74, .ref 53, .int (x3 + (1 : Int32))] [] (xLay, (sm_up I1 74 12 (0 : Int32)), L2, (kG49_74 R)) (0, 0) Φ) ∧ (¬ r3 = 0 → sm_wp sm_P S (d + 1) 230 1 [.ref 74, .ref 53, .int (x3 + (1 : Int32))] [] (xLay, (sm_up I1 74 12 (1 : Int32)), L2, (kG49_74 R)) (0, 0) Φ)))))) ∧ (¬ (I 74 1) = 0 → (vp_in x3 10) ∧ (vp_in x3 10) ∧ (vp_in x3 10) ∧ ∀ n7 : Int32, n7 = ((I 55 x3.toNatClampNeg) + (1 : Int32)) → sm_wp sm_P S d 254 0 [.ref 75, .int (x3 + (1 : Int32)), .int n7, .int (I 56 x3.toNatClampNeg), .int (I 57 x3.toNatClampNeg)] [] (xLay, I, L, (kG49_74 R)) (0, 0) (fun z => ∃ (I8 : sm_I) (L9 : sm_L), z = (none, (xLay, I8, L9, (kG49_74 R))) ∧ (((I8 74 12) = 0 → sm_wp sm_P S (d + 1) 230 1 [.ref 74, .ref 53, .int (x3 + (1 : Int32))] [] (xLay, (sm_up I8 74 12 (0 : Int32)), L9, (kG49_74 R)) (0, 0) Φ) ∧ (¬ (I8 74 12) = 0 → sm_wp sm_P S d 221 0 [.ref 74, .int (0 : Int32), .int x3, .int (-1 : Int32), .int (0 : Int32), .int (1440 : Int32)] [] (xLay, I8, L9, (kG49_74 R)) (0, 0) (fun z => ∃ (r13 : Int32) (I11 : sm_I) (L12 : sm_L), z = (some (.int r13), (xLay, I11, L12, (kG49_74 R))) ∧ ((r13 = 0 → ∀ I14 : sm_I, I14 = (sm_up I11 74 12 (0 : Int32)) → sm_wp sm_P S (d + 1) 230 1 [.ref 74, .ref 53, .int (x3 + (1 : Int32))] [] (xLay, I14, L12, (kG49_74 R)) (0, 0) Φ) ∧ (¬ r13 = 0 → ∀ I15 : sm_I, I15 = (sm_up I11 74 12 (1 : Int32)) → sm_wp sm_P S (d + 1) 230 1 [.ref 74, .ref 53, .int (x3 + (1 : Int32))] [] (xLay, I15, L12, (kG49_74 R)) (0, 0) Φ))))))))))))) : sm_wp sm_P S (d + 1) 230 1 [.ref 74, .ref 53, .int x3] [] (xLay, I, L, (kG49_74 R)) (0, 0) Φ := sm_wp_step (⟨fun q22 => ((h).1 q22), fun q22 => ⟨(((h).2 q22)).1, ⟨fun q21 => (((((h).2 q22)).2).1 q21), fun q21 => ⟨fun q20 => ⟨fun q6 => ⟨Or.inl rfl, (((((((((h).2 q22)).2).2 q21)).1 q20)).1 q6)⟩, fun q6 => ⟨((((((((((h).2 q22)).2).2 q21)).1 q20)).2 q6)).1, ⟨(((((((((((h).2 q22)).2).2 q21)).1 q20)).2 q6)).2).1, ⟨((((((((((((h).2 q22)).2).2 q21)).1 q20)).2 q6)).2).2).1, sm_ci0 (((((((((((((h).2 q22)).2).2 q21)).1 q20)).2 q6)).2).2).2) (fun r3 I1 L2 q5 => ⟨fun q4 => ⟨Or.inl rfl, ((q5).1 q4)⟩, fun q4 => ⟨Or.inr rfl, ((q5).2 q4)⟩⟩)⟩⟩⟩⟩, fun q20 => ⟨((((((((h).2 q22)).2).2 q21)).2 q20)).1, ⟨(((((((((h).2 q22)).2).2 q21)).2 q20)).2).1, ⟨((((((((((h).2 q22)).2).2 q21)).2 q20)).2).2).1, sm_cv0 ((((((((((((h).2 q22)).2).2 q21)).2 q20)).2).2).2 _ rfl)) (fun I8 L9 q19 => ⟨fun q18 => ⟨Or.inl rfl, ((q19).1 q18)⟩, fun q18 => sm_ci0 (((q19).2 q18)) (fun r13 I11 L12 q17 => ⟨fun q16 => ⟨Or.inl rfl, (((q17).1 q16) _ rfl)⟩, fun q16 => ⟨Or.inr rfl, (((q17).2 q16) _ rfl)⟩⟩)⟩)⟩⟩⟩⟩⟩⟩⟩)
theorem pg49_74_X2_layBase_17 {S : sm_C} {d : Nat} {Φ : sm_Z → Prop} {I : sm_I} {L : sm_L} {R : sm_R} {x4 : Int32} (h : (((I 37 1) ≤ x4 → Φ (none, (xLay, I, L, (kG49_74 R)))) ∧ (¬ (I 37 1) ≤ x4 → (((I 74 12) = 0 → sm_wp sm_P S (d + 1) 230 17 [.ref 74, .ref 40, .int (x4 + (1 : Int32))] [] (xLay, (sm_up I 74 12 (0 : Int32)), L, (kG49_74 R)) (0, 0) Φ) ∧ (¬ (I 74 12) = 0 → (vp_in x4 6) ∧ (vp_in x4 6) ∧ (vp_in x4 6) ∧ (vp_in x4 6) ∧ sm_wp sm_P S d 221 0 [.ref 74, .int (0 : Int32), .int (I 41 x4.toNatClampNeg), .int (I 42 x4.toNatClampNeg), .int (I 43 x4.toNatClampNeg), .int (I 44 x4.toNatClampNeg)] [] (xLay, I, L, (kG49_74 R)) (0, 0) (fun z => ∃ (r3 : Int32) (I1 : sm_I) (L2 : sm_L), z = (some (.int r3), (xLay, I1, L2, (kG49_74 R))) ∧ ((r3 = 0 → sm_wp sm_P S (d + 1) 230 17 [.ref 74, .ref 40, .int (x4 + (1 : Int32))] [] (xLay, (sm_up I1 74 12 (0 : Int32)), L2, (kG49_74 R)) (0, 0) Φ) ∧ (¬ r3 = 0 → sm_wp sm_P S (d + 1) 230 17 [.ref 74, .ref 40, .int (x4 + (1 : Int32))] [] (xLay, (sm_up I1 74 12 (1 : Int32)), L2, (kG49_74 R)) (0, 0) Φ)))))))) : sm_wp sm_P S (d + 1) 230 17 [.ref 74, .ref 40, .int x4] [] (xLay, I, L, (kG49_74 R)) (0, 0) Φ := sm_wp_step (⟨fun q7 => ((h).1 q7), fun q7 => ⟨fun q6 => ⟨Or.inl rfl, ((((h).2 q7)).1 q6)⟩, fun q6 => ⟨(((((h).2 q7)).2 q6)).1, ⟨((((((h).2 q7)).2 q6)).2).1, ⟨(((((((h).2 q7)).2 q6)).2).2).1, ⟨((((((((h).2 q7)).2 q6)).2).2).2).1, sm_ci0 (((((((((h).2 q7)).2 q6)).2).2).2).2) (fun r3 I1 L2 q5 => ⟨fun q4 => ⟨Or.inl rfl, ((q5).1 q4)⟩, fun q4 => ⟨Or.inr rfl, ((q5).2 q4)⟩⟩)⟩⟩⟩⟩⟩⟩)
theorem pg49_74_X2_begin_0 {S : sm_C} {d : Nat} {Φ : sm_Z → Prop} {I : sm_I} {L : sm_L} {R : sm_R} {x3 : Int32} {x4 : Int32} (h : ∀ I1 : sm_I, I1 = (sm_up (sm_up I 74 7 (0 : Int32)) 74 8 (0 : Int32)) → ((x4 ≤ 0 → sm_wp sm_P S d 230 0 [.ref 74, .int x4] [] (xLay, (sm_up I1 74 10 (0 : Int32)), L, (sm_up (sm_up (kG49_74 R) 74 4 (some 49)) 74 5 (some 37))) (0, 0) (fun z => ∃ (I2 : sm_I) (L3 : sm_L), z = (none, (xLay, I2, L3, (sm_up (sm_up (kG49_74 R) 74 4 (some 49)) 74 5 (some 37)))) ∧ sm_wp sm_P S (d + 1) 220 4 [.ref 74, .int x3, .int (0 : Int32)] [] (xLay, (sm_up I2 74 11 (0 : Int32)), L3, (sm_up (sm_up (kG49_74 R) 74 4 (some 49)) 74 5 (some 37))) (0, 0) Φ)) ∧ (¬ x4 ≤ 0 → sm_wp sm_P S d 230 0 [.ref 74, .int x4] [] (xLay, (sm_up I1 74 10 (1 : Int32)), L, (sm_up (sm_up (kG49_74 R) 74 4 (some 49)) 74 5 (some 37))) (0, 0) (fun z => ∃ (I6 : sm_I) (L7 : sm_L), z = (none, (xLay, I6, L7, (sm_up (sm_up (kG49_74 R) 74 4 (some 49)) 74 5 (some 37)))) ∧ sm_wp sm_P S (d + 1) 220 4 [.ref 74, .int x3, .int (0 : Int32)] [] (xLay, (sm_up I6 74 11 (0 : Int32)), L7, (sm_up (sm_up (kG49_74 R) 74 4 (some 49)) 74 5 (some 37))) (0, 0) Φ)))) : sm_wp sm_P S (d + 1) 220 0 [.ref 74, .ref 49, .ref 37, .int x3, .int x4] [] (xLay, I, L, (kG49_74 R)) (0, 0) Φ := sm_wp_step (⟨fun q10 => ⟨Or.inl rfl, sm_cv0 ((((h _ rfl)).1 q10)) (fun I2 L3 q5 => q5)⟩, fun q10 => ⟨Or.inr rfl, sm_cv0 ((((h _ rfl)).2 q10)) (fun I6 L7 q9 => q9)⟩⟩)
theorem pg49_74_X2_begin_4 {S : sm_C} {d : Nat} {Φ : sm_Z → Prop} {I : sm_I} {L : sm_L} {R : sm_R} {x3 : Int32} {x5 : Int32} (h : (((I 49 3) ≤ x5 → sm_wp sm_P S (d + 1) 220 9 [.ref 74, .int (0 : Int32)] [] (xLay, I, L, (kG49_74 R)) (0, 0) Φ) ∧ (¬ (I 49 3) ≤ x5 → ((((x3 >>> (x5 &&& 31)) &&& (1 : Int32)) = 0 → sm_wp sm_P S (d + 1) 220 4 [.ref 74, .int x3, .int (x5 + (1 : Int32))] [] (xLay, I, L, (kG49_74 R)) (0, 0) Φ) ∧ (¬ ((x3 >>> (x5 &&& 31)) &&& (1 : Int32)) = 0 → sm_wp sm_P S d 219 0 [.ref 74, .int x5] [] (xLay, I, L, (kG49_74 R)) (0, 0) (fun z => ∃ (I1 : sm_I) (L2 : sm_L), z = (none, (xLay, I1, L2, (kG49_74 R))) ∧ sm_wp sm_P S (d + 1) 220 4 [.ref 74, .int x3, .int (x5 + (1 : Int32))] [] (xLay, I1, L2, (kG49_74 R)) (0, 0) Φ)))))) : sm_wp sm_P S (d + 1) 220 4 [.ref 74, .int x3, .int x5] [] (xLay, I, L, (kG49_74 R)) (0, 0) Φ := sm_wp_step (⟨fun q6 => ((h).1 q6), fun q6 => ⟨fun q5 => ((((h).2 q6)).1 q5), fun q5 => sm_cv0 (((((h).2 q6)).2 q5)) (fun I1 L2 q4 => q4)⟩⟩)
theorem pg49_74_X2_begin_9 {S : sm_C} {d : Nat} {Φ : sm_Z → Prop} {I : sm_I} {L : sm_L} {R : sm_R} {x5 : Int32} (h : (((I 49 5) ≤ x5 → Φ (none, (xLay, I, L, (kG49_74 R)))) ∧ (¬ (I 49 5) ≤ x5 → sm_wp sm_P S d 219 0 [.ref 74, .int ((100 : Int32) + x5)] [] (xLay, I, L, (kG49_74 R)) (0, 0) (fun z => ∃ (I1 : sm_I) (L2 : sm_L), z = (none, (xLay, I1, L2, (kG49_74 R))) ∧ sm_wp sm_P S (d + 1) 220 9 [.ref 74, .int (x5 + (1 : Int32))] [] (xLay, I1, L2, (kG49_74 R)) (0, 0) Φ)))) : sm_wp sm_P S (d + 1) 220 9 [.ref 74, .int x5] [] (xLay, I, L, (kG49_74 R)) (0, 0) Φ := sm_wp_step (⟨fun q5 => ((h).1 q5), fun q5 => sm_cv0 (((h).2 q5)) (fun I1 L2 q4 => q4)⟩)
end
section
/-! more conditions of the class; told = 12, going = 74 (wip/pe/symg3.py) -/
def kF12_74l : List (Nat × Nat × Nat) := [(0, 0, 1), (0, 1, 2), (0, 2, 37), (0, 3, 45), (0, 4, 74), (0, 5, 82), (0, 6, 90), (0, 7, 98), (0, 8, 103), (12, 7, 13), (12, 8, 14), (12, 9, 15), (12, 10, 16), (12, 11, 21), (12, 12, 22), (12, 13, 23), (12, 14, 24), (12, 15, 29), (12, 16, 34), (12, 17, 35), (12, 18, 36), (16, 0, 17), (16, 1, 18), (16, 2, 19), (16, 3, 20), (24, 0, 25), (24, 1, 26), (24, 2, 27), (24, 3, 28), (29, 0, 30), (29, 1, 31), (29, 2, 32), (29, 3, 33), (37, 2, 38), (37, 3, 39), (37, 4, 40), (40, 0, 41), (40, 1, 42), (40, 2, 43), (40, 3, 44), (45, 0, 46), (45, 1, 47), (45, 2, 48), (74, 0, 75), (74, 2, 80), (74, 3, 81), (74, 5, 37), (75, 0, 76), (75, 1, 77), (75, 2, 78), (75, 3, 79), (0, 9, 12)]
def kF12_74 (R : sm_R) : sm_R := fun x j => match kF12_74l.find? (fun t => Nat.beq t.1 x && Nat.beq t.2.1 j) with
  | some t => some t.2.2
  | none => R x j
theorem pg12_74_X2_beginF_0 {S : sm_C} {d : Nat} {Φ : sm_Z → Prop} {I : sm_I} {L : sm_L} {R : sm_R} {x3 : Int32} {x4 : Int32} (h : ∀ I1 : sm_I, I1 = (sm_up (sm_up I 74 7 (0 : Int32)) 74 8 (0 : Int32)) → ((x4 ≤ 0 → sm_wp sm_P S d 230 0 [.ref 74, .int x4] [] (xLay, (sm_up I1 74 10 (0 : Int32)), L, (sm_up (sm_up (kF12_74 R) 74 4 (some 12)) 74 5 (some 37))) (0, 0) (fun z => ∃ (I2 : sm_I) (L3 : sm_L), z = (none, (xLay, I2, L3, (sm_up (sm_up (kF12_74 R) 74 4 (some 12)) 74 5 (some 37)))) ∧ sm_wp sm_P S (d + 1) 220 4 [.ref 74, .int x3, .int (0 : Int32)] [] (xLay, (sm_up I2 74 11 (0 : Int32)), L3, (sm_up (sm_up (kF12_74 R) 74 4 (some 12)) 74 5 (some 37))) (0, 0) Φ)) ∧ (¬ x4 ≤ 0 → sm_wp sm_P S d 230 0 [.ref 74, .int x4] [] (xLay, (sm_up I1 74 10 (1 : Int32)), L, (sm_up (sm_up (kF12_74 R) 74 4 (some 12)) 74 5 (some 37))) (0, 0) (fun z => ∃ (I6 : sm_I) (L7 : sm_L), z = (none, (xLay, I6, L7, (sm_up (sm_up (kF12_74 R) 74 4 (some 12)) 74 5 (some 37)))) ∧ sm_wp sm_P S (d + 1) 220 4 [.ref 74, .int x3, .int (0 : Int32)] [] (xLay, (sm_up I6 74 11 (0 : Int32)), L7, (sm_up (sm_up (kF12_74 R) 74 4 (some 12)) 74 5 (some 37))) (0, 0) Φ)))) : sm_wp sm_P S (d + 1) 220 0 [.ref 74, .ref 12, .ref 37, .int x3, .int x4] [] (xLay, I, L, (kF12_74 R)) (0, 0) Φ := sm_wp_step (⟨fun q10 => ⟨Or.inl rfl, sm_cv0 ((((h _ rfl)).1 q10)) (fun I2 L3 q5 => q5)⟩, fun q10 => ⟨Or.inr rfl, sm_cv0 ((((h _ rfl)).2 q10)) (fun I6 L7 q9 => q9)⟩⟩)
theorem pg12_74v22_X11_valueAt_0 {S : sm_C} {d : Nat} {Φ : sm_Z → Prop} {I : sm_I} {L : sm_L} {R : sm_R} {x1 : Int32} {x2 : Int32} (h : ((x1 < 0 → Φ (some (.int x2), (xLay, I, L, (kG12_74 R)))) ∧ (¬ x1 < 0 → (((Int32.ofNat 10) ≤ x1 → Φ (some (.int x2), (xLay, I, L, (kG12_74 R)))) ∧ (¬ (Int32.ofNat 10) ≤ x1 → (vp_in x1 10) ∧ Φ (some (.int (I 22 x1.toNatClampNeg)), (xLay, I, L, (kG12_74 R)))))))) : sm_wp sm_P S d 89 0 [.ref 22, .int x1, .int x2] [] (xLay, I, L, (kG12_74 R)) (0, 0) Φ := sm_wp_step (⟨fun q2 => ((h).1 q2), fun q2 => ⟨fun q1 => ((((h).2 q2)).1 q1), fun q1 => ⟨(((((h).2 q2)).2 q1)).1, (((((h).2 q2)).2 q1)).2⟩⟩⟩)
theorem pg12_74v34_X11_valueAt_0 {S : sm_C} {d : Nat} {Φ : sm_Z → Prop} {I : sm_I} {L : sm_L} {R : sm_R} {x1 : Int32} {x2 : Int32} (h : ((x1 < 0 → Φ (some (.int x2), (xLay, I, L, (kG12_74 R)))) ∧ (¬ x1 < 0 → (((Int32.ofNat 45) ≤ x1 → Φ (some (.int x2), (xLay, I, L, (kG12_74 R)))) ∧ (¬ (Int32.ofNat 45) ≤ x1 → (vp_in x1 45) ∧ Φ (some (.int (I 34 x1.toNatClampNeg)), (xLay, I, L, (kG12_74 R)))))))) : sm_wp sm_P S d 89 0 [.ref 34, .int x1, .int x2] [] (xLay, I, L, (kG12_74 R)) (0, 0) Φ := sm_wp_step (⟨fun q2 => ((h).1 q2), fun q2 => ⟨fun q1 => ((((h).2 q2)).1 q1), fun q1 => ⟨(((((h).2 q2)).2 q1)).1, (((((h).2 q2)).2 q1)).2⟩⟩⟩)
theorem pg12_74v35_X11_valueAt_0 {S : sm_C} {d : Nat} {Φ : sm_Z → Prop} {I : sm_I} {L : sm_L} {R : sm_R} {x1 : Int32} {x2 : Int32} (h : ((x1 < 0 → Φ (some (.int x2), (xLay, I, L, (kG12_74 R)))) ∧ (¬ x1 < 0 → (((Int32.ofNat 45) ≤ x1 → Φ (some (.int x2), (xLay, I, L, (kG12_74 R)))) ∧ (¬ (Int32.ofNat 45) ≤ x1 → (vp_in x1 45) ∧ Φ (some (.int (I 35 x1.toNatClampNeg)), (xLay, I, L, (kG12_74 R)))))))) : sm_wp sm_P S d 89 0 [.ref 35, .int x1, .int x2] [] (xLay, I, L, (kG12_74 R)) (0, 0) Φ := sm_wp_step (⟨fun q2 => ((h).1 q2), fun q2 => ⟨fun q1 => ((((h).2 q2)).1 q1), fun q1 => ⟨(((((h).2 q2)).2 q1)).1, (((((h).2 q2)).2 q1)).2⟩⟩⟩)
theorem pg12_74v36_X11_valueAt_0 {S : sm_C} {d : Nat} {Φ : sm_Z → Prop} {I : sm_I} {L : sm_L} {R : sm_R} {x1 : Int32} {x2 : Int32} (h : ((x1 < 0 → Φ (some (.int x2), (xLay, I, L, (kG12_74 R)))) ∧ (¬ x1 < 0 → (((Int32.ofNat 45) ≤ x1 → Φ (some (.int x2), (xLay, I, L, (kG12_74 R)))) ∧ (¬ (Int32.ofNat 45) ≤ x1 → (vp_in x1 45) ∧ Φ (some (.int (I 36 x1.toNatClampNeg)), (xLay, I, L, (kG12_74 R)))))))) : sm_wp sm_P S d 89 0 [.ref 36, .int x1, .int x2] [] (xLay, I, L, (kG12_74 R)) (0, 0) Φ := sm_wp_step (⟨fun q2 => ((h).1 q2), fun q2 => ⟨fun q1 => ((((h).2 q2)).1 q1), fun q1 => ⟨(((((h).2 q2)).2 q1)).1, (((((h).2 q2)).2 q1)).2⟩⟩⟩)
theorem pg12_74_X10_firstSpan_0 {S : sm_C} {d : Nat} {Φ : sm_Z → Prop} {I : sm_I} {L : sm_L} {R : sm_R} {x1 : Int32} {x2 : Int32} (h : Φ (some (.int (((x1 * (4 : Int32)) + x2) * (3 : Int32))), (xLay, I, L, (kG12_74 R)))) : sm_wp sm_P S d 19 0 [.ref 12, .int x1, .int x2] [] (xLay, I, L, (kG12_74 R)) (0, 0) Φ := sm_wp_step (h)
theorem pg12_74_X10_partsOf_0 {S : sm_C} {d : Nat} {Φ : sm_Z → Prop} {I : sm_I} {L : sm_L} {R : sm_R} {x1 : Int32} {x2 : Int32} (h : ((((x1 * (4 : Int32)) + x2) < 0 → Φ (some (.int (0 : Int32)), (xLay, I, L, (kG12_74 R)))) ∧ (¬ ((x1 * (4 : Int32)) + x2) < 0 → (((Int32.ofNat 40) ≤ ((x1 * (4 : Int32)) + x2) → Φ (some (.int (0 : Int32)), (xLay, I, L, (kG12_74 R)))) ∧ (¬ (Int32.ofNat 40) ≤ ((x1 * (4 : Int32)) + x2) → (vp_in ((x1 * (4 : Int32)) + x2) 40) ∧ Φ (some (.int (I 23 ((x1 * (4 : Int32)) + x2).toNatClampNeg)), (xLay, I, L, (kG12_74 R)))))))) : sm_wp sm_P S d 23 0 [.ref 12, .int x1, .int x2] [] (xLay, I, L, (kG12_74 R)) (0, 0) Φ := sm_wp_step (⟨fun q2 => ((h).1 q2), fun q2 => ⟨fun q1 => ((((h).2 q2)).1 q1), fun q1 => ⟨(((((h).2 q2)).2 q1)).1, (((((h).2 q2)).2 q1)).2⟩⟩⟩)
theorem pg12_74_X10_allBits_0 {S : sm_C} {d : Nat} {Φ : sm_Z → Prop} {I : sm_I} {L : sm_L} {R : sm_R} (h : Φ (some (.int (((1 : Int32) <<< ((I 12 3) &&& 31)) - (1 : Int32))), (xLay, I, L, (kG12_74 R)))) : sm_wp sm_P S d 15 0 [.ref 12] [] (xLay, I, L, (kG12_74 R)) (0, 0) Φ := sm_wp_step (h)
theorem pg12_74v46_X11_valueAt_0 {S : sm_C} {d : Nat} {Φ : sm_Z → Prop} {I : sm_I} {L : sm_L} {R : sm_R} {x1 : Int32} {x2 : Int32} (h : ((x1 < 0 → Φ (some (.int x2), (xLay, I, L, (kG12_74 R)))) ∧ (¬ x1 < 0 → (((Int32.ofNat 1000) ≤ x1 → Φ (some (.int x2), (xLay, I, L, (kG12_74 R)))) ∧ (¬ (Int32.ofNat 1000) ≤ x1 → (vp_in x1 1000) ∧ Φ (some (.int (I 46 x1.toNatClampNeg)), (xLay, I, L, (kG12_74 R)))))))) : sm_wp sm_P S d 89 0 [.ref 46, .int x1, .int x2] [] (xLay, I, L, (kG12_74 R)) (0, 0) Φ := sm_wp_step (⟨fun q2 => ((h).1 q2), fun q2 => ⟨fun q1 => ((((h).2 q2)).1 q1), fun q1 => ⟨(((((h).2 q2)).2 q1)).1, (((((h).2 q2)).2 q1)).2⟩⟩⟩)
theorem pg12_74_X11_isGoneThrough_0 {S : sm_C} {d : Nat} {Φ : sm_Z → Prop} {I : sm_I} {L : sm_L} {R : sm_R} (h : (((I 0 12) = 0 → sm_wp sm_P S d 15 0 [.ref 12] [] (xLay, I, L, (kF12_74 R)) (0, 0) (fun z => ∃ (r4 : Int32) (I2 : sm_I) (L3 : sm_L), z = (some (.int r4), (xLay, I2, L3, (kF12_74 R))) ∧ ∀ n5 : Int32, n5 = (r4 &&& ((I2 37 0) ^^^ (-1 : Int32))) → sm_wp sm_P S d 220 0 [.ref 74, .ref 12, .ref 37, .int n5, .int (0 : Int32)] [] (xLay, I2, L3, (kF12_74 R)) (0, 0) (fun z => ∃ (I6 : sm_I) (L7 : sm_L), z = (none, (xLay, I6, L7, (kG12_74 R))) ∧ sm_wp sm_P S d 225 0 [.ref 74, .ref 45, .int (0 : Int32)] [] (xLay, I6, L7, (kG12_74 R)) (0, 0) (fun z => ∃ (I9 : sm_I) (L10 : sm_L), z = (none, (xLay, I9, L10, (kG12_74 R))) ∧ ((((sm_up I9 0 12 (1 : Int32)) 74 15) = 0 → Φ (some (.int (1 : Int32)), (xLay, (sm_up I9 0 12 (1 : Int32)), L10, (kG12_74 R)))) ∧ (¬ ((sm_up I9 0 12 (1 : Int32)) 74 15) = 0 → Φ (some (.int (0 : Int32)), (xLay, (sm_up I9 0 12 (1 : Int32)), L10, (kG12_74 R))))))))) ∧ (¬ (I 0 12) = 0 → (((I 74 15) = 0 → Φ (some (.int (1 : Int32)), (xLay, I, L, (kF12_74 R)))) ∧ (¬ (I 74 15) = 0 → Φ (some (.int (0 : Int32)), (xLay, I, L, (kF12_74 R)))))))) : sm_wp sm_P S (d + 1) 56 0 [.ref 0] [] (xLay, I, L, (kF12_74 R)) (0, 0) Φ := sm_wp_step (⟨fun q16 => sm_ci0 (((h).1 q16)) (fun r4 I2 L3 q15 => sm_cv0 ((q15 _ rfl)) (fun I6 L7 q14 => sm_cv0 (q14) (fun I9 L10 q13 => ⟨Or.inr rfl, ⟨fun q12 => ⟨Or.inr rfl, ((q13).1 q12)⟩, fun q12 => ⟨Or.inl rfl, ((q13).2 q12)⟩⟩⟩))), fun q16 => ⟨fun q1 => ⟨Or.inr rfl, ((((h).2 q16)).1 q1)⟩, fun q1 => ⟨Or.inl rfl, ((((h).2 q16)).2 q1)⟩⟩⟩)
theorem pg12_74_X10_allBitsF_0 {S : sm_C} {d : Nat} {Φ : sm_Z → Prop} {I : sm_I} {L : sm_L} {R : sm_R} (h : Φ (some (.int (((1 : Int32) <<< ((I 12 3) &&& 31)) - (1 : Int32))), (xLay, I, L, (kF12_74 R)))) : sm_wp sm_P S d 15 0 [.ref 12] [] (xLay, I, L, (kF12_74 R)) (0, 0) Φ := sm_wp_step (h)
end
section
/-! more conditions of the class; told = 49, going = 74 (wip/pe/symg3.py) -/
def kF49_74l : List (Nat × Nat × Nat) := [(0, 0, 1), (0, 1, 2), (0, 2, 37), (0, 3, 45), (0, 4, 74), (0, 5, 82), (0, 6, 90), (0, 7, 98), (0, 8, 103), (37, 2, 38), (37, 3, 39), (37, 4, 40), (40, 0, 41), (40, 1, 42), (40, 2, 43), (40, 3, 44), (45, 0, 46), (45, 1, 47), (45, 2, 48), (49, 7, 50), (49, 8, 51), (49, 9, 52), (49, 10, 53), (49, 11, 58), (49, 12, 59), (49, 13, 60), (49, 14, 61), (49, 15, 66), (49, 16, 71), (49, 17, 72), (49, 18, 73), (53, 0, 54), (53, 1, 55), (53, 2, 56), (53, 3, 57), (61, 0, 62), (61, 1, 63), (61, 2, 64), (61, 3, 65), (66, 0, 67), (66, 1, 68), (66, 2, 69), (66, 3, 70), (74, 0, 75), (74, 2, 80), (74, 3, 81), (74, 5, 37), (75, 0, 76), (75, 1, 77), (75, 2, 78), (75, 3, 79), (0, 9, 49)]
def kF49_74 (R : sm_R) : sm_R := fun x j => match kF49_74l.find? (fun t => Nat.beq t.1 x && Nat.beq t.2.1 j) with
  | some t => some t.2.2
  | none => R x j
theorem pg49_74_X2_beginF_0 {S : sm_C} {d : Nat} {Φ : sm_Z → Prop} {I : sm_I} {L : sm_L} {R : sm_R} {x3 : Int32} {x4 : Int32} (h : ∀ I1 : sm_I, I1 = (sm_up (sm_up I 74 7 (0 : Int32)) 74 8 (0 : Int32)) → ((x4 ≤ 0 → sm_wp sm_P S d 230 0 [.ref 74, .int x4] [] (xLay, (sm_up I1 74 10 (0 : Int32)), L, (sm_up (sm_up (kF49_74 R) 74 4 (some 49)) 74 5 (some 37))) (0, 0) (fun z => ∃ (I2 : sm_I) (L3 : sm_L), z = (none, (xLay, I2, L3, (sm_up (sm_up (kF49_74 R) 74 4 (some 49)) 74 5 (some 37)))) ∧ sm_wp sm_P S (d + 1) 220 4 [.ref 74, .int x3, .int (0 : Int32)] [] (xLay, (sm_up I2 74 11 (0 : Int32)), L3, (sm_up (sm_up (kF49_74 R) 74 4 (some 49)) 74 5 (some 37))) (0, 0) Φ)) ∧ (¬ x4 ≤ 0 → sm_wp sm_P S d 230 0 [.ref 74, .int x4] [] (xLay, (sm_up I1 74 10 (1 : Int32)), L, (sm_up (sm_up (kF49_74 R) 74 4 (some 49)) 74 5 (some 37))) (0, 0) (fun z => ∃ (I6 : sm_I) (L7 : sm_L), z = (none, (xLay, I6, L7, (sm_up (sm_up (kF49_74 R) 74 4 (some 49)) 74 5 (some 37)))) ∧ sm_wp sm_P S (d + 1) 220 4 [.ref 74, .int x3, .int (0 : Int32)] [] (xLay, (sm_up I6 74 11 (0 : Int32)), L7, (sm_up (sm_up (kF49_74 R) 74 4 (some 49)) 74 5 (some 37))) (0, 0) Φ)))) : sm_wp sm_P S (d + 1) 220 0 [.ref 74, .ref 49, .ref 37, .int x3, .int x4] [] (xLay, I, L, (kF49_74 R)) (0, 0) Φ := sm_wp_step (⟨fun q10 => ⟨Or.inl rfl, sm_cv0 ((((h _ rfl)).1 q10)) (fun I2 L3 q5 => q5)⟩, fun q10 => ⟨Or.inr rfl, sm_cv0 ((((h _ rfl)).2 q10)) (fun I6 L7 q9 => q9)⟩⟩)
theorem pg49_74v59_X11_valueAt_0 {S : sm_C} {d : Nat} {Φ : sm_Z → Prop} {I : sm_I} {L : sm_L} {R : sm_R} {x1 : Int32} {x2 : Int32} (h : ((x1 < 0 → Φ (some (.int x2), (xLay, I, L, (kG49_74 R)))) ∧ (¬ x1 < 0 → (((Int32.ofNat 10) ≤ x1 → Φ (some (.int x2), (xLay, I, L, (kG49_74 R)))) ∧ (¬ (Int32.ofNat 10) ≤ x1 → (vp_in x1 10) ∧ Φ (some (.int (I 59 x1.toNatClampNeg)), (xLay, I, L, (kG49_74 R)))))))) : sm_wp sm_P S d 89 0 [.ref 59, .int x1, .int x2] [] (xLay, I, L, (kG49_74 R)) (0, 0) Φ := sm_wp_step (⟨fun q2 => ((h).1 q2), fun q2 => ⟨fun q1 => ((((h).2 q2)).1 q1), fun q1 => ⟨(((((h).2 q2)).2 q1)).1, (((((h).2 q2)).2 q1)).2⟩⟩⟩)
theorem pg49_74v71_X11_valueAt_0 {S : sm_C} {d : Nat} {Φ : sm_Z → Prop} {I : sm_I} {L : sm_L} {R : sm_R} {x1 : Int32} {x2 : Int32} (h : ((x1 < 0 → Φ (some (.int x2), (xLay, I, L, (kG49_74 R)))) ∧ (¬ x1 < 0 → (((Int32.ofNat 45) ≤ x1 → Φ (some (.int x2), (xLay, I, L, (kG49_74 R)))) ∧ (¬ (Int32.ofNat 45) ≤ x1 → (vp_in x1 45) ∧ Φ (some (.int (I 71 x1.toNatClampNeg)), (xLay, I, L, (kG49_74 R)))))))) : sm_wp sm_P S d 89 0 [.ref 71, .int x1, .int x2] [] (xLay, I, L, (kG49_74 R)) (0, 0) Φ := sm_wp_step (⟨fun q2 => ((h).1 q2), fun q2 => ⟨fun q1 => ((((h).2 q2)).1 q1), fun q1 => ⟨(((((h).2 q2)).2 q1)).1, (((((h).2 q2)).2 q1)).2⟩⟩⟩)
theorem pg49_74v72_X11_valueAt_0 {S : sm_C} {d : Nat} {Φ : sm_Z → Prop} {I : sm_I} {L : sm_L} {R : sm_R} {x1 : Int32} {x2 : Int32} (h : ((x1 < 0 → Φ (some (.int x2), (xLay, I, L, (kG49_74 R)))) ∧ (¬ x1 < 0 → (((Int32.ofNat 45) ≤ x1 → Φ (some (.int x2), (xLay, I, L, (kG49_74 R)))) ∧ (¬ (Int32.ofNat 45) ≤ x1 → (vp_in x1 45) ∧ Φ (some (.int (I 72 x1.toNatClampNeg)), (xLay, I, L, (kG49_74 R)))))))) : sm_wp sm_P S d 89 0 [.ref 72, .int x1, .int x2] [] (xLay, I, L, (kG49_74 R)) (0, 0) Φ := sm_wp_step (⟨fun q2 => ((h).1 q2), fun q2 => ⟨fun q1 => ((((h).2 q2)).1 q1), fun q1 => ⟨(((((h).2 q2)).2 q1)).1, (((((h).2 q2)).2 q1)).2⟩⟩⟩)
theorem pg49_74v73_X11_valueAt_0 {S : sm_C} {d : Nat} {Φ : sm_Z → Prop} {I : sm_I} {L : sm_L} {R : sm_R} {x1 : Int32} {x2 : Int32} (h : ((x1 < 0 → Φ (some (.int x2), (xLay, I, L, (kG49_74 R)))) ∧ (¬ x1 < 0 → (((Int32.ofNat 45) ≤ x1 → Φ (some (.int x2), (xLay, I, L, (kG49_74 R)))) ∧ (¬ (Int32.ofNat 45) ≤ x1 → (vp_in x1 45) ∧ Φ (some (.int (I 73 x1.toNatClampNeg)), (xLay, I, L, (kG49_74 R)))))))) : sm_wp sm_P S d 89 0 [.ref 73, .int x1, .int x2] [] (xLay, I, L, (kG49_74 R)) (0, 0) Φ := sm_wp_step (⟨fun q2 => ((h).1 q2), fun q2 => ⟨fun q1 => ((((h).2 q2)).1 q1), fun q1 => ⟨(((((h).2 q2)).2 q1)).1, (((((h).2 q2)).2 q1)).2⟩⟩⟩)
theorem pg49_74_X10_firstSpan_0 {S : sm_C} {d : Nat} {Φ : sm_Z → Prop} {I : sm_I} {L : sm_L} {R : sm_R} {x1 : Int32} {x2 : Int32} (h : Φ (some (.int (((x1 * (4 : Int32)) + x2) * (3 : Int32))), (xLay, I, L, (kG49_74 R)))) : sm_wp sm_P S d 19 0 [.ref 49, .int x1, .int x2] [] (xLay, I, L, (kG49_74 R)) (0, 0) Φ := sm_wp_step (h)
theorem pg49_74_X10_partsOf_0 {S : sm_C} {d : Nat} {Φ : sm_Z → Prop} {I : sm_I} {L : sm_L} {R : sm_R} {x1 : Int32} {x2 : Int32} (h : ((((x1 * (4 : Int32)) + x2) < 0 → Φ (some (.int (0 : Int32)), (xLay, I, L, (kG49_74 R)))) ∧ (¬ ((x1 * (4 : Int32)) + x2) < 0 → (((Int32.ofNat 40) ≤ ((x1 * (4 : Int32)) + x2) → Φ (some (.int (0 : Int32)), (xLay, I, L, (kG49_74 R)))) ∧ (¬ (Int32.ofNat 40) ≤ ((x1 * (4 : Int32)) + x2) → (vp_in ((x1 * (4 : Int32)) + x2) 40) ∧ Φ (some (.int (I 60 ((x1 * (4 : Int32)) + x2).toNatClampNeg)), (xLay, I, L, (kG49_74 R)))))))) : sm_wp sm_P S d 23 0 [.ref 49, .int x1, .int x2] [] (xLay, I, L, (kG49_74 R)) (0, 0) Φ := sm_wp_step (⟨fun q2 => ((h).1 q2), fun q2 => ⟨fun q1 => ((((h).2 q2)).1 q1), fun q1 => ⟨(((((h).2 q2)).2 q1)).1, (((((h).2 q2)).2 q1)).2⟩⟩⟩)
theorem pg49_74_X10_allBits_0 {S : sm_C} {d : Nat} {Φ : sm_Z → Prop} {I : sm_I} {L : sm_L} {R : sm_R} (h : Φ (some (.int (((1 : Int32) <<< ((I 49 3) &&& 31)) - (1 : Int32))), (xLay, I, L, (kG49_74 R)))) : sm_wp sm_P S d 15 0 [.ref 49] [] (xLay, I, L, (kG49_74 R)) (0, 0) Φ := sm_wp_step (h)
theorem pg49_74v46_X11_valueAt_0 {S : sm_C} {d : Nat} {Φ : sm_Z → Prop} {I : sm_I} {L : sm_L} {R : sm_R} {x1 : Int32} {x2 : Int32} (h : ((x1 < 0 → Φ (some (.int x2), (xLay, I, L, (kG49_74 R)))) ∧ (¬ x1 < 0 → (((Int32.ofNat 1000) ≤ x1 → Φ (some (.int x2), (xLay, I, L, (kG49_74 R)))) ∧ (¬ (Int32.ofNat 1000) ≤ x1 → (vp_in x1 1000) ∧ Φ (some (.int (I 46 x1.toNatClampNeg)), (xLay, I, L, (kG49_74 R)))))))) : sm_wp sm_P S d 89 0 [.ref 46, .int x1, .int x2] [] (xLay, I, L, (kG49_74 R)) (0, 0) Φ := sm_wp_step (⟨fun q2 => ((h).1 q2), fun q2 => ⟨fun q1 => ((((h).2 q2)).1 q1), fun q1 => ⟨(((((h).2 q2)).2 q1)).1, (((((h).2 q2)).2 q1)).2⟩⟩⟩)
theorem pg49_74_X11_isGoneThrough_0 {S : sm_C} {d : Nat} {Φ : sm_Z → Prop} {I : sm_I} {L : sm_L} {R : sm_R} (h : (((I 0 12) = 0 → sm_wp sm_P S d 15 0 [.ref 49] [] (xLay, I, L, (kF49_74 R)) (0, 0) (fun z => ∃ (r4 : Int32) (I2 : sm_I) (L3 : sm_L), z = (some (.int r4), (xLay, I2, L3, (kF49_74 R))) ∧ ∀ n5 : Int32, n5 = (r4 &&& ((I2 37 0) ^^^ (-1 : Int32))) → sm_wp sm_P S d 220 0 [.ref 74, .ref 49, .ref 37, .int n5, .int (0 : Int32)] [] (xLay, I2, L3, (kF49_74 R)) (0, 0) (fun z => ∃ (I6 : sm_I) (L7 : sm_L), z = (none, (xLay, I6, L7, (kG49_74 R))) ∧ sm_wp sm_P S d 225 0 [.ref 74, .ref 45, .int (0 : Int32)] [] (xLay, I6, L7, (kG49_74 R)) (0, 0) (fun z => ∃ (I9 : sm_I) (L10 : sm_L), z = (none, (xLay, I9, L10, (kG49_74 R))) ∧ ((((sm_up I9 0 12 (1 : Int32)) 74 15) = 0 → Φ (some (.int (1 : Int32)), (xLay, (sm_up I9 0 12 (1 : Int32)), L10, (kG49_74 R)))) ∧ (¬ ((sm_up I9 0 12 (1 : Int32)) 74 15) = 0 → Φ (some (.int (0 : Int32)), (xLay, (sm_up I9 0 12 (1 : Int32)), L10, (kG49_74 R))))))))) ∧ (¬ (I 0 12) = 0 → (((I 74 15) = 0 → Φ (some (.int (1 : Int32)), (xLay, I, L, (kF49_74 R)))) ∧ (¬ (I 74 15) = 0 → Φ (some (.int (0 : Int32)), (xLay, I, L, (kF49_74 R)))))))) : sm_wp sm_P S (d + 1) 56 0 [.ref 0] [] (xLay, I, L, (kF49_74 R)) (0, 0) Φ := sm_wp_step (⟨fun q16 => sm_ci0 (((h).1 q16)) (fun r4 I2 L3 q15 => sm_cv0 ((q15 _ rfl)) (fun I6 L7 q14 => sm_cv0 (q14) (fun I9 L10 q13 => ⟨Or.inr rfl, ⟨fun q12 => ⟨Or.inr rfl, ((q13).1 q12)⟩, fun q12 => ⟨Or.inl rfl, ((q13).2 q12)⟩⟩⟩))), fun q16 => ⟨fun q1 => ⟨Or.inr rfl, ((((h).2 q16)).1 q1)⟩, fun q1 => ⟨Or.inl rfl, ((((h).2 q16)).2 q1)⟩⟩⟩)
theorem pg49_74_X10_allBitsF_0 {S : sm_C} {d : Nat} {Φ : sm_Z → Prop} {I : sm_I} {L : sm_L} {R : sm_R} (h : Φ (some (.int (((1 : Int32) <<< ((I 49 3) &&& 31)) - (1 : Int32))), (xLay, I, L, (kF49_74 R)))) : sm_wp sm_P S d 15 0 [.ref 49] [] (xLay, I, L, (kF49_74 R)) (0, 0) Φ := sm_wp_step (h)
end
section
/-! the class's net, exact; told = 12, going = 74 (wip/pe/mkg1.py) -/
section
variable {S : sm_C} {d : Nat} {Φ : sm_Z → Prop} {I : sm_I} {L : sm_L} {R : sm_R}
def g12_74_T (I : sm_I) (n lev i j : Nat) : Int := (I 76 (tix n lev i j)).toInt
def g12_74_c (n lev : Nat) (I J : sm_I) : Prop := ∀ p q, ¬ (p = 76 ∧ lev * (n * n) ≤ q ∧ q < lev * (n * n) + n * n) → J p q = I p q
theorem g12_74_c0 {n lev : Nat} {I : sm_I} : g12_74_c n lev I I := fun _ _ _ => rfl
theorem g12_74_ct {n lev : Nat} {I J K : sm_I} (a : g12_74_c n lev I J) (b : g12_74_c n lev J K) : g12_74_c n lev I K := fun p q h => (b p q h).trans (a p q h)
theorem g12_74_row {n r re : Nat} {x1 x2 x3 : Int32} {I0 : sm_I} (hn : (I0 75 4).toInt = n) (h1 : x1.toInt = r) (h3 : x3.toInt = re) (r7 : r + n ≤ 7381) (re7 : re + n ≤ 7381) (ds : r + n ≤ re ∨ re + n ≤ r) (y0 : -116000 ≤ x2.toInt) (y1 : x2.toInt ≤ 116000) (be : ∀ q, q < n → -1440 ≤ (I0 76 (re + q)).toInt ∧ (I0 76 (re + q)).toInt ≤ 1440) (h : ∀ J, (∀ p j, ¬ (p = 76 ∧ r ≤ j ∧ j < r + n) → J p j = I0 p j) → (∀ q, q < n → (J 76 (r + q)).toInt = if x2.toInt + (I0 76 (re + q)).toInt < (I0 76 (r + q)).toInt then x2.toInt + (I0 76 (re + q)).toInt else (I0 76 (r + q)).toInt) → Φ (none, (xLay, J, L, kG12_74 R))) : sm_wp sm_P S d 257 0 [.ref 75, .int x1, .int x2, .int x3] [] (xLay, I0, L, kG12_74 R) (0, 0) Φ := by
  have lp : ∀ (k i : Nat) (x4 : Int32) (J : sm_I), x4.toInt = i → i + k = n → (∀ p j, ¬ (p = 76 ∧ r ≤ j ∧ j < r + i) → J p j = I0 p j) → (∀ q, q < i → (J 76 (r + q)).toInt = if x2.toInt + (I0 76 (re + q)).toInt < (I0 76 (r + q)).toInt then x2.toInt + (I0 76 (re + q)).toInt else (I0 76 (r + q)).toInt) → sm_wp sm_P S d 257 1 [.ref 75, .int x1, .int x2, .int x3, .int x4] [] (xLay, J, L, kG12_74 R) (0, 0) Φ := by
    intro k
    induction k with
    | zero =>
      intro i x4 J h4 hk o v
      have e4 : J 75 4 = I0 75 4 := o 75 4 (by omega)
      have ei : i = n := by omega
      subst ei
      refine pg12_74_X5_tightenRow_1 ⟨fun _ => h J o v, fun a => ?_⟩
      have a := kl_nle a
      rw [e4] at a
      omega
    | succ k ih =>
      intro i x4 J h4 hk o v
      have e4 : J 75 4 = I0 75 4 := o 75 4 (by omega)
      have s4 := ml_in1 (x := x4) (by omega)
      have q1 : (x3 + x4).toInt = ((re + i : Nat) : Int) := (ml_ad h3 h4 (by omega) (by omega)).trans (by omega)
      have q2 : (x1 + x4).toInt = ((r + i : Nat) : Int) := (ml_ad h1 h4 (by omega) (by omega)).trans (by omega)
      have oe : J 76 (re + i) = I0 76 (re + i) := o _ _ (by omega)
      have or_ : J 76 (r + i) = I0 76 (r + i) := o _ _ (by omega)
      have b := be i (by omega)
      refine pg12_74_X5_tightenRow_1 ⟨fun a => ?_, fun _ => ⟨kl_in (by omega) (by omega), fun n1 e1 => ⟨kl_in (by omega) (by omega), ?_⟩⟩⟩
      · have a := kl_le.mp a
        rw [e4] at a
        omega
      rw [tk_nat q1, oe] at e1
      rw [tk_nat q2, or_]
      have s1 : n1.toInt = x2.toInt + (I0 76 (re + i)).toInt := by rw [e1]; exact ml_ad rfl rfl (by omega) (by omega)
      refine ⟨fun c => ?_, fun c => ⟨kl_in (by omega) (by omega), fun I2 e2 => ?_⟩⟩
      · have c := kl_le.mp c
        refine ih (i + 1) _ J (by omega) (by omega) (fun p j hp => o p j (by omega)) (fun q hq => ?_)
        by_cases e : q = i
        · rw [e, or_, if_neg (by omega)]
        · exact v q (by omega)
      · have c := kl_nle c
        refine ih (i + 1) _ I2 (by omega) (by omega) (fun p j hp => by rw [e2, en_up_ne _ _ _ _ (by omega)]; exact o p j (by omega)) (fun q hq => ?_)
        by_cases e : q = i
        · rw [e, e2, en_up_eq, if_pos (by omega), s1]
        · rw [e2, en_up_ne _ _ _ _ (by omega)]; exact v q (by omega)
  exact pg12_74_X5_tightenRow_0 (lp n 0 0 I0 (by decide) (by omega) (fun _ _ _ => rfl) (fun q hq => absurd hq (Nat.not_lt_zero q)))
/-- who stands for a node, and by how much behind it is -/
def g12_74_hd (I : sm_I) (c : tC) : tC := if c.1 = c.2.1 then c else ((I 77 c.1).toNatClampNeg, (I 77 c.2.1).toNatClampNeg, c.2.2 - (I 79 c.1).toInt + (I 78 c.2.1).toInt)
def g12_74_hok (I : sm_I) (n : Nat) : Prop := ∀ i, i < n → (0 ≤ (I 77 i).toInt ∧ (I 77 i).toInt < n) ∧ (-1440 ≤ (I 78 i).toInt ∧ (I 78 i).toInt ≤ 1440) ∧ (-1440 ≤ (I 79 i).toInt ∧ (I 79 i).toInt ≤ 1440)
/-- what a call needs of the net -/
def g12_74_B (I : sm_I) (n : Nat) : Prop := (I 75 4).toInt = n ∧ 1 ≤ n ∧ n ≤ 11 ∧ (I 75 5).toInt = ((n * n : Nat) : Int) ∧ g12_74_hok I n
theorem g12_74_Bc {n lev : Nat} {I J : sm_I} (h : g12_74_c n lev I J) (b : g12_74_B I n) : g12_74_B J n ∧ g12_74_hd J = g12_74_hd I := by
  obtain ⟨b1, b2, b3, b4, b5⟩ := b
  refine ⟨⟨by rw [h 75 4 (by omega)]; exact b1, b2, b3, by rw [h 75 5 (by omega)]; exact b4, fun i hi => by rw [h 77 i (by omega), h 78 i (by omega), h 79 i (by omega)]; exact b5 i hi⟩, ?_⟩
  funext c
  unfold g12_74_hd
  rw [h 77 c.1 (by omega), h 77 c.2.1 (by omega), h 79 c.1 (by omega), h 78 c.2.1 (by omega)]
def g12_74_R (lev n : Nat) (C : List tC) (I : sm_I) (r : Int32) (J : sm_I) : Prop := g12_74_c n lev I J ∧ ((r = 0 ∧ tno n C) ∨ (r = 1 ∧ ttop n C (g12_74_T J n lev)))
theorem g12_74_21 {n lev i j : Nat} {x6 x7 x8 x9 x10 : Int32} {I0 : sm_I} {D : Nat → Nat → Int} (B : g12_74_B I0 n) (hl : lev * (n * n) + n * n ≤ 7381) (h7 : x7.toInt = ((lev * (n * n) : Nat) : Int)) (h8 : x8.toInt = i) (h9 : x9.toInt = j) (h10 : x10.toInt = ((lev * (n * n) + j * n : Nat) : Int)) (in_ : i < n) (jn : j < n) (w0 : -113000 ≤ x6.toInt) (w1 : x6.toInt ≤ 113000) (eD : D = g12_74_T I0 n lev) (cl : tcl n D) (bD : ∀ a b, a < n → b < n → -1440 ≤ D a b ∧ D a b ≤ 1440) (k : 0 ≤ D j i + x6.toInt) (h : ∀ J, g12_74_c n lev I0 J → (∀ a b, a < n → b < n → g12_74_T J n lev a b = tU D i j x6.toInt a b) → Φ (some (.int 1), (xLay, J, L, kG12_74 R))) : ∀ (m p : Nat) (x11 : Int32) (J : sm_I), x11.toInt = p → p + m = n → g12_74_c n lev I0 J → (∀ a b, a < n → b < n → g12_74_T J n lev a b = if a < p then tU D i j x6.toInt a b else D a b) → sm_wp sm_P S (d + 1) 256 21 [.ref 75, .int x6, .int x7, .int x8, .int x9, .int x10, .int x11] [] (xLay, J, L, kG12_74 R) (0, 0) Φ := by
  have te := tU_e (n := n) (D := D) k
  have lt := fun (a b : Nat) (ha : a < n) (hb : b < n) => tix_lt ha hb
  intro m
  induction m with
  | zero =>
    intro p x11 J h11 hm cg T
    have e4 : J 75 4 = I0 75 4 := cg 75 4 (by omega)
    refine pg12_74_X5_tighten_21 ⟨fun _ => h J cg (fun a b ha hb => by rw [T a b ha hb, if_pos (by omega)]), fun a => ?_⟩
    have a := kl_nle a
    rw [e4, B.1] at a
    omega
  | succ m ih =>
    intro p x11 J h11 hm cg T
    have pn : p < n := by omega
    have e4 : J 75 4 = I0 75 4 := cg 75 4 (by omega)
    have n11 := B.2.2.1
    have s11 := ml_in1 (x := x11) (by omega)
    have rowp : p * n + n ≤ n * n := by
      have := Nat.mul_le_mul_right n (show p + 1 ≤ n by omega)
      rw [Nat.succ_mul] at this
      exact this
    have rowj : j * n + n ≤ n * n := by
      have := Nat.mul_le_mul_right n (show j + 1 ≤ n by omega)
      rw [Nat.succ_mul] at this
      exact this
    have mp : (x11 * (J 75 4)).toInt = ((p * n : Nat) : Int) := by
      rw [e4]
      have := ml_mu h11 B.1 (by rw [← Int.natCast_mul]; omega) (by rw [← Int.natCast_mul]; omega)
      rw [this, Int.natCast_mul]
    have a7 : (x7 + x11 * (J 75 4)).toInt = ((lev * (n * n) + p * n : Nat) : Int) := (ml_ad h7 mp (by omega) (by omega)).trans (by omega)
    refine pg12_74_X5_tighten_21 ⟨fun a => ?_, fun _ n1 e1 => ?_⟩
    · have a := kl_le.mp a
      rw [e4, B.1] at a
      omega
    have q1 : n1.toInt = ((tix n lev p i : Nat) : Int) := by rw [e1]; unfold tix; exact (ml_ad a7 h8 (by omega) (by omega)).trans (by omega)
    have t1 := lt p i pn in_
    have t3 := lt p j pn jn
    refine ⟨kl_in (by omega) (by unfold tix at q1; omega), fun n2 e2 n3 e3 => ?_⟩
    have q3 : n3.toInt = ((tix n lev p j : Nat) : Int) := by rw [e3]; unfold tix; exact (ml_ad a7 h9 (by omega) (by omega)).trans (by omega)
    rw [tk_nat q1] at e2
    have d1 : (J 76 (tix n lev p i)).toInt = D p i := by
      have g := T p i pn in_
      rw [if_neg (by omega)] at g
      exact g
    have d3 : (J 76 (tix n lev p j)).toInt = D p j := by
      have g := T p j pn jn
      rw [if_neg (by omega)] at g
      exact g
    have bi := bD p i pn in_
    have q2 : n2.toInt = D p i + x6.toInt := by rw [e2]; exact ml_ad d1 rfl (by omega) (by omega)
    rw [tk_nat q3]
    refine ⟨kl_in (by omega) (by unfold tix at q3; omega), fun c => ?_, fun c => ?_⟩
    · have c := kl_le.mp c
      rw [d3, q2] at c
      refine ih (p + 1) _ J (by omega) (by omega) cg (fun a b ha hb => ?_)
      rw [T a b ha hb]
      by_cases e : a = p
      · rw [if_neg (by omega), if_pos (by omega), e, tU_s cl jn pn c b hb]
      · by_cases e2 : a < p
        · rw [if_pos e2, if_pos (by omega)]
        · rw [if_neg e2, if_neg (by omega)]
    · have c := kl_nle c
      rw [d3, q2] at c
      have pj : p ≠ j := fun e => by
        rw [e] at c
        have := cl.1 j jn
        omega
      have sep : p * n + n ≤ j * n ∨ j * n + n ≤ p * n := by
        rcases Nat.lt_or_ge p j with u | u
        · left
          have := Nat.mul_le_mul_right n (show p + 1 ≤ j by omega)
          rw [Nat.succ_mul] at this
          exact this
        · right
          have := Nat.mul_le_mul_right n (show j + 1 ≤ p by omega)
          rw [Nat.succ_mul] at this
          exact this
      have rj : ∀ q, q < n → (J 76 (lev * (n * n) + j * n + q)).toInt = D j q := fun q hq => by
        have g := T j q jn hq
        rw [te.1 q] at g
        rw [show (J 76 (lev * (n * n) + j * n + q)).toInt = g12_74_T J n lev j q from rfl, g]
        split <;> rfl
      have rp : ∀ q, q < n → (J 76 (lev * (n * n) + p * n + q)).toInt = D p q := fun q hq => by
        have g := T p q pn hq
        rw [if_neg (by omega)] at g
        exact g
      refine g12_74_row (r := lev * (n * n) + p * n) (re := lev * (n * n) + j * n) (by rw [e4]; exact B.1) a7 h10 (by omega) (by omega) (by omega) (by omega) (by omega) (fun q hq => by rw [rj q hq]; exact bD j q jn hq) (fun J2 o v => ⟨J2, L, rfl, ?_⟩)
      refine ih (p + 1) _ J2 (by omega) (by omega) (fun x y hx => (o x y (by omega)).trans (cg x y hx)) (fun a b ha hb => ?_)
      by_cases e : a = p
      · rw [if_pos (by omega), e]
        show (J2 76 (lev * (n * n) + p * n + b)).toInt = _
        rw [v b hb, rj b hb, rp b hb, q2]
        unfold tU
        have e5 : D p i + x6.toInt + D j b = D p i + x6.toInt + D j b := rfl
        rfl
      · have ea : g12_74_T J2 n lev a b = g12_74_T J n lev a b := by
          unfold g12_74_T
          rw [o _ _ (fun q => ?_)]
          have sa : a * n + n ≤ p * n ∨ p * n + n ≤ a * n := by
            rcases Nat.lt_or_ge a p with u | u
            · left
              have := Nat.mul_le_mul_right n (show a + 1 ≤ p by omega)
              rw [Nat.succ_mul] at this
              exact this
            · right
              have := Nat.mul_le_mul_right n (show p + 1 ≤ a by omega)
              rw [Nat.succ_mul] at this
              exact this
          unfold tix at q
          omega
        rw [ea, T a b ha hb]
        by_cases e2 : a < p
        · rw [if_pos e2, if_pos (by omega)]
        · rw [if_neg e2, if_neg (by omega)]
theorem g12_74_tighten {n lev i j : Nat} {x1 x2 x3 x4 : Int32} {C : List tC} (B : g12_74_B I n) (hl : lev * (n * n) + n * n ≤ 7381) (l1 : lev ≤ 100) (h1 : x1.toInt = lev) (hi : x2.toInt = i) (hj : x3.toInt = j) (in_ : i < n) (jn : j < n) (w0 : -110000 ≤ x4.toInt) (w1 : x4.toInt ≤ 110000) (T : ttop n C (g12_74_T I n lev)) (h : ∀ r J, g12_74_R lev n (g12_74_hd I (i, j, x4.toInt) :: C) I r J → Φ (some (.int r), (xLay, J, L, kG12_74 R))) : sm_wp sm_P S (d + 1) 256 0 [.ref 75, .int x1, .int x2, .int x3, .int x4] [] (xLay, I, L, kG12_74 R) (0, 0) Φ := by
  obtain ⟨b1, b2, b3, b4, b5⟩ := id B
  have nn : 1 ≤ n * n ∧ n * n ≤ 144 := ⟨Nat.mul_le_mul b2 b2, Nat.le_trans (Nat.mul_le_mul b3 b3) (by decide)⟩
  obtain ⟨m1, m2, m3⟩ := kl_lev (x := x1) (A := I 75 5) (by omega) (by omega) (by omega) (by omega)
  have k1 : (x1 * I 75 5).toInt = ((lev * (n * n) : Nat) : Int) := by rw [m1, h1, b4]; exact (Int.natCast_mul _ _).symm
  have k2 : ((x1 + 1) * I 75 5).toInt = ((lev * (n * n) + n * n : Nat) : Int) := by rw [m2, h1, b4, ← Int.natCast_mul, ← Int.natCast_add]
  have bD := ttop_b T
  have main : sm_wp sm_P S (d + 1) 256 4 [.ref 75, .int x1, .int x2, .int x3, .int x4] [.int (1 : Int32)] (xLay, I, L, kG12_74 R) (0, 0) Φ := by
    refine pg12_74_X5_tighten_4 ⟨fun e => absurd e (by decide), fun _ => ⟨fun a => ?_, fun _ => ⟨fun a => ?_, fun _ => ⟨fun a => ?_, fun _ => ⟨fun _ => ⟨fun e => ?_, fun e => ?_⟩, fun a => ?_⟩⟩⟩⟩⟩
    · have a := kl_lt.mp a
      rw [kl_0] at a; omega
    · have a := kl_le.mp a
      omega
    · have a := kl_lt.mp a
      rw [kl_0] at a; omega
    · have eij : i = j := by rw [e] at hi; omega
      have er : g12_74_hd I (i, j, x4.toInt) = (i, j, x4.toInt) := if_pos eij
      rw [er] at h
      have z := T.1.1.1 i in_
      refine ⟨fun a => h 0 I ⟨g12_74_c0, Or.inl ⟨rfl, t_no T in_ jn ?_⟩⟩, fun a => h 1 I ⟨g12_74_c0, Or.inr ⟨rfl, t_same T ?_⟩⟩⟩
      · have a := kl_lt.mp a
        rw [kl_0] at a
        rw [← eij, z]; omega
      · have a := kl_nlt0 a
        rw [← eij, z]; exact a
    · have nij : i ≠ j := fun q => e (en_ofI (by rw [hi, hj, q]))
      have er : g12_74_hd I (i, j, x4.toInt) = ((I 77 i).toNatClampNeg, (I 77 j).toNatClampNeg, x4.toInt - (I 79 i).toInt + (I 78 j).toInt) := if_neg nij
      rw [er] at h
      obtain ⟨si, ni, fi⟩ := b5 i in_
      obtain ⟨sj, nj, fj⟩ := b5 j jn
      have zi := kl_nat si.1
      have zj := kl_nat sj.1
      obtain ⟨i', ei'⟩ : ∃ i', i' = (I 77 i).toNatClampNeg := ⟨_, rfl⟩
      obtain ⟨j', ej'⟩ : ∃ j', j' = (I 77 j).toNatClampNeg := ⟨_, rfl⟩
      rw [← ei', ← ej'] at h
      rw [← ei'] at zi
      rw [← ej'] at zj
      have in' : i' < n := by omega
      have jn' : j' < n := by omega
      have px := tk_nat hi
      have py := tk_nat hj
      have vx : vp_in x2 11 := kl_in (by omega) (by omega)
      have vy : vp_in x3 11 := kl_in (by omega) (by omega)
      rw [px, py]
      refine ⟨vx, vy, fun n1 e1 => ⟨vx, vy, fun n2 e2 n3 e3 => ?_⟩⟩
      have q1 : n1.toInt = x4.toInt - (I 79 i).toInt + (I 78 j).toInt := by
        rw [e1]
        refine ml_ad ?_ rfl (by omega) (by omega)
        rw [Int32.toInt_sub]
        exact en_bmod (by omega) (by omega) (Or.inl rfl)
      have rowj : j' * n + n ≤ n * n := by
        have := Nat.mul_le_mul_right n (show j' + 1 ≤ n by omega)
        rw [Nat.succ_mul] at this
        exact this
      have rowi : i' * n + n ≤ n * n := by
        have := Nat.mul_le_mul_right n (show i' + 1 ≤ n by omega)
        rw [Nat.succ_mul] at this
        exact this
      have mj : (I 77 j * I 75 4).toInt = ((j' * n : Nat) : Int) := by
        have := ml_mu (a := (j' : Int)) (b := (n : Int)) zj.symm b1 (by rw [← Int.natCast_mul]; omega) (by rw [← Int.natCast_mul]; omega)
        rw [this, Int.natCast_mul]
      have mi : (I 77 i * I 75 4).toInt = ((i' * n : Nat) : Int) := by
        have := ml_mu (a := (i' : Int)) (b := (n : Int)) zi.symm b1 (by rw [← Int.natCast_mul]; omega) (by rw [← Int.natCast_mul]; omega)
        rw [this, Int.natCast_mul]
      have q2 : n2.toInt = ((lev * (n * n) + j' * n : Nat) : Int) := by rw [e2]; exact (ml_ad k1 mj (by omega) (by omega)).trans (by omega)
      have q3 : n3.toInt = ((tix n lev j' i' : Nat) : Int) := by rw [e3]; unfold tix; exact (ml_ad q2 zi.symm (by omega) (by omega)).trans (by omega)
      rw [tk_nat q3]
      have bji := bD j' i' jn' in'
      have s1 : (I 76 (tix n lev j' i') + n1).toInt = g12_74_T I n lev j' i' + n1.toInt := ml_ad rfl rfl (by omega) (by omega)
      refine ⟨kl_in (by omega) (by unfold tix at q3; omega), fun a n4 e4 => ?_, fun a => h 0 I ⟨g12_74_c0, Or.inl ⟨rfl, t_no T in' jn' ?_⟩⟩⟩
      · have a := kl_le.mp a
        rw [kl_0, s1] at a
        have q4 : n4.toInt = ((tix n lev i' j' : Nat) : Int) := by rw [e4]; unfold tix; exact (ml_ad (ml_ad k1 mi (by omega) (by omega)) zj.symm (by omega) (by omega)).trans (by omega)
        rw [tk_nat q4]
        refine ⟨kl_in (by omega) (by unfold tix at q4; omega), fun c => ?_, fun c => h 1 I ⟨g12_74_c0, Or.inr ⟨rfl, t_same T ?_⟩⟩⟩
        · refine g12_74_21 (D := g12_74_T I n lev) B hl k1 zi.symm zj.symm q2 in' jn' (by omega) (by omega) rfl T.1.1 bD a (fun J cg eq => h 1 J ⟨cg, Or.inr ⟨rfl, ?_⟩⟩) n 0 0 I (by decide) (by omega) g12_74_c0 (fun a b _ _ => by rw [if_neg (Nat.not_lt_zero a)])
          rw [← q1]
          exact ttop_eq (fun a b ha hb => (eq a b ha hb).symm) (t_up T in' jn' a)
        · have c := kl_nlt c
          rw [← q1]; exact c
      · have a := kl_nle a
        rw [kl_0, s1, q1] at a
        exact a
    · have a := kl_nlt a
      omega
  refine pg12_74_X5_tighten_0 ⟨fun a => ?_, fun _ => ⟨fun a => ?_, fun _ => main⟩⟩
  · have a := kl_lt.mp a
    rw [kl_0] at a; omega
  · have a := kl_lt.mp a
    rw [Int32.toInt_ofNat_of_lt (by decide), k2] at a
    omega
theorem kG12_74_r : ∀ t, t ∈ kG12_74l → (t.1 = 0 ∧ t.2.1 = 9 ∧ t.2.2 = 12) ∨ (t.1 = 74 ∧ t.2.1 = 4 ∧ t.2.2 = 12) ∨ en_refs kl_tb t.1 t.2.1 = [t.2.2] := by decide +kernel
theorem kG12_74_eq {w : sm_W} (hm : en_mem kl_tb klX w) (h : w.2.2.2 0 9 = some 12) (h2 : w.2.2.2 74 4 = some 12) : kG12_74 w.2.2.2 = w.2.2.2 := by
  funext x j
  unfold kG12_74
  split
  · next t ht =>
    have mem := List.mem_of_find?_eq_some ht
    have pr := List.find?_some ht
    obtain ⟨p1, p2⟩ := Bool.and_eq_true_iff.mp pr
    have e1 : t.1 = x := Nat.eq_of_beq_eq_true p1
    have e2 : t.2.1 = j := Nat.eq_of_beq_eq_true p2
    rcases kG12_74_r t mem with ⟨q1, q2, q3⟩ | ⟨q1, q2, q3⟩ | q
    · rw [← e1, ← e2, q1, q2, q3]; exact h.symm
    · rw [← e1, ← e2, q1, q2, q3]; exact h2.symm
    · obtain ⟨a, g1, g2⟩ := hm.2.2.1 t.1 t.2.1 (by rw [q]; exact List.cons_ne_nil _ _)
      rw [q] at g1
      rw [← e1, ← e2, g2, List.mem_singleton.mp g1]
  · rfl
theorem g12_74_hl {n lev : Nat} {x1 : Int32} (B : g12_74_B I n) (hl : lev * (n * n) + n * n ≤ 7381) (l1 : lev ≤ 100) (h1 : x1.toInt = lev) (h : Φ (some (.int 1), (xLay, I, L, kG12_74 R))) : sm_wp sm_P S d 249 0 [.ref 75, .int x1] [] (xLay, I, L, kG12_74 R) (0, 0) Φ := by
  obtain ⟨b1, b2, b3, b4, b5⟩ := id B
  have nn : 1 ≤ n * n ∧ n * n ≤ 144 := ⟨Nat.mul_le_mul b2 b2, Nat.le_trans (Nat.mul_le_mul b3 b3) (by decide)⟩
  obtain ⟨m1, m2, m3⟩ := kl_lev (x := x1) (A := I 75 5) (by omega) (by omega) (by omega) (by omega)
  have k2 : ((x1 + 1) * I 75 5).toInt = ((lev * (n * n) + n * n : Nat) : Int) := by rw [m2, h1, b4, ← Int.natCast_mul, ← Int.natCast_add]
  refine pg12_74_X5_hasLevel_0 ⟨fun a => ?_, fun _ => ⟨fun a => ?_, fun _ => h⟩⟩
  · have a := kl_lt.mp a
    rw [kl_0] at a; omega
  · have a := kl_lt.mp a
    rw [Int32.toInt_ofNat_of_lt (by decide), k2] at a
    omega
theorem g12_74_cp {n lev : Nat} {x1 : Int32} (B : g12_74_B I n) (hl : (lev + 1) * (n * n) + n * n ≤ 7381) (l1 : lev ≤ 90) (h1 : x1.toInt = lev) (h : ∀ J, g12_74_c n (lev + 1) I J → (∀ i j, i < n → j < n → g12_74_T J n (lev + 1) i j = g12_74_T I n lev i j) → Φ (none, (xLay, J, L, kG12_74 R))) : sm_wp sm_P S (d + 1) 248 0 [.ref 75, .int x1] [] (xLay, I, L, kG12_74 R) (0, 0) Φ := by
  obtain ⟨b1, b2, b3, b4, b5⟩ := id B
  have nn : 1 ≤ n * n ∧ n * n ≤ 144 := ⟨Nat.mul_le_mul b2 b2, Nat.le_trans (Nat.mul_le_mul b3 b3) (by decide)⟩
  obtain ⟨m1, m2, m3⟩ := kl_lev (x := x1) (A := I 75 5) (by omega) (by omega) (by omega) (by omega)
  have sl : (lev + 1) * (n * n) = lev * (n * n) + n * n := Nat.succ_mul lev (n * n)
  have k1 : (x1 * I 75 5).toInt = ((lev * (n * n) : Nat) : Int) := by rw [m1, h1, b4]; exact (Int.natCast_mul _ _).symm
  have k2 : ((x1 + 1) * I 75 5).toInt = (((lev + 1) * (n * n) : Nat) : Int) := by rw [m2, h1, b4, sl, ← Int.natCast_mul, ← Int.natCast_add]
  refine pg12_74_X5_copyUp_0 (g12_74_hl B (by omega) (by omega) h1 ⟨_, I, L, rfl, fun z => absurd z (by decide), fun _ => g12_74_hl (lev := lev + 1) B hl (by omega) (by rw [m3, h1]; omega) ⟨_, I, L, rfl, fun z => absurd z (by decide), fun _ n7 e7 => ?_⟩⟩)
  have q7 : n7.toInt = (((lev + 1) * (n * n) : Nat) : Int) := by rw [e7]; exact k2
  have t7 := tk_nat q7
  have t1 := tk_nat k1
  have t5 := tk_nat b4
  refine ⟨⟨fun q => ?_, fun q => ?_, fun q => ?_, by rw [t1, t5]; omega, by rw [t7, t5]; omega⟩, fun I8 e8 => ?_⟩
  · have q := kl_lt.mp q
    rw [kl_0, k1] at q; omega
  · have q := kl_lt.mp q
    rw [kl_0, q7] at q; omega
  · have q := kl_lt.mp q
    rw [kl_0, b4] at q; omega
  rw [t1, t7, t5] at e8
  have oth : ∀ p j, p ≠ 76 → I8 p j = I p j := fun p j hp => by rw [e8]; unfold sm_row; rw [if_neg hp]
  have row : ∀ j, I8 76 j = va_cpy (I 76) (I 76) (lev * (n * n)) ((lev + 1) * (n * n)) (n * n) j := fun j => by rw [e8]; unfold sm_row; rw [if_pos rfl]
  refine h I8 (fun p q hq => ?_) (fun i j hi hj => ?_)
  · by_cases e : p = 76
    · subst e
      rw [row]
      unfold va_cpy
      rw [if_neg (by omega)]
    · exact oth p q e
  · have t := tix_lt hi hj
    unfold g12_74_T tix
    rw [row]
    unfold va_cpy
    rw [if_pos (by omega)]
    rw [show lev * (n * n) + ((lev + 1) * (n * n) + i * n + j - (lev + 1) * (n * n)) = lev * (n * n) + i * n + j by omega]
theorem g12_74_hn {n i : Nat} {x1 : Int32} (B : g12_74_B I n) (h1 : x1.toInt = i) (in_ : i < n) (h : Φ (some (.int 1), (xLay, I, L, kG12_74 R))) : sm_wp sm_P S d 250 0 [.ref 75, .int x1] [] (xLay, I, L, kG12_74 R) (0, 0) Φ := by
  refine pg12_74_X5_hasNode_0 ⟨fun a => ?_, fun _ => ⟨fun a => ?_, fun _ => h⟩⟩
  · have a := kl_lt.mp a
    rw [kl_0] at a; omega
  · have a := kl_le.mp a
    rw [B.1] at a
    omega
theorem g12_74_rc {n lev i j : Nat} {x1 x2 x3 : Int32} (B : g12_74_B I n) (hl : lev * (n * n) + n * n ≤ 7381) (l1 : lev ≤ 100) (h1 : x1.toInt = lev) (hi : x2.toInt = i) (hj : x3.toInt = j) (in_ : i < n) (jn : j < n) (h : Φ (some (.int (I 76 (tix n lev i j))), (xLay, I, L, kG12_74 R))) : sm_wp sm_P S (d + 1) 255 0 [.ref 75, .int x1, .int x2, .int x3] [] (xLay, I, L, kG12_74 R) (0, 0) Φ := by
  obtain ⟨b1, b2, b3, b4, b5⟩ := id B
  have nn : 1 ≤ n * n ∧ n * n ≤ 144 := ⟨Nat.mul_le_mul b2 b2, Nat.le_trans (Nat.mul_le_mul b3 b3) (by decide)⟩
  obtain ⟨m1, m2, m3⟩ := kl_lev (x := x1) (A := I 75 5) (by omega) (by omega) (by omega) (by omega)
  have k1 : (x1 * I 75 5).toInt = ((lev * (n * n) : Nat) : Int) := by rw [m1, h1, b4]; exact (Int.natCast_mul _ _).symm
  have rowi : i * n + n ≤ n * n := by
    have := Nat.mul_le_mul_right n (show i + 1 ≤ n by omega)
    rw [Nat.succ_mul] at this
    exact this
  have mi : (x2 * I 75 4).toInt = ((i * n : Nat) : Int) := by
    have := ml_mu hi b1 (by rw [← Int.natCast_mul]; omega) (by rw [← Int.natCast_mul]; omega)
    rw [this, Int.natCast_mul]
  refine pg12_74_X5_reach_0 (g12_74_hl B hl l1 h1 ⟨_, I, L, rfl, fun z => absurd z (by decide), fun _ => g12_74_hn B hi in_ ⟨_, I, L, rfl, fun z => absurd z (by decide), fun _ => g12_74_hn B hj jn ⟨_, I, L, rfl, fun z => absurd z (by decide), fun _ n10 e10 => ?_⟩⟩⟩)
  have q : n10.toInt = ((tix n lev i j : Nat) : Int) := by rw [e10]; unfold tix; exact (ml_ad (ml_ad k1 mi (by omega) (by omega)) hj (by omega) (by omega)).trans (by omega)
  rw [tk_nat q]
  exact ⟨kl_in (by omega) (by unfold tix at q; omega), h⟩
def g12_74_bv (a b : Nat) : Int32 := if a = 0 ∨ a = b then 0 else 1440
def g12_74_bf (n : Nat) (I J : sm_I) : Prop := ∀ p q, ¬ (p = 75 ∧ (q = 4 ∨ q = 5)) → ¬ (p = 76 ∧ q < n * n) → p ≠ 77 → p ≠ 78 → p ≠ 79 → J p q = I p q
def g12_74_bs (n : Nat) (I J : sm_I) (i j : Nat) : Prop := g12_74_bf n I J ∧ (J 75 4).toInt = n ∧ (J 75 5).toInt = ((n * n : Nat) : Int) ∧ (∀ a, a < i → J 77 a = Int32.ofNat a ∧ J 78 a = 0 ∧ J 79 a = 0) ∧ ∀ a b, a < n → b < n → (a < i ∧ (a + 1 < i ∨ b < j)) → J 76 (a * n + b) = g12_74_bv a b
theorem g12_74_bl {n : Nat} {x1 : Int32} (h1 : x1.toInt = n) (n1 : 1 ≤ n) (nw : n ≤ 11) (h : ∀ J, g12_74_bf n I J → g12_74_B J n → (∀ a, a < n → J 77 a = Int32.ofNat a ∧ J 78 a = 0 ∧ J 79 a = 0) → ttop n [] (g12_74_T J n 0) → Φ (none, (xLay, J, L, kG12_74 R))) : sm_wp sm_P S d 247 0 [.ref 75, .int x1] [] (xLay, I, L, kG12_74 R) (0, 0) Φ := by
  have nn : 1 ≤ n * n ∧ n * n ≤ 144 := ⟨Nat.mul_le_mul n1 n1, Nat.le_trans (Nat.mul_le_mul nw nw) (by decide)⟩
  have mm : (x1 * x1).toInt = ((n * n : Nat) : Int) := by
    have := ml_mu h1 h1 (by rw [← Int.natCast_mul]; omega) (by rw [← Int.natCast_mul]; omega)
    rw [this, Int.natCast_mul]
  have outer : ∀ (k i : Nat) (x2 : Int32) (J : sm_I), x2.toInt = i → i + k = n → g12_74_bs n I J i n → sm_wp sm_P S d 247 4 [.ref 75, .int x2] [] (xLay, J, L, kG12_74 R) (0, 0) Φ := by
    intro k
    induction k with
    | zero =>
      intro i x2 J h2 hk st
      obtain ⟨s1, s2, s3, s4, s5⟩ := st
      refine pg12_74_X5_blank_4 ⟨fun _ => h J s1 ⟨s2, n1, nw, s3, fun a ha => ?_⟩ (fun a ha => s4 a (by omega)) (ttop_eq (fun a b ha hb => ?_) (t_0 n)), fun a => ?_⟩
      · obtain ⟨g1, g2, g3⟩ := s4 a (by omega)
        rw [g1, g2, g3, Int32.toInt_ofNat_of_lt (by omega), kl_0]
        omega
      · unfold g12_74_T tix tD0
        rw [show 0 * (n * n) + a * n + b = a * n + b by omega, s5 a b ha hb (by omega)]
        unfold g12_74_bv
        split <;> decide
      · have a := kl_nle a
        omega
    | succ k ih =>
      intro i x2 J h2 hk st
      obtain ⟨s1, s2, s3, s4, s5⟩ := st
      have ss := ml_in1 (x := x2) (by omega)
      have p2 := tk_nat h2
      have v : vp_in x2 11 := kl_in (by omega) (by omega)
      have ex : x2 = Int32.ofNat i := en_ofI (by rw [h2, Int32.toInt_ofNat_of_lt (by omega)])
      have inner : ∀ (l j : Nat) (x3 : Int32) (J : sm_I), x3.toInt = j → j + l = n → g12_74_bs n I J (i + 1) j → sm_wp sm_P S d 247 6 [.ref 75, .int x2, .int x3] [] (xLay, J, L, kG12_74 R) (0, 0) Φ := by
        intro l
        induction l with
        | zero =>
          intro j x3 J h3 hl st
          have ej : j = n := by omega
          subst ej
          refine pg12_74_X5_blank_6 ⟨fun _ => ih (i + 1) _ J (by omega) (by omega) st, fun a => ?_⟩
          have a := kl_nle a
          rw [st.2.1] at a
          omega
        | succ l il =>
          intro j x3 J h3 hl st
          obtain ⟨s1, s2, s3, s4, s5⟩ := st
          have s33 := ml_in1 (x := x3) (by omega)
          have rowi : i * n + n ≤ n * n := by
            have := Nat.mul_le_mul_right n (show i + 1 ≤ n by omega)
            rw [Nat.succ_mul] at this
            exact this
          have mi : (x2 * J 75 4).toInt = ((i * n : Nat) : Int) := by
            have := ml_mu h2 s2 (by rw [← Int.natCast_mul]; omega) (by rw [← Int.natCast_mul]; omega)
            rw [this, Int.natCast_mul]
          have q : (x2 * J 75 4 + x3).toInt = ((i * n + j : Nat) : Int) := (ml_ad mi h3 (by omega) (by omega)).trans (by omega)
          have vq : vp_in (x2 * J 75 4 + x3) 7381 := kl_in (by omega) (by omega)
          have nx : ∀ (w : Int32) (I2 : sm_I), I2 = sm_up J 76 (x2 * J 75 4 + x3).toNatClampNeg w → w = g12_74_bv i j → sm_wp sm_P S d 247 6 [.ref 75, .int x2, .int (x3 + (1 : Int32))] [] (xLay, I2, L, kG12_74 R) (0, 0) Φ := fun w I2 e ew => by
            rw [tk_nat q] at e
            have o : ∀ p t, ¬ (p = 76 ∧ t = i * n + j) → I2 p t = J p t := fun p t hp => by rw [e, en_up_ne _ _ _ _ hp]
            refine il (j + 1) _ I2 (by omega) (by omega) ⟨fun p t a1 a2 a3 a4 a5 => (o p t (by omega)).trans (s1 p t a1 a2 a3 a4 a5), by rw [o _ _ (by omega)]; exact s2, by rw [o _ _ (by omega)]; exact s3, fun a ha => by rw [o _ _ (by omega), o _ _ (by omega), o _ _ (by omega)]; exact s4 a ha, fun a b ha hb hab => ?_⟩
            by_cases c : a = i ∧ b = j
            · rw [c.1, c.2, e, en_up_eq]; exact ew
            · have ne : a * n + b ≠ i * n + j := fun q => by
                have := (tix_inj (lev := 0) (lev' := 0) ha hb (show i < n by omega) (show j < n by omega) (by unfold tix; omega)).2
                exact c this
              rw [o _ _ (by omega)]
              exact s5 a b ha hb (by omega)
          refine pg12_74_X5_blank_6 ⟨fun a => ?_, fun _ => ⟨fun c => ⟨vq, fun I1 e => nx 0 I1 e ?_⟩, fun c => ⟨fun c2 => ⟨vq, fun I3 e => nx 0 I3 e ?_⟩, fun c2 => ⟨vq, fun I2 e => nx 1440 I2 e ?_⟩⟩⟩⟩
          · have a := kl_le.mp a
            rw [s2] at a
            omega
          · have : i = 0 := by rw [c, kl_0] at h2; omega
            exact (if_pos (Or.inl this)).symm
          · have : i = j := by rw [c2] at h2; omega
            exact (if_pos (Or.inr this)).symm
          · have i0 : i ≠ 0 := fun q => c (en_ofI (by rw [h2, q]; decide))
            have ij : i ≠ j := fun q => c2 (en_ofI (by rw [h2, h3, q]))
            exact (if_neg (by omega)).symm
      refine pg12_74_X5_blank_4 ⟨fun a => ?_, fun _ => ⟨v, fun I1 e1 => ⟨v, fun I2 e2 => ⟨v, fun I3 e3 => ?_⟩⟩⟩⟩
      · have a := kl_le.mp a
        rw [s2] at a
        omega
      rw [p2] at e1 e2 e3
      have o : ∀ p t, ¬ (t = i ∧ (p = 77 ∨ p = 78 ∨ p = 79)) → I3 p t = J p t := fun p t hp => by rw [e3, en_up_ne _ _ _ _ (by omega), e2, en_up_ne _ _ _ _ (by omega), e1, en_up_ne _ _ _ _ (by omega)]
      refine inner n 0 0 I3 (by decide) (by omega) ⟨fun p t a1 a2 a3 a4 a5 => (o p t (by omega)).trans (s1 p t a1 a2 a3 a4 a5), by rw [o _ _ (by omega)]; exact s2, by rw [o _ _ (by omega)]; exact s3, fun a ha => ?_, fun a b ha hb hab => by rw [o _ _ (by omega)]; exact s5 a b ha hb (by omega)⟩
      by_cases c : a = i
      · rw [c]
        refine ⟨?_, ?_, ?_⟩
        · rw [e3, en_up_ne _ _ _ _ (by omega), e2, en_up_ne _ _ _ _ (by omega), e1, en_up_eq]; exact ex
        · rw [e3, en_up_ne _ _ _ _ (by omega), e2, en_up_eq]
        · rw [e3, en_up_eq]
      · rw [o _ _ (by omega), o _ _ (by omega), o _ _ (by omega)]; exact s4 a (by omega)
  refine pg12_74_X5_blank_0 ⟨fun a => ?_, fun _ => ⟨fun _ I1 e1 => ?_, fun a => ?_⟩⟩
  · have a := kl_lt.mp a
    rw [kl_1] at a; omega
  · refine outer n 0 0 I1 (by decide) (by omega) ⟨fun p q a1 _ _ _ _ => by rw [e1, en_up_ne _ _ _ _ (by omega), en_up_ne _ _ _ _ (by omega)], by rw [e1, en_up_ne _ _ _ _ (by omega), en_up_eq]; exact h1, by rw [e1, en_up_eq]; exact mm, fun a ha => absurd ha (Nat.not_lt_zero a), fun a b _ _ hab => absurd hab.1 (Nat.not_lt_zero a)⟩
  · have a := kl_nle a
    rw [Int32.toInt_ofNat_of_lt (by decide)] at a
    omega
/-- both ways -/
theorem g12_74_bind {n lev i j : Nat} {x1 x2 x3 x4 x5 : Int32} {C : List tC} (B : g12_74_B I n) (hl : lev * (n * n) + n * n ≤ 7381) (l1 : lev ≤ 100) (h1 : x1.toInt = lev) (hi : (x2 + 1).toInt = i) (hj : (x3 + 1).toInt = j) (in_ : i < n) (jn : j < n) (a0 : -9000 ≤ x4.toInt) (a1 : x4.toInt ≤ 9000) (b0 : -9000 ≤ x5.toInt) (b1 : x5.toInt ≤ 9000) (T : ttop n C (g12_74_T I n lev)) (h : ∀ r J, g12_74_R lev n (bC (g12_74_hd I) i j x4.toInt x5.toInt ++ C) I r J → Φ (some (.int r), (xLay, J, L, kG12_74 R))) : sm_wp sm_P S (d + 2) 221 0 [.ref 74, .int x1, .int x2, .int x3, .int x4, .int x5] [] (xLay, I, L, kG12_74 R) (0, 0) Φ := by
  have na : (-x4).toInt = -x4.toInt := by rw [Int32.toInt_neg]; exact en_bmod (by omega) (by omega) (Or.inl rfl)
  refine pg12_74_X2_bind_0 (g12_74_tighten (d := d) B hl l1 h1 hi hj in_ jn (by omega) (by omega) T (fun r J q => ⟨r, J, L, rfl, ?_, ?_⟩))
  · intro r0
    obtain ⟨cg, ⟨-, q⟩ | ⟨r1, -⟩⟩ := q
    · exact h 0 J ⟨cg, Or.inl ⟨rfl, tno_cg (fun c hc => List.mem_cons_of_mem _ hc) q⟩⟩
    · rw [r0] at r1; exact absurd r1 (by decide)
  · intro r0
    obtain ⟨cg, ⟨r1, -⟩ | ⟨-, q⟩⟩ := q
    · exact absurd r1 r0
    · obtain ⟨Bj, ej⟩ := g12_74_Bc cg B
      refine g12_74_tighten (d := d) Bj hl l1 h1 hj hi jn in_ (by omega) (by omega) q (fun r2 J2 q2 => ⟨r2, J2, L, rfl, ?_, ?_⟩)
      · intro r0
        rw [na, ej] at q2
        obtain ⟨cg2, ⟨-, q2⟩ | ⟨r1, -⟩⟩ := q2
        · exact h 0 J2 ⟨g12_74_ct cg cg2, Or.inl ⟨rfl, q2⟩⟩
        · rw [r0] at r1; exact absurd r1 (by decide)
      · intro r0
        rw [na, ej] at q2
        obtain ⟨cg2, ⟨r1, -⟩ | ⟨-, q2⟩⟩ := q2
        · exact absurd r1 r0
        · exact h 1 J2 ⟨g12_74_ct cg cg2, Or.inr ⟨rfl, q2⟩⟩
end
end
