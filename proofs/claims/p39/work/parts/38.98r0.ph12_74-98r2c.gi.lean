section
/-! more conditions of the class; told = 12, going = 74 (wip/pe/symg3.py) -/
def kF12_74l : List (Nat × Nat × Nat) := [(0, 0, 1), (0, 1, 2), (0, 2, 37), (0, 3, 45), (0, 4, 74), (0, 5, 82), (0, 6, 90), (0, 7, 98), (0, 8, 103), (12, 7, 13), (12, 8, 14), (12, 9, 15), (12, 10, 16), (12, 11, 21), (12, 12, 22), (12, 13, 23), (12, 14, 24), (12, 15, 29), (12, 16, 34), (12, 17, 35), (12, 18, 36), (16, 0, 17), (16, 1, 18), (16, 2, 19), (16, 3, 20), (24, 0, 25), (24, 1, 26), (24, 2, 27), (24, 3, 28), (29, 0, 30), (29, 1, 31), (29, 2, 32), (29, 3, 33), (37, 2, 38), (37, 3, 39), (37, 4, 40), (40, 0, 41), (40, 1, 42), (40, 2, 43), (40, 3, 44), (45, 0, 46), (45, 1, 47), (45, 2, 48), (74, 0, 75), (74, 2, 80), (74, 3, 81), (74, 5, 37), (75, 0, 76), (75, 1, 77), (75, 2, 78), (75, 3, 79), (0, 9, 12)]
def kF12_74 (R : sm_R) : sm_R := fun x j => match kF12_74l.find? (fun t => Nat.beq t.1 x && Nat.beq t.2.1 j) with
  | some t => some t.2.2
  | none => R x j
theorem pg12_74_X2_beginF_0 {S : sm_C} {d : Nat} {Φ : sm_Z → Prop} {I : sm_I} {L : sm_L} {R : sm_R} {x3 : Int32} {x4 : Int32} (h : ∀ I1 : sm_I, I1 = (sm_up (sm_up I 74 7 (0 : Int32)) 74 8 (0 : Int32)) → ((x4 ≤ 0 → sm_wp sm_P S d 230 0 [.ref 74, .int x4] [] (xLay, (sm_up I1 74 10 (0 : Int32)), L, (sm_up (sm_up (kF12_74 R) 74 4 (some 12)) 74 5 (some 37))) (0, 0) (fun z => ∃ (I2 : sm_I) (L3 : sm_L), z = (none, (xLay, I2, L3, (sm_up (sm_up (kF12_74 R) 74 4 (some 12)) 74 5 (some 37)))) ∧ sm_wp sm_P S (d + 1) 220 4 [.ref 74, .int x3, .int (0 : Int32)] [] (xLay, (sm_up I2 74 11 (0 : Int32)), L3, (sm_up (sm_up (kF12_74 R) 74 4 (some 12)) 74 5 (some 37))) (0, 0) Φ)) ∧ (¬ x4 ≤ 0 → sm_wp sm_P S d 230 0 [.ref 74, .int x4] [] (xLay, (sm_up I1 74 10 (1 : Int32)), L, (sm_up (sm_up (kF12_74 R) 74 4 (some 12)) 74 5 (some 37))) (0, 0) (fun z => ∃ (I6 : sm_I) (L7 : sm_L), z = (none, (xLay, I6, L7, (sm_up (sm_up (kF12_74 R) 74 4 (some 12)) 74 5 (some 37)))) ∧ sm_wp sm_P S (d + 1) 220 4 [.ref 74, .int x3, .int (0 : Int32)] [] (xLay, (sm_up I6 74 11 (0 : Int32)), L7, (sm_up (sm_up (kF12_74 R) 74 4 (some 12)) 74 5 (some 37))) (0, 0) Φ)))) : sm_wp sm_P S (d + 1) 220 0 [.ref 74, .ref 12, .ref 37, .int x3, .int x4] [] (xLay, I, L, (kF12_74 R)) (0, 0) Φ := sm_wp_step (⟨fun q10 => ⟨Or.inl rfl, sm_cv0 ((((h _ rfl)).1 q10)) (fun I2 L3 q5 => q5)⟩, fun q10 => ⟨Or.inr rfl, sm_cv0 ((((h _ rfl)).2 q10)) (fun I6 L7 q9 => q9)⟩⟩)
theorem pg12_74v22_X11_valueAt_0 {S : sm_C} {d : Nat} {Φ : sm_Z → Prop} {I : sm_I} {L : sm_L} {R : sm_R} {x1 : Int32} {x2 : Int32} (h : ((x1 < 0 → Φ (some (.int x2), (xLay, I, L, (kG12_74 R)))) ∧ (¬ x1 < 0 → (((Int32.ofNat 10) ≤ x1 → Φ (some (.int x2), (xLay, I, L, (kG12_74 R)))) ∧ (¬ (Int32.ofNat 10) ≤ x1 → (vp_in x1 10) ∧ Φ (some (.int (I 22 x1.toNatClampNeg)), (xLay, I, L, (kG12_74 R)))))))) : sm_wp sm_P S d 89 0 [.ref 22, .int x1, .int x2] [] (xLay, I, L, (kG12_74 R)) (0, 0) Φ := sm_wp_step (⟨fun q2 => ((h).1 q2), fun q2 => ⟨fun q1 => ((((h).2 q2)).1 q1), fun q1 => ⟨(((((h).2 q2)).2 q1)).1, (((((h).2 q2)).2 q1)).2⟩⟩⟩)
theorem pg12_74v34_X11_valueAt_0 {S : sm_C} {d : Nat} {Φ : sm_Z → Prop} {I : sm_I} {L : sm_L} {R : sm_R} {x1 : Int32} {x2 : Int32} (h : ((x1 < 0 → Φ (some (.int x2), (xLay, I, L, (kG12_74 R)))) ∧ (¬ x1 < 0 → (((Int32.ofNat 45) ≤ x1 → Φ (some (.int x2), (xLay, I, L, (kG12_74 R)))) ∧ (¬ (Int32.ofNat 45) ≤ x1 → (vp_in x1 45) ∧ Φ (some (.int (I 34 x1.toNatClampNeg)), (xLay, I, L, (kG12_74 R)))))))) : sm_wp sm_P S d 89 0 [.ref 34, .int x1, .int x2] [] (xLay, I, L, (kG12_74 R)) (0, 0) Φ := sm_wp_step (⟨fun q2 => ((h).1 q2), fun q2 => ⟨fun q1 => ((((h).2 q2)).1 q1), fun q1 => ⟨(((((h).2 q2)).2 q1)).1, (((((h).2 q2)).2 q1)).2⟩⟩⟩)
theorem pg12_74v35_X11_valueAt_0 {S : sm_C} {d : Nat} {Φ : sm_Z → Prop} {I : sm_I} {L : sm_L} {R : sm_R} {x1 : Int32} {x2 : Int32} (h : ((x1 < 0 → Φ (some (.int x2), (xLay, I, L, (kG12_74 R)))) ∧ (¬ x1 < 0 → (((Int32.ofNat 45) ≤ x1 → Φ (some (.int x2), (xLay, I, L, (kG12_74 R)))) ∧ (¬ (Int32.ofNat 45) ≤ x1 → (vp_in x1 45) ∧ Φ (some (.int (I 35 x1.toNatClampNeg)), (xLay, I, L, (kG12_74 R)))))))) : sm_wp sm_P S d 89 0 [.ref 35, .int x1, .int x2] [] (xLay, I, L, (kG12_74 R)) (0, 0) Φ := sm_wp_step (⟨fun q2 => ((h).1 q2), fun q2 => ⟨fun q1 => ((((h).2 q2)).1 q1), fun q1 => ⟨(((((h).2 q2)).2 q1)).1, (((((h).2 q2)).2 q1)).2⟩⟩⟩)
theorem pg12_74v36_X11_valueAt_0 {S : sm_C} {d : Nat} {Φ : sm_Z → Prop} {I : sm_I} {L : sm_L} {R : sm_R} {x1 : Int32} {x2 : Int32} (h : ((x1 < 0 → Φ (some (.int x2), (xLay, I, L, (kG12_74 R)))) ∧ (¬ x1 < 0 → (((Int32.ofNat 45) ≤ x1 → Φ (some (.int x2), (xLay, I, L, (kG12_74 R)))) ∧ (¬ (Int32.ofNat 45) ≤ x1 → (vp_in x1 45) ∧ Φ (some (.int (I 36 x1.toNatClampNeg)), (xLay, I, L, (kG12_74 R)))))))) : sm_wp sm_P S d 89 0 [.ref 36, .int x1, .int x2] [] (xLay, I, L, (kG12_74 R)) (0, 0) Φ := sm_wp_step (⟨fun q2 => ((h).1 q2), fun q2 => ⟨fun q1 => ((((h).2 q2)).1 q1), fun q1 => ⟨(((((h).2 q2)).2 q1)).1, (((((h).2 q2)).2 q1)).2⟩⟩⟩)
theorem pg12_74_X10_firstSpan_0 {S : sm_C} {d : Nat} {Φ : sm_Z → Prop} {I : sm_I} {L : sm_L} {R : sm_R} {x1 : Int32} {x2 : Int32} (h : Φ (some (.int (((x1 * (4 : Int32)) + x2) * (3 : Int32))), (xLay, I, L, (kG12_74 R)))) : sm_wp sm_P S d 19 0 [.ref 12, .int x1, .int x2] [] (xLay, I, L, (kG12_74 R)) (0, 0) Φ := sm_wp_step (h)
theorem pg12_74_X10_partsOf_0 {S : sm_C} {d : Nat} {Φ : sm_Z → Prop} {I : sm_I} {L : sm_L} {R : sm_R} {x1 : Int32} {x2 : Int32} (h : ((((x1 * (4 : Int32)) + x2) < 0 → Φ (some (.int (0 : Int32)), (xLay, I, L, (kG12_74 R)))) ∧ (¬ ((x1 * (4 : Int32)) + x2) < 0 → (((Int32.ofNat 40) ≤ ((x1 * (4 : Int32)) + x2) → Φ (some (.int (0 : Int32)), (xLay, I, L, (kG12_74 R)))) ∧ (¬ (Int32.ofNat 40) ≤ ((x1 * (4 : Int32)) + x2) → (vp_in ((x1 * (4 : Int32)) + x2) 40) ∧ Φ (some (.int (I 23 ((x1 * (4 : Int32)) + x2).toNatClampNeg)), (xLay, I, L, (kG12_74 R)))))))) : sm_wp sm_P S d 23 0 [.ref 12, .int x1, .int x2] [] (xLay, I, L, (kG12_74 R)) (0, 0) Φ := sm_wp_step (⟨fun q2 => ((h).1 q2), fun q2 => ⟨fun q1 => ((((h).2 q2)).1 q1), fun q1 => ⟨(((((h).2 q2)).2 q1)).1, (((((h).2 q2)).2 q1)).2⟩⟩⟩)
theorem pg12_74v46_X11_valueAt_0 {S : sm_C} {d : Nat} {Φ : sm_Z → Prop} {I : sm_I} {L : sm_L} {R : sm_R} {x1 : Int32} {x2 : Int32} (h : ((x1 < 0 → Φ (some (.int x2), (xLay, I, L, (kG12_74 R)))) ∧ (¬ x1 < 0 → (((Int32.ofNat 1000) ≤ x1 → Φ (some (.int x2), (xLay, I, L, (kG12_74 R)))) ∧ (¬ (Int32.ofNat 1000) ≤ x1 → (vp_in x1 1000) ∧ Φ (some (.int (I 46 x1.toNatClampNeg)), (xLay, I, L, (kG12_74 R)))))))) : sm_wp sm_P S d 89 0 [.ref 46, .int x1, .int x2] [] (xLay, I, L, (kG12_74 R)) (0, 0) Φ := sm_wp_step (⟨fun q2 => ((h).1 q2), fun q2 => ⟨fun q1 => ((((h).2 q2)).1 q1), fun q1 => ⟨(((((h).2 q2)).2 q1)).1, (((((h).2 q2)).2 q1)).2⟩⟩⟩)
theorem pg12_74_X11_isGoneThrough_0 {S : sm_C} {d : Nat} {Φ : sm_Z → Prop} {I : sm_I} {L : sm_L} {R : sm_R} (h : (((I 0 12) = 0 → sm_wp sm_P S d 15 0 [.ref 12] [] (xLay, I, L, (kF12_74 R)) (0, 0) (fun z => ∃ (r4 : Int32) (I2 : sm_I) (L3 : sm_L), z = (some (.int r4), (xLay, I2, L3, (kF12_74 R))) ∧ ∀ n5 : Int32, n5 = (r4 &&& ((I2 37 0) ^^^ (-1 : Int32))) → sm_wp sm_P S d 220 0 [.ref 74, .ref 12, .ref 37, .int n5, .int (0 : Int32)] [] (xLay, I2, L3, (kF12_74 R)) (0, 0) (fun z => ∃ (I6 : sm_I) (L7 : sm_L), z = (none, (xLay, I6, L7, (kG12_74 R))) ∧ sm_wp sm_P S d 225 0 [.ref 74, .ref 45, .int (0 : Int32)] [] (xLay, I6, L7, (kG12_74 R)) (0, 0) (fun z => ∃ (I9 : sm_I) (L10 : sm_L), z = (none, (xLay, I9, L10, (kG12_74 R))) ∧ ((((sm_up I9 0 12 (1 : Int32)) 74 15) = 0 → Φ (some (.int (1 : Int32)), (xLay, (sm_up I9 0 12 (1 : Int32)), L10, (kG12_74 R)))) ∧ (¬ ((sm_up I9 0 12 (1 : Int32)) 74 15) = 0 → Φ (some (.int (0 : Int32)), (xLay, (sm_up I9 0 12 (1 : Int32)), L10, (kG12_74 R))))))))) ∧ (¬ (I 0 12) = 0 → (((I 74 15) = 0 → Φ (some (.int (1 : Int32)), (xLay, I, L, (kF12_74 R)))) ∧ (¬ (I 74 15) = 0 → Φ (some (.int (0 : Int32)), (xLay, I, L, (kF12_74 R)))))))) : sm_wp sm_P S (d + 1) 56 0 [.ref 0] [] (xLay, I, L, (kF12_74 R)) (0, 0) Φ := sm_wp_step (⟨fun q16 => sm_ci0 (((h).1 q16)) (fun r4 I2 L3 q15 => sm_cv0 ((q15 _ rfl)) (fun I6 L7 q14 => sm_cv0 (q14) (fun I9 L10 q13 => ⟨Or.inr rfl, ⟨fun q12 => ⟨Or.inr rfl, ((q13).1 q12)⟩, fun q12 => ⟨Or.inl rfl, ((q13).2 q12)⟩⟩⟩))), fun q16 => ⟨fun q1 => ⟨Or.inr rfl, ((((h).2 q16)).1 q1)⟩, fun q1 => ⟨Or.inl rfl, ((((h).2 q16)).2 q1)⟩⟩⟩)
theorem pg12_74_X10_allBitsF_0 {S : sm_C} {d : Nat} {Φ : sm_Z → Prop} {I : sm_I} {L : sm_L} {R : sm_R} (h : Φ (some (.int (((1 : Int32) <<< ((I 12 3) &&& 31)) - (1 : Int32))), (xLay, I, L, (kF12_74 R)))) : sm_wp sm_P S d 15 0 [.ref 12] [] (xLay, I, L, (kF12_74 R)) (0, 0) Φ := sm_wp_step (h)
end
section
/-! more conditions of the class; told = 49, going = 74 (wip/pe/symg3.py) -/
def kF49_74l : List (Nat × Nat × Nat) := [(0, 0, 1), (0, 1, 2), (0, 2, 37), (0, 3, 45), (0, 4, 74), (0, 5, 82), (0, 6, 90), (0, 7, 98), (0, 8, 103), (37, 2, 38), (37, 3, 39), (37, 4, 40), (40, 0, 41), (40, 1, 42), (40, 2, 43), (40, 3, 44), (45, 0, 46), (45, 1, 47), (45, 2, 48), (49, 7, 50), (49, 8, 51), (49, 9, 52), (49, 10, 53), (49, 11, 58), (49, 12, 59), (49, 13, 60), (49, 14, 61), (49, 15, 66), (49, 16, 71), (49, 17, 72), (49, 18, 73), (53, 0, 54), (53, 1, 55), (53, 2, 56), (53, 3, 57), (61, 0, 62), (61, 1, 63), (61, 2, 64), (61, 3, 65), (66, 0, 67), (66, 1, 68), (66, 2, 69), (66, 3, 70), (74, 0, 75), (74, 2, 80), (74, 3, 81), (74, 5, 37), (75, 0, 76), (75, 1, 77), (75, 2, 78), (75, 3, 79), (0, 9, 49)]
def kF49_74 (R : sm_R) : sm_R := fun x j => match kF49_74l.find? (fun t => Nat.beq t.1 x && Nat.beq t.2.1 j) with
  | some t => some t.2.2
  | none => R x j
theorem pg49_74_X2_beginF_0 {S : sm_C} {d : Nat} {Φ : sm_Z → Prop} {I : sm_I} {L : sm_L} {R : sm_R} {x3 : Int32} {x4 : Int32} (h : ∀ I1 : sm_I, I1 = (sm_up (sm_up I 74 7 (0 : Int32)) 74 8 (0 : Int32)) → ((x4 ≤ 0 → sm_wp sm_P S d 230 0 [.ref 74, .int x4] [] (xLay, (sm_up I1 74 10 (0 : Int32)), L, (sm_up (sm_up (kF49_74 R) 74 4 (some 49)) 74 5 (some 37))) (0, 0) (fun z => ∃ (I2 : sm_I) (L3 : sm_L), z = (none, (xLay, I2, L3, (sm_up (sm_up (kF49_74 R) 74 4 (some 49)) 74 5 (some 37)))) ∧ sm_wp sm_P S (d + 1) 220 4 [.ref 74, .int x3, .int (0 : Int32)] [] (xLay, (sm_up I2 74 11 (0 : Int32)), L3, (sm_up (sm_up (kF49_74 R) 74 4 (some 49)) 74 5 (some 37))) (0, 0) Φ)) ∧ (¬ x4 ≤ 0 → sm_wp sm_P S d 230 0 [.ref 74, .int x4] [] (xLay, (sm_up I1 74 10 (1 : Int32)), L, (sm_up (sm_up (kF49_74 R) 74 4 (some 49)) 74 5 (some 37))) (0, 0) (fun z => ∃ (I6 : sm_I) (L7 : sm_L), z = (none, (xLay, I6, L7, (sm_up (sm_up (kF49_74 R) 74 4 (some 49)) 74 5 (some 37)))) ∧ sm_wp sm_P S (d + 1) 220 4 [.ref 74, .int x3, .int (0 : Int32)] [] (xLay, (sm_up I6 74 11 (0 : Int32)), L7, (sm_up (sm_up (kF49_74 R) 74 4 (some 49)) 74 5 (some 37))) (0, 0) Φ)))) : sm_wp sm_P S (d + 1) 220 0 [.ref 74, .ref 49, .ref 37, .int x3, .int x4] [] (xLay, I, L, (kF49_74 R)) (0, 0) Φ := sm_wp_step (⟨fun q10 => ⟨Or.inl rfl, sm_cv0 ((((h _ rfl)).1 q10)) (fun I2 L3 q5 => q5)⟩, fun q10 => ⟨Or.inr rfl, sm_cv0 ((((h _ rfl)).2 q10)) (fun I6 L7 q9 => q9)⟩⟩)
theorem pg49_74v59_X11_valueAt_0 {S : sm_C} {d : Nat} {Φ : sm_Z → Prop} {I : sm_I} {L : sm_L} {R : sm_R} {x1 : Int32} {x2 : Int32} (h : ((x1 < 0 → Φ (some (.int x2), (xLay, I, L, (kG49_74 R)))) ∧ (¬ x1 < 0 → (((Int32.ofNat 10) ≤ x1 → Φ (some (.int x2), (xLay, I, L, (kG49_74 R)))) ∧ (¬ (Int32.ofNat 10) ≤ x1 → (vp_in x1 10) ∧ Φ (some (.int (I 59 x1.toNatClampNeg)), (xLay, I, L, (kG49_74 R)))))))) : sm_wp sm_P S d 89 0 [.ref 59, .int x1, .int x2] [] (xLay, I, L, (kG49_74 R)) (0, 0) Φ := sm_wp_step (⟨fun q2 => ((h).1 q2), fun q2 => ⟨fun q1 => ((((h).2 q2)).1 q1), fun q1 => ⟨(((((h).2 q2)).2 q1)).1, (((((h).2 q2)).2 q1)).2⟩⟩⟩)
theorem pg49_74v71_X11_valueAt_0 {S : sm_C} {d : Nat} {Φ : sm_Z → Prop} {I : sm_I} {L : sm_L} {R : sm_R} {x1 : Int32} {x2 : Int32} (h : ((x1 < 0 → Φ (some (.int x2), (xLay, I, L, (kG49_74 R)))) ∧ (¬ x1 < 0 → (((Int32.ofNat 45) ≤ x1 → Φ (some (.int x2), (xLay, I, L, (kG49_74 R)))) ∧ (¬ (Int32.ofNat 45) ≤ x1 → (vp_in x1 45) ∧ Φ (some (.int (I 71 x1.toNatClampNeg)), (xLay, I, L, (kG49_74 R)))))))) : sm_wp sm_P S d 89 0 [.ref 71, .int x1, .int x2] [] (xLay, I, L, (kG49_74 R)) (0, 0) Φ := sm_wp_step (⟨fun q2 => ((h).1 q2), fun q2 => ⟨fun q1 => ((((h).2 q2)).1 q1), fun q1 => ⟨(((((h).2 q2)).2 q1)).1, (((((h).2 q2)).2 q1)).2⟩⟩⟩)
theorem pg49_74v72_X11_valueAt_0 {S : sm_C} {d : Nat} {Φ : sm_Z → Prop} {I : sm_I} {L : sm_L} {R : sm_R} {x1 : Int32} {x2 : Int32} (h : ((x1 < 0 → Φ (some (.int x2), (xLay, I, L, (kG49_74 R)))) ∧ (¬ x1 < 0 → (((Int32.ofNat 45) ≤ x1 → Φ (some (.int x2), (xLay, I, L, (kG49_74 R)))) ∧ (¬ (Int32.ofNat 45) ≤ x1 → (vp_in x1 45) ∧ Φ (some (.int (I 72 x1.toNatClampNeg)), (xLay, I, L, (kG49_74 R)))))))) : sm_wp sm_P S d 89 0 [.ref 72, .int x1, .int x2] [] (xLay, I, L, (kG49_74 R)) (0, 0) Φ := sm_wp_step (⟨fun q2 => ((h).1 q2), fun q2 => ⟨fun q1 => ((((h).2 q2)).1 q1), fun q1 => ⟨(((((h).2 q2)).2 q1)).1, (((((h).2 q2)).2 q1)).2⟩⟩⟩)
theorem pg49_74v73_X11_valueAt_0 {S : sm_C} {d : Nat} {Φ : sm_Z → Prop} {I : sm_I} {L : sm_L} {R : sm_R} {x1 : Int32} {x2 : Int32} (h : ((x1 < 0 → Φ (some (.int x2), (xLay, I, L, (kG49_74 R)))) ∧ (¬ x1 < 0 → (((Int32.ofNat 45) ≤ x1 → Φ (some (.int x2), (xLay, I, L, (kG49_74 R)))) ∧ (¬ (Int32.ofNat 45) ≤ x1 → (vp_in x1 45) ∧ Φ (some (.int (I 73 x1.toNatClampNeg)), (xLay, I, L, (kG49_74 R)))))))) : sm_wp sm_P S d 89 0 [.ref 73, .int x1, .int x2] [] (xLay, I, L, (kG49_74 R)) (0, 0) Φ := sm_wp_step (⟨fun q2 => ((h).1 q2), fun q2 => ⟨fun q1 => ((((h).2 q2)).1 q1), fun q1 => ⟨(((((h).2 q2)).2 q1)).1, (((((h).2 q2)).2 q1)).2⟩⟩⟩)
theorem pg49_74_X10_firstSpan_0 {S : sm_C} {d : Nat} {Φ : sm_Z → Prop} {I : sm_I} {L : sm_L} {R : sm_R} {x1 : Int32} {x2 : Int32} (h : Φ (some (.int (((x1 * (4 : Int32)) + x2) * (3 : Int32))), (xLay, I, L, (kG49_74 R)))) : sm_wp sm_P S d 19 0 [.ref 49, .int x1, .int x2] [] (xLay, I, L, (kG49_74 R)) (0, 0) Φ := sm_wp_step (h)
theorem pg49_74_X10_partsOf_0 {S : sm_C} {d : Nat} {Φ : sm_Z → Prop} {I : sm_I} {L : sm_L} {R : sm_R} {x1 : Int32} {x2 : Int32} (h : ((((x1 * (4 : Int32)) + x2) < 0 → Φ (some (.int (0 : Int32)), (xLay, I, L, (kG49_74 R)))) ∧ (¬ ((x1 * (4 : Int32)) + x2) < 0 → (((Int32.ofNat 40) ≤ ((x1 * (4 : Int32)) + x2) → Φ (some (.int (0 : Int32)), (xLay, I, L, (kG49_74 R)))) ∧ (¬ (Int32.ofNat 40) ≤ ((x1 * (4 : Int32)) + x2) → (vp_in ((x1 * (4 : Int32)) + x2) 40) ∧ Φ (some (.int (I 60 ((x1 * (4 : Int32)) + x2).toNatClampNeg)), (xLay, I, L, (kG49_74 R)))))))) : sm_wp sm_P S d 23 0 [.ref 49, .int x1, .int x2] [] (xLay, I, L, (kG49_74 R)) (0, 0) Φ := sm_wp_step (⟨fun q2 => ((h).1 q2), fun q2 => ⟨fun q1 => ((((h).2 q2)).1 q1), fun q1 => ⟨(((((h).2 q2)).2 q1)).1, (((((h).2 q2)).2 q1)).2⟩⟩⟩)
theorem pg49_74v46_X11_valueAt_0 {S : sm_C} {d : Nat} {Φ : sm_Z → Prop} {I : sm_I} {L : sm_L} {R : sm_R} {x1 : Int32} {x2 : Int32} (h : ((x1 < 0 → Φ (some (.int x2), (xLay, I, L, (kG49_74 R)))) ∧ (¬ x1 < 0 → (((Int32.ofNat 1000) ≤ x1 → Φ (some (.int x2), (xLay, I, L, (kG49_74 R)))) ∧ (¬ (Int32.ofNat 1000) ≤ x1 → (vp_in x1 1000) ∧ Φ (some (.int (I 46 x1.toNatClampNeg)), (xLay, I, L, (kG49_74 R)))))))) : sm_wp sm_P S d 89 0 [.ref 46, .int x1, .int x2] [] (xLay, I, L, (kG49_74 R)) (0, 0) Φ := sm_wp_step (⟨fun q2 => ((h).1 q2), fun q2 => ⟨fun q1 => ((((h).2 q2)).1 q1), fun q1 => ⟨(((((h).2 q2)).2 q1)).1, (((((h).2 q2)).2 q1)).2⟩⟩⟩)
theorem pg49_74_X11_isGoneThrough_0 {S : sm_C} {d : Nat} {Φ : sm_Z → Prop} {I : sm_I} {L : sm_L} {R : sm_R} (h : (((I 0 12) = 0 → sm_wp sm_P S d 15 0 [.ref 49] [] (xLay, I, L, (kF49_74 R)) (0, 0) (fun z => ∃ (r4 : Int32) (I2 : sm_I) (L3 : sm_L), z = (some (.int r4), (xLay, I2, L3, (kF49_74 R))) ∧ ∀ n5 : Int32, n5 = (r4 &&& ((I2 37 0) ^^^ (-1 : Int32))) → sm_wp sm_P S d 220 0 [.ref 74, .ref 49, .ref 37, .int n5, .int (0 : Int32)] [] (xLay, I2, L3, (kF49_74 R)) (0, 0) (fun z => ∃ (I6 : sm_I) (L7 : sm_L), z = (none, (xLay, I6, L7, (kG49_74 R))) ∧ sm_wp sm_P S d 225 0 [.ref 74, .ref 45, .int (0 : Int32)] [] (xLay, I6, L7, (kG49_74 R)) (0, 0) (fun z => ∃ (I9 : sm_I) (L10 : sm_L), z = (none, (xLay, I9, L10, (kG49_74 R))) ∧ ((((sm_up I9 0 12 (1 : Int32)) 74 15) = 0 → Φ (some (.int (1 : Int32)), (xLay, (sm_up I9 0 12 (1 : Int32)), L10, (kG49_74 R)))) ∧ (¬ ((sm_up I9 0 12 (1 : Int32)) 74 15) = 0 → Φ (some (.int (0 : Int32)), (xLay, (sm_up I9 0 12 (1 : Int32)), L10, (kG49_74 R))))))))) ∧ (¬ (I 0 12) = 0 → (((I 74 15) = 0 → Φ (some (.int (1 : Int32)), (xLay, I, L, (kF49_74 R)))) ∧ (¬ (I 74 15) = 0 → Φ (some (.int (0 : Int32)), (xLay, I, L, (kF49_74 R)))))))) : sm_wp sm_P S (d + 1) 56 0 [.ref 0] [] (xLay, I, L, (kF49_74 R)) (0, 0) Φ := sm_wp_step (⟨fun q16 => sm_ci0 (((h).1 q16)) (fun r4 I2 L3 q15 => sm_cv0 ((q15 _ rfl)) (fun I6 L7 q14 => sm_cv0 (q14) (fun I9 L10 q13 => ⟨Or.inr rfl, ⟨fun q12 => ⟨Or.inr rfl, ((q13).1 q12)⟩, fun q12 => ⟨Or.inl rfl, ((q13).2 q12)⟩⟩⟩))), fun q16 => ⟨fun q1 => ⟨Or.inr rfl, ((((h).2 q16)).1 q1)⟩, fun q1 => ⟨Or.inl rfl, ((((h).2 q16)).2 q1)⟩⟩⟩)
theorem pg49_74_X10_allBitsF_0 {S : sm_C} {d : Nat} {Φ : sm_Z → Prop} {I : sm_I} {L : sm_L} {R : sm_R} (h : Φ (some (.int (((1 : Int32) <<< ((I 49 3) &&& 31)) - (1 : Int32))), (xLay, I, L, (kF49_74 R)))) : sm_wp sm_P S d 15 0 [.ref 49] [] (xLay, I, L, (kF49_74 R)) (0, 0) Φ := sm_wp_step (h)
end
section
/-! the class's net, exact; told = 12, going = 74 (wip/pe/mkg1.py) -/
section
variable {S : sm_C} {d : Nat} {Φ : sm_Z → Prop} {I : sm_I} {L : sm_L} {R : sm_R}
def g12_74_T (I : sm_I) (n lev i j : Nat) : Int := (I 76 (tix n lev i j)).toInt
def g12_74_c (n lev : Nat) (I J : sm_I) : Prop := ∀ p q, ¬ (p = 76 ∧ lev * (n * n) ≤ q ∧ q < lev * (n * n) + n * n) → J p q = I p q
theorem g12_74_c0 {n lev : Nat} {I : sm_I} : g12_74_c n lev I I := fun _ _ _ => rfl
theorem g12_74_ct {n lev : Nat} {I J K : sm_I} (a : g12_74_c n lev I J) (b : g12_74_c n lev J K) : g12_74_c n lev I K := fun p q h => (b p q h).trans (a p q h)
theorem g12_74_row {n r re : Nat} {x1 x2 x3 : Int32} {I0 : sm_I} (hn : (I0 75 4).toInt = n) (h1 : x1.toInt = r) (h3 : x3.toInt = re) (r7 : r + n ≤ 7381) (re7 : re + n ≤ 7381) (ds : r + n ≤ re ∨ re + n ≤ r) (y0 : -116000 ≤ x2.toInt) (y1 : x2.toInt ≤ 116000) (be : ∀ q, q < n → -1440 ≤ (I0 76 (re + q)).toInt ∧ (I0 76 (re + q)).toInt ≤ 1440) (h : ∀ J, (∀ p j, ¬ (p = 76 ∧ r ≤ j ∧ j < r + n) → J p j = I0 p j) → (∀ q, q < n → (J 76 (r + q)).toInt = if x2.toInt + (I0 76 (re + q)).toInt < (I0 76 (r + q)).toInt then x2.toInt + (I0 76 (re + q)).toInt else (I0 76 (r + q)).toInt) → Φ (none, (xLay, J, L, kG12_74 R))) : sm_wp sm_P S d 257 0 [.ref 75, .int x1, .int x2, .int x3] [] (xLay, I0, L, kG12_74 R) (0, 0) Φ := by
  have lp : ∀ (k i : Nat) (x4 : Int32) (J : sm_I), x4.toInt = i → i + k = n → (∀ p j, ¬ (p = 76 ∧ r ≤ j ∧ j < r + i) → J p j = I0 p j) → (∀ q, q < i → (J 76 (r + q)).toInt = if x2.toInt + (I0 76 (re + q)).toInt < (I0 76 (r + q)).toInt then x2.toInt + (I0 76 (re + q)).toInt else (I0 76 (r + q)).toInt) → sm_wp sm_P S d 257 1 [.ref 75, .int x1, .int x2, .int x3, .int x4] [] (xLay, J, L, kG12_74 R) (0, 0) Φ := by
    intro k
    induction k with
    | zero =>
      intro i x4 J h4 hk o v
      have e4 : J 75 4 = I0 75 4 := o 75 4 (by omega)
      have ei : i = n := by omega
      subst ei
      refine pg12_74_X5_tightenRow_1 ⟨fun _ => h J o v, fun a => ?_⟩
      have a := kl_nle a
      rw [e4] at a
      omega
    | succ k ih =>
      intro i x4 J h4 hk o v
      have e4 : J 75 4 = I0 75 4 := o 75 4 (by omega)
      have s4 := ml_in1 (x := x4) (by omega)
      have q1 : (x3 + x4).toInt = ((re + i : Nat) : Int) := (ml_ad h3 h4 (by omega) (by omega)).trans (by omega)
      have q2 : (x1 + x4).toInt = ((r + i : Nat) : Int) := (ml_ad h1 h4 (by omega) (by omega)).trans (by omega)
      have oe : J 76 (re + i) = I0 76 (re + i) := o _ _ (by omega)
      have or_ : J 76 (r + i) = I0 76 (r + i) := o _ _ (by omega)
      have b := be i (by omega)
      refine pg12_74_X5_tightenRow_1 ⟨fun a => ?_, fun _ => ⟨kl_in (by omega) (by omega), fun n1 e1 => ⟨kl_in (by omega) (by omega), ?_⟩⟩⟩
      · have a := kl_le.mp a
        rw [e4] at a
        omega
      rw [tk_nat q1, oe] at e1
      rw [tk_nat q2, or_]
      have s1 : n1.toInt = x2.toInt + (I0 76 (re + i)).toInt := by rw [e1]; exact ml_ad rfl rfl (by omega) (by omega)
      refine ⟨fun c => ?_, fun c => ⟨kl_in (by omega) (by omega), fun I2 e2 => ?_⟩⟩
      · have c := kl_le.mp c
        refine ih (i + 1) _ J (by omega) (by omega) (fun p j hp => o p j (by omega)) (fun q hq => ?_)
        by_cases e : q = i
        · rw [e, or_, if_neg (by omega)]
        · exact v q (by omega)
      · have c := kl_nle c
        refine ih (i + 1) _ I2 (by omega) (by omega) (fun p j hp => by rw [e2, en_up_ne _ _ _ _ (by omega)]; exact o p j (by omega)) (fun q hq => ?_)
        by_cases e : q = i
        · rw [e, e2, en_up_eq, if_pos (by omega), s1]
        · rw [e2, en_up_ne _ _ _ _ (by omega)]; exact v q (by omega)
  exact pg12_74_X5_tightenRow_0 (lp n 0 0 I0 (by decide) (by omega) (fun _ _ _ => rfl) (fun q hq => absurd hq (Nat.not_lt_zero q)))
/-- who stands for a node, and by how much behind it is -/
def g12_74_hd (I : sm_I) (c : tC) : tC := if c.1 = c.2.1 then c else ((I 77 c.1).toNatClampNeg, (I 77 c.2.1).toNatClampNeg, c.2.2 - (I 79 c.1).toInt + (I 78 c.2.1).toInt)
def g12_74_hok (I : sm_I) (n : Nat) : Prop := ∀ i, i < n → (0 ≤ (I 77 i).toInt ∧ (I 77 i).toInt < n) ∧ (-1440 ≤ (I 78 i).toInt ∧ (I 78 i).toInt ≤ 1440) ∧ (-1440 ≤ (I 79 i).toInt ∧ (I 79 i).toInt ≤ 1440)
/-- what a call needs of the net -/
def g12_74_B (I : sm_I) (n : Nat) : Prop := (I 75 4).toInt = n ∧ 1 ≤ n ∧ n ≤ 11 ∧ (I 75 5).toInt = ((n * n : Nat) : Int) ∧ g12_74_hok I n
theorem g12_74_Bc {n lev : Nat} {I J : sm_I} (h : g12_74_c n lev I J) (b : g12_74_B I n) : g12_74_B J n ∧ g12_74_hd J = g12_74_hd I := by
  obtain ⟨b1, b2, b3, b4, b5⟩ := b
  refine ⟨⟨by rw [h 75 4 (by omega)]; exact b1, b2, b3, by rw [h 75 5 (by omega)]; exact b4, fun i hi => by rw [h 77 i (by omega), h 78 i (by omega), h 79 i (by omega)]; exact b5 i hi⟩, ?_⟩
  funext c
  unfold g12_74_hd
  rw [h 77 c.1 (by omega), h 77 c.2.1 (by omega), h 79 c.1 (by omega), h 78 c.2.1 (by omega)]
def g12_74_R (lev n : Nat) (C : List tC) (I : sm_I) (r : Int32) (J : sm_I) : Prop := g12_74_c n lev I J ∧ ((r = 0 ∧ tno n C) ∨ (r = 1 ∧ ttop n C (g12_74_T J n lev)))
theorem g12_74_21 {n lev i j : Nat} {x6 x7 x8 x9 x10 : Int32} {I0 : sm_I} {D : Nat → Nat → Int} (B : g12_74_B I0 n) (hl : lev * (n * n) + n * n ≤ 7381) (h7 : x7.toInt = ((lev * (n * n) : Nat) : Int)) (h8 : x8.toInt = i) (h9 : x9.toInt = j) (h10 : x10.toInt = ((lev * (n * n) + j * n : Nat) : Int)) (in_ : i < n) (jn : j < n) (w0 : -113000 ≤ x6.toInt) (w1 : x6.toInt ≤ 113000) (eD : D = g12_74_T I0 n lev) (cl : tcl n D) (bD : ∀ a b, a < n → b < n → -1440 ≤ D a b ∧ D a b ≤ 1440) (k : 0 ≤ D j i + x6.toInt) (h : ∀ J, g12_74_c n lev I0 J → (∀ a b, a < n → b < n → g12_74_T J n lev a b = tU D i j x6.toInt a b) → Φ (some (.int 1), (xLay, J, L, kG12_74 R))) : ∀ (m p : Nat) (x11 : Int32) (J : sm_I), x11.toInt = p → p + m = n → g12_74_c n lev I0 J → (∀ a b, a < n → b < n → g12_74_T J n lev a b = if a < p then tU D i j x6.toInt a b else D a b) → sm_wp sm_P S (d + 1) 256 21 [.ref 75, .int x6, .int x7, .int x8, .int x9, .int x10, .int x11] [] (xLay, J, L, kG12_74 R) (0, 0) Φ := by
  have te := tU_e (n := n) (D := D) k
  have lt := fun (a b : Nat) (ha : a < n) (hb : b < n) => tix_lt ha hb
  intro m
  induction m with
  | zero =>
    intro p x11 J h11 hm cg T
    have e4 : J 75 4 = I0 75 4 := cg 75 4 (by omega)
    refine pg12_74_X5_tighten_21 ⟨fun _ => h J cg (fun a b ha hb => by rw [T a b ha hb, if_pos (by omega)]), fun a => ?_⟩
    have a := kl_nle a
    rw [e4, B.1] at a
    omega
  | succ m ih =>
    intro p x11 J h11 hm cg T
    have pn : p < n := by omega
    have e4 : J 75 4 = I0 75 4 := cg 75 4 (by omega)
    have n11 := B.2.2.1
    have s11 := ml_in1 (x := x11) (by omega)
    have rowp : p * n + n ≤ n * n := by
      have := Nat.mul_le_mul_right n (show p + 1 ≤ n by omega)
      rw [Nat.succ_mul] at this
      exact this
    have rowj : j * n + n ≤ n * n := by
      have := Nat.mul_le_mul_right n (show j + 1 ≤ n by omega)
      rw [Nat.succ_mul] at this
      exact this
    have mp : (x11 * (J 75 4)).toInt = ((p * n : Nat) : Int) := by
      rw [e4]
      have := ml_mu h11 B.1 (by rw [← Int.natCast_mul]; omega) (by rw [← Int.natCast_mul]; omega)
      rw [this, Int.natCast_mul]
    have a7 : (x7 + x11 * (J 75 4)).toInt = ((lev * (n * n) + p * n : Nat) : Int) := (ml_ad h7 mp (by omega) (by omega)).trans (by omega)
    refine pg12_74_X5_tighten_21 ⟨fun a => ?_, fun _ n1 e1 => ?_⟩
    · have a := kl_le.mp a
      rw [e4, B.1] at a
      omega
    have q1 : n1.toInt = ((tix n lev p i : Nat) : Int) := by rw [e1]; unfold tix; exact (ml_ad a7 h8 (by omega) (by omega)).trans (by omega)
    have t1 := lt p i pn in_
    have t3 := lt p j pn jn
    refine ⟨kl_in (by omega) (by unfold tix at q1; omega), fun n2 e2 n3 e3 => ?_⟩
    have q3 : n3.toInt = ((tix n lev p j : Nat) : Int) := by rw [e3]; unfold tix; exact (ml_ad a7 h9 (by omega) (by omega)).trans (by omega)
    rw [tk_nat q1] at e2
    have d1 : (J 76 (tix n lev p i)).toInt = D p i := by
      have g := T p i pn in_
      rw [if_neg (by omega)] at g
      exact g
    have d3 : (J 76 (tix n lev p j)).toInt = D p j := by
      have g := T p j pn jn
      rw [if_neg (by omega)] at g
      exact g
    have bi := bD p i pn in_
    have q2 : n2.toInt = D p i + x6.toInt := by rw [e2]; exact ml_ad d1 rfl (by omega) (by omega)
    rw [tk_nat q3]
    refine ⟨kl_in (by omega) (by unfold tix at q3; omega), fun c => ?_, fun c => ?_⟩
    · have c := kl_le.mp c
      rw [d3, q2] at c
      refine ih (p + 1) _ J (by omega) (by omega) cg (fun a b ha hb => ?_)
      rw [T a b ha hb]
      by_cases e : a = p
      · rw [if_neg (by omega), if_pos (by omega), e, tU_s cl jn pn c b hb]
      · by_cases e2 : a < p
        · rw [if_pos e2, if_pos (by omega)]
        · rw [if_neg e2, if_neg (by omega)]
    · have c := kl_nle c
      rw [d3, q2] at c
      have pj : p ≠ j := fun e => by
        rw [e] at c
        have := cl.1 j jn
        omega
      have sep : p * n + n ≤ j * n ∨ j * n + n ≤ p * n := by
        rcases Nat.lt_or_ge p j with u | u
        · left
          have := Nat.mul_le_mul_right n (show p + 1 ≤ j by omega)
          rw [Nat.succ_mul] at this
          exact this
        · right
          have := Nat.mul_le_mul_right n (show j + 1 ≤ p by omega)
          rw [Nat.succ_mul] at this
          exact this
      have rj : ∀ q, q < n → (J 76 (lev * (n * n) + j * n + q)).toInt = D j q := fun q hq => by
        have g := T j q jn hq
        rw [te.1 q] at g
        rw [show (J 76 (lev * (n * n) + j * n + q)).toInt = g12_74_T J n lev j q from rfl, g]
        split <;> rfl
      have rp : ∀ q, q < n → (J 76 (lev * (n * n) + p * n + q)).toInt = D p q := fun q hq => by
        have g := T p q pn hq
        rw [if_neg (by omega)] at g
        exact g
      refine g12_74_row (r := lev * (n * n) + p * n) (re := lev * (n * n) + j * n) (by rw [e4]; exact B.1) a7 h10 (by omega) (by omega) (by omega) (by omega) (by omega) (fun q hq => by rw [rj q hq]; exact bD j q jn hq) (fun J2 o v => ⟨J2, L, rfl, ?_⟩)
      refine ih (p + 1) _ J2 (by omega) (by omega) (fun x y hx => (o x y (by omega)).trans (cg x y hx)) (fun a b ha hb => ?_)
      by_cases e : a = p
      · rw [if_pos (by omega), e]
        show (J2 76 (lev * (n * n) + p * n + b)).toInt = _
        rw [v b hb, rj b hb, rp b hb, q2]
        unfold tU
        have e5 : D p i + x6.toInt + D j b = D p i + x6.toInt + D j b := rfl
        rfl
      · have ea : g12_74_T J2 n lev a b = g12_74_T J n lev a b := by
          unfold g12_74_T
          rw [o _ _ (fun q => ?_)]
          have sa : a * n + n ≤ p * n ∨ p * n + n ≤ a * n := by
            rcases Nat.lt_or_ge a p with u | u
            · left
              have := Nat.mul_le_mul_right n (show a + 1 ≤ p by omega)
              rw [Nat.succ_mul] at this
              exact this
            · right
              have := Nat.mul_le_mul_right n (show p + 1 ≤ a by omega)
              rw [Nat.succ_mul] at this
              exact this
          unfold tix at q
          omega
        rw [ea, T a b ha hb]
        by_cases e2 : a < p
        · rw [if_pos e2, if_pos (by omega)]
        · rw [if_neg e2, if_neg (by omega)]
theorem g12_74_tighten {n lev i j : Nat} {x1 x2 x3 x4 : Int32} {C : List tC} (B : g12_74_B I n) (hl : lev * (n * n) + n * n ≤ 7381) (l1 : lev ≤ 100) (h1 : x1.toInt = lev) (hi : x2.toInt = i) (hj : x3.toInt = j) (in_ : i < n) (jn : j < n) (w0 : -110000 ≤ x4.toInt) (w1 : x4.toInt ≤ 110000) (T : ttop n C (g12_74_T I n lev)) (h : ∀ r J, g12_74_R lev n (g12_74_hd I (i, j, x4.toInt) :: C) I r J → Φ (some (.int r), (xLay, J, L, kG12_74 R))) : sm_wp sm_P S (d + 1) 256 0 [.ref 75, .int x1, .int x2, .int x3, .int x4] [] (xLay, I, L, kG12_74 R) (0, 0) Φ := by
  obtain ⟨b1, b2, b3, b4, b5⟩ := id B
  have nn : 1 ≤ n * n ∧ n * n ≤ 144 := ⟨Nat.mul_le_mul b2 b2, Nat.le_trans (Nat.mul_le_mul b3 b3) (by decide)⟩
  obtain ⟨m1, m2, m3⟩ := kl_lev (x := x1) (A := I 75 5) (by omega) (by omega) (by omega) (by omega)
  have k1 : (x1 * I 75 5).toInt = ((lev * (n * n) : Nat) : Int) := by rw [m1, h1, b4]; exact (Int.natCast_mul _ _).symm
  have k2 : ((x1 + 1) * I 75 5).toInt = ((lev * (n * n) + n * n : Nat) : Int) := by rw [m2, h1, b4, ← Int.natCast_mul, ← Int.natCast_add]
  have bD := ttop_b T
  have main : sm_wp sm_P S (d + 1) 256 4 [.ref 75, .int x1, .int x2, .int x3, .int x4] [.int (1 : Int32)] (xLay, I, L, kG12_74 R) (0, 0) Φ := by
    refine pg12_74_X5_tighten_4 ⟨fun e => absurd e (by decide), fun _ => ⟨fun a => ?_, fun _ => ⟨fun a => ?_, fun _ => ⟨fun a => ?_, fun _ => ⟨fun _ => ⟨fun e => ?_, fun e => ?_⟩, fun a => ?_⟩⟩⟩⟩⟩
    · have a := kl_lt.mp a
      rw [kl_0] at a; omega
    · have a := kl_le.mp a
      omega
    · have a := kl_lt.mp a
      rw [kl_0] at a; omega
    · have eij : i = j := by rw [e] at hi; omega
      have er : g12_74_hd I (i, j, x4.toInt) = (i, j, x4.toInt) := if_pos eij
      rw [er] at h
      have z := T.1.1.1 i in_
      refine ⟨fun a => h 0 I ⟨g12_74_c0, Or.inl ⟨rfl, t_no T in_ jn ?_⟩⟩, fun a => h 1 I ⟨g12_74_c0, Or.inr ⟨rfl, t_same T ?_⟩⟩⟩
      · have a := kl_lt.mp a
        rw [kl_0] at a
        rw [← eij, z]; omega
      · have a := kl_nlt0 a
        rw [← eij, z]; exact a
    · have nij : i ≠ j := fun q => e (en_ofI (by rw [hi, hj, q]))
      have er : g12_74_hd I (i, j, x4.toInt) = ((I 77 i).toNatClampNeg, (I 77 j).toNatClampNeg, x4.toInt - (I 79 i).toInt + (I 78 j).toInt) := if_neg nij
      rw [er] at h
      obtain ⟨si, ni, fi⟩ := b5 i in_
      obtain ⟨sj, nj, fj⟩ := b5 j jn
      have zi := kl_nat si.1
      have zj := kl_nat sj.1
      obtain ⟨i', ei'⟩ : ∃ i', i' = (I 77 i).toNatClampNeg := ⟨_, rfl⟩
      obtain ⟨j', ej'⟩ : ∃ j', j' = (I 77 j).toNatClampNeg := ⟨_, rfl⟩
      rw [← ei', ← ej'] at h
      rw [← ei'] at zi
      rw [← ej'] at zj
      have in' : i' < n := by omega
      have jn' : j' < n := by omega
      have px := tk_nat hi
      have py := tk_nat hj
      have vx : vp_in x2 11 := kl_in (by omega) (by omega)
      have vy : vp_in x3 11 := kl_in (by omega) (by omega)
      rw [px, py]
      refine ⟨vx, vy, fun n1 e1 => ⟨vx, vy, fun n2 e2 n3 e3 => ?_⟩⟩
      have q1 : n1.toInt = x4.toInt - (I 79 i).toInt + (I 78 j).toInt := by
        rw [e1]
        refine ml_ad ?_ rfl (by omega) (by omega)
        rw [Int32.toInt_sub]
        exact en_bmod (by omega) (by omega) (Or.inl rfl)
      have rowj : j' * n + n ≤ n * n := by
        have := Nat.mul_le_mul_right n (show j' + 1 ≤ n by omega)
        rw [Nat.succ_mul] at this
        exact this
      have rowi : i' * n + n ≤ n * n := by
        have := Nat.mul_le_mul_right n (show i' + 1 ≤ n by omega)
        rw [Nat.succ_mul] at this
        exact this
      have mj : (I 77 j * I 75 4).toInt = ((j' * n : Nat) : Int) := by
        have := ml_mu (a := (j' : Int)) (b := (n : Int)) zj.symm b1 (by rw [← Int.natCast_mul]; omega) (by rw [← Int.natCast_mul]; omega)
        rw [this, Int.natCast_mul]
      have mi : (I 77 i * I 75 4).toInt = ((i' * n : Nat) : Int) := by
        have := ml_mu (a := (i' : Int)) (b := (n : Int)) zi.symm b1 (by rw [← Int.natCast_mul]; omega) (by rw [← Int.natCast_mul]; omega)
        rw [this, Int.natCast_mul]
      have q2 : n2.toInt = ((lev * (n * n) + j' * n : Nat) : Int) := by rw [e2]; exact (ml_ad k1 mj (by omega) (by omega)).trans (by omega)
      have q3 : n3.toInt = ((tix n lev j' i' : Nat) : Int) := by rw [e3]; unfold tix; exact (ml_ad q2 zi.symm (by omega) (by omega)).trans (by omega)
      rw [tk_nat q3]
      have bji := bD j' i' jn' in'
      have s1 : (I 76 (tix n lev j' i') + n1).toInt = g12_74_T I n lev j' i' + n1.toInt := ml_ad rfl rfl (by omega) (by omega)
      refine ⟨kl_in (by omega) (by unfold tix at q3; omega), fun a n4 e4 => ?_, fun a => h 0 I ⟨g12_74_c0, Or.inl ⟨rfl, t_no T in' jn' ?_⟩⟩⟩
      · have a := kl_le.mp a
        rw [kl_0, s1] at a
        have q4 : n4.toInt = ((tix n lev i' j' : Nat) : Int) := by rw [e4]; unfold tix; exact (ml_ad (ml_ad k1 mi (by omega) (by omega)) zj.symm (by omega) (by omega)).trans (by omega)
        rw [tk_nat q4]
        refine ⟨kl_in (by omega) (by unfold tix at q4; omega), fun c => ?_, fun c => h 1 I ⟨g12_74_c0, Or.inr ⟨rfl, t_same T ?_⟩⟩⟩
        · refine g12_74_21 (D := g12_74_T I n lev) B hl k1 zi.symm zj.symm q2 in' jn' (by omega) (by omega) rfl T.1.1 bD a (fun J cg eq => h 1 J ⟨cg, Or.inr ⟨rfl, ?_⟩⟩) n 0 0 I (by decide) (by omega) g12_74_c0 (fun a b _ _ => by rw [if_neg (Nat.not_lt_zero a)])
          rw [← q1]
          exact ttop_eq (fun a b ha hb => (eq a b ha hb).symm) (t_up T in' jn' a)
        · have c := kl_nlt c
          rw [← q1]; exact c
      · have a := kl_nle a
        rw [kl_0, s1, q1] at a
        exact a
    · have a := kl_nlt a
      omega
  refine pg12_74_X5_tighten_0 ⟨fun a => ?_, fun _ => ⟨fun a => ?_, fun _ => main⟩⟩
  · have a := kl_lt.mp a
    rw [kl_0] at a; omega
  · have a := kl_lt.mp a
    rw [Int32.toInt_ofNat_of_lt (by decide), k2] at a
    omega
theorem kG12_74_r : ∀ t, t ∈ kG12_74l → (t.1 = 0 ∧ t.2.1 = 9 ∧ t.2.2 = 12) ∨ (t.1 = 74 ∧ t.2.1 = 4 ∧ t.2.2 = 12) ∨ en_refs kl_tb t.1 t.2.1 = [t.2.2] := by decide +kernel
theorem kG12_74_eq {w : sm_W} (hm : en_mem kl_tb klX w) (h : w.2.2.2 0 9 = some 12) (h2 : w.2.2.2 74 4 = some 12) : kG12_74 w.2.2.2 = w.2.2.2 := by
  funext x j
  unfold kG12_74
  split
  · next t ht =>
    have mem := List.mem_of_find?_eq_some ht
    have pr := List.find?_some ht
    obtain ⟨p1, p2⟩ := Bool.and_eq_true_iff.mp pr
    have e1 : t.1 = x := Nat.eq_of_beq_eq_true p1
    have e2 : t.2.1 = j := Nat.eq_of_beq_eq_true p2
    rcases kG12_74_r t mem with ⟨q1, q2, q3⟩ | ⟨q1, q2, q3⟩ | q
    · rw [← e1, ← e2, q1, q2, q3]; exact h.symm
    · rw [← e1, ← e2, q1, q2, q3]; exact h2.symm
    · obtain ⟨a, g1, g2⟩ := hm.2.2.1 t.1 t.2.1 (by rw [q]; exact List.cons_ne_nil _ _)
      rw [q] at g1
      rw [← e1, ← e2, g2, List.mem_singleton.mp g1]
  · rfl
theorem g12_74_hl {n lev : Nat} {x1 : Int32} (B : g12_74_B I n) (hl : lev * (n * n) + n * n ≤ 7381) (l1 : lev ≤ 100) (h1 : x1.toInt = lev) (h : Φ (some (.int 1), (xLay, I, L, kG12_74 R))) : sm_wp sm_P S d 249 0 [.ref 75, .int x1] [] (xLay, I, L, kG12_74 R) (0, 0) Φ := by
  obtain ⟨b1, b2, b3, b4, b5⟩ := id B
  have nn : 1 ≤ n * n ∧ n * n ≤ 144 := ⟨Nat.mul_le_mul b2 b2, Nat.le_trans (Nat.mul_le_mul b3 b3) (by decide)⟩
  obtain ⟨m1, m2, m3⟩ := kl_lev (x := x1) (A := I 75 5) (by omega) (by omega) (by omega) (by omega)
  have k2 : ((x1 + 1) * I 75 5).toInt = ((lev * (n * n) + n * n : Nat) : Int) := by rw [m2, h1, b4, ← Int.natCast_mul, ← Int.natCast_add]
  refine pg12_74_X5_hasLevel_0 ⟨fun a => ?_, fun _ => ⟨fun a => ?_, fun _ => h⟩⟩
  · have a := kl_lt.mp a
    rw [kl_0] at a; omega
  · have a := kl_lt.mp a
    rw [Int32.toInt_ofNat_of_lt (by decide), k2] at a
    omega
theorem g12_74_cp {n lev : Nat} {x1 : Int32} (B : g12_74_B I n) (hl : (lev + 1) * (n * n) + n * n ≤ 7381) (l1 : lev ≤ 90) (h1 : x1.toInt = lev) (h : ∀ J, g12_74_c n (lev + 1) I J → (∀ i j, i < n → j < n → g12_74_T J n (lev + 1) i j = g12_74_T I n lev i j) → Φ (none, (xLay, J, L, kG12_74 R))) : sm_wp sm_P S (d + 1) 248 0 [.ref 75, .int x1] [] (xLay, I, L, kG12_74 R) (0, 0) Φ := by
  obtain ⟨b1, b2, b3, b4, b5⟩ := id B
  have nn : 1 ≤ n * n ∧ n * n ≤ 144 := ⟨Nat.mul_le_mul b2 b2, Nat.le_trans (Nat.mul_le_mul b3 b3) (by decide)⟩
  obtain ⟨m1, m2, m3⟩ := kl_lev (x := x1) (A := I 75 5) (by omega) (by omega) (by omega) (by omega)
  have sl : (lev + 1) * (n * n) = lev * (n * n) + n * n := Nat.succ_mul lev (n * n)
  have k1 : (x1 * I 75 5).toInt = ((lev * (n * n) : Nat) : Int) := by rw [m1, h1, b4]; exact (Int.natCast_mul _ _).symm
  have k2 : ((x1 + 1) * I 75 5).toInt = (((lev + 1) * (n * n) : Nat) : Int) := by rw [m2, h1, b4, sl, ← Int.natCast_mul, ← Int.natCast_add]
  refine pg12_74_X5_copyUp_0 (g12_74_hl B (by omega) (by omega) h1 ⟨_, I, L, rfl, fun z => absurd z (by decide), fun _ => g12_74_hl (lev := lev + 1) B hl (by omega) (by rw [m3, h1]; omega) ⟨_, I, L, rfl, fun z => absurd z (by decide), fun _ n7 e7 => ?_⟩⟩)
  have q7 : n7.toInt = (((lev + 1) * (n * n) : Nat) : Int) := by rw [e7]; exact k2
  have t7 := tk_nat q7
  have t1 := tk_nat k1
  have t5 := tk_nat b4
  refine ⟨⟨fun q => ?_, fun q => ?_, fun q => ?_, by rw [t1, t5]; omega, by rw [t7, t5]; omega⟩, fun I8 e8 => ?_⟩
  · have q := kl_lt.mp q
    rw [kl_0, k1] at q; omega
  · have q := kl_lt.mp q
    rw [kl_0, q7] at q; omega
  · have q := kl_lt.mp q
    rw [kl_0, b4] at q; omega
  rw [t1, t7, t5] at e8
  have oth : ∀ p j, p ≠ 76 → I8 p j = I p j := fun p j hp => by rw [e8]; unfold sm_row; rw [if_neg hp]
  have row : ∀ j, I8 76 j = va_cpy (I 76) (I 76) (lev * (n * n)) ((lev + 1) * (n * n)) (n * n) j := fun j => by rw [e8]; unfold sm_row; rw [if_pos rfl]
  refine h I8 (fun p q hq => ?_) (fun i j hi hj => ?_)
  · by_cases e : p = 76
    · subst e
      rw [row]
      unfold va_cpy
      rw [if_neg (by omega)]
    · exact oth p q e
  · have t := tix_lt hi hj
    unfold g12_74_T tix
    rw [row]
    unfold va_cpy
    rw [if_pos (by omega)]
    rw [show lev * (n * n) + ((lev + 1) * (n * n) + i * n + j - (lev + 1) * (n * n)) = lev * (n * n) + i * n + j by omega]
theorem g12_74_hn {n i : Nat} {x1 : Int32} (B : g12_74_B I n) (h1 : x1.toInt = i) (in_ : i < n) (h : Φ (some (.int 1), (xLay, I, L, kG12_74 R))) : sm_wp sm_P S d 250 0 [.ref 75, .int x1] [] (xLay, I, L, kG12_74 R) (0, 0) Φ := by
  refine pg12_74_X5_hasNode_0 ⟨fun a => ?_, fun _ => ⟨fun a => ?_, fun _ => h⟩⟩
  · have a := kl_lt.mp a
    rw [kl_0] at a; omega
  · have a := kl_le.mp a
    rw [B.1] at a
    omega
theorem g12_74_rc {n lev i j : Nat} {x1 x2 x3 : Int32} (B : g12_74_B I n) (hl : lev * (n * n) + n * n ≤ 7381) (l1 : lev ≤ 100) (h1 : x1.toInt = lev) (hi : x2.toInt = i) (hj : x3.toInt = j) (in_ : i < n) (jn : j < n) (h : Φ (some (.int (I 76 (tix n lev i j))), (xLay, I, L, kG12_74 R))) : sm_wp sm_P S (d + 1) 255 0 [.ref 75, .int x1, .int x2, .int x3] [] (xLay, I, L, kG12_74 R) (0, 0) Φ := by
  obtain ⟨b1, b2, b3, b4, b5⟩ := id B
  have nn : 1 ≤ n * n ∧ n * n ≤ 144 := ⟨Nat.mul_le_mul b2 b2, Nat.le_trans (Nat.mul_le_mul b3 b3) (by decide)⟩
  obtain ⟨m1, m2, m3⟩ := kl_lev (x := x1) (A := I 75 5) (by omega) (by omega) (by omega) (by omega)
  have k1 : (x1 * I 75 5).toInt = ((lev * (n * n) : Nat) : Int) := by rw [m1, h1, b4]; exact (Int.natCast_mul _ _).symm
  have rowi : i * n + n ≤ n * n := by
    have := Nat.mul_le_mul_right n (show i + 1 ≤ n by omega)
    rw [Nat.succ_mul] at this
    exact this
  have mi : (x2 * I 75 4).toInt = ((i * n : Nat) : Int) := by
    have := ml_mu hi b1 (by rw [← Int.natCast_mul]; omega) (by rw [← Int.natCast_mul]; omega)
    rw [this, Int.natCast_mul]
  refine pg12_74_X5_reach_0 (g12_74_hl B hl l1 h1 ⟨_, I, L, rfl, fun z => absurd z (by decide), fun _ => g12_74_hn B hi in_ ⟨_, I, L, rfl, fun z => absurd z (by decide), fun _ => g12_74_hn B hj jn ⟨_, I, L, rfl, fun z => absurd z (by decide), fun _ n10 e10 => ?_⟩⟩⟩)
  have q : n10.toInt = ((tix n lev i j : Nat) : Int) := by rw [e10]; unfold tix; exact (ml_ad (ml_ad k1 mi (by omega) (by omega)) hj (by omega) (by omega)).trans (by omega)
  rw [tk_nat q]
  exact ⟨kl_in (by omega) (by unfold tix at q; omega), h⟩
def g12_74_bv (a b : Nat) : Int32 := if a = 0 ∨ a = b then 0 else 1440
def g12_74_bf (n : Nat) (I J : sm_I) : Prop := ∀ p q, ¬ (p = 75 ∧ (q = 4 ∨ q = 5)) → ¬ (p = 76 ∧ q < n * n) → p ≠ 77 → p ≠ 78 → p ≠ 79 → J p q = I p q
def g12_74_bs (n : Nat) (I J : sm_I) (i j : Nat) : Prop := g12_74_bf n I J ∧ (J 75 4).toInt = n ∧ (J 75 5).toInt = ((n * n : Nat) : Int) ∧ (∀ a, a < i → J 77 a = Int32.ofNat a ∧ J 78 a = 0 ∧ J 79 a = 0) ∧ ∀ a b, a < n → b < n → (a < i ∧ (a + 1 < i ∨ b < j)) → J 76 (a * n + b) = g12_74_bv a b
theorem g12_74_bl {n : Nat} {x1 : Int32} (h1 : x1.toInt = n) (n1 : 1 ≤ n) (nw : n ≤ 11) (h : ∀ J, g12_74_bf n I J → g12_74_B J n → (∀ a, a < n → J 77 a = Int32.ofNat a ∧ J 78 a = 0 ∧ J 79 a = 0) → ttop n [] (g12_74_T J n 0) → Φ (none, (xLay, J, L, kG12_74 R))) : sm_wp sm_P S d 247 0 [.ref 75, .int x1] [] (xLay, I, L, kG12_74 R) (0, 0) Φ := by
  have nn : 1 ≤ n * n ∧ n * n ≤ 144 := ⟨Nat.mul_le_mul n1 n1, Nat.le_trans (Nat.mul_le_mul nw nw) (by decide)⟩
  have mm : (x1 * x1).toInt = ((n * n : Nat) : Int) := by
    have := ml_mu h1 h1 (by rw [← Int.natCast_mul]; omega) (by rw [← Int.natCast_mul]; omega)
    rw [this, Int.natCast_mul]
  have outer : ∀ (k i : Nat) (x2 : Int32) (J : sm_I), x2.toInt = i → i + k = n → g12_74_bs n I J i n → sm_wp sm_P S d 247 4 [.ref 75, .int x2] [] (xLay, J, L, kG12_74 R) (0, 0) Φ := by
    intro k
    induction k with
    | zero =>
      intro i x2 J h2 hk st
      obtain ⟨s1, s2, s3, s4, s5⟩ := st
      refine pg12_74_X5_blank_4 ⟨fun _ => h J s1 ⟨s2, n1, nw, s3, fun a ha => ?_⟩ (fun a ha => s4 a (by omega)) (ttop_eq (fun a b ha hb => ?_) (t_0 n)), fun a => ?_⟩
      · obtain ⟨g1, g2, g3⟩ := s4 a (by omega)
        rw [g1, g2, g3, Int32.toInt_ofNat_of_lt (by omega), kl_0]
        omega
      · unfold g12_74_T tix tD0
        rw [show 0 * (n * n) + a * n + b = a * n + b by omega, s5 a b ha hb (by omega)]
        unfold g12_74_bv
        split <;> decide
      · have a := kl_nle a
        omega
    | succ k ih =>
      intro i x2 J h2 hk st
      obtain ⟨s1, s2, s3, s4, s5⟩ := st
      have ss := ml_in1 (x := x2) (by omega)
      have p2 := tk_nat h2
      have v : vp_in x2 11 := kl_in (by omega) (by omega)
      have ex : x2 = Int32.ofNat i := en_ofI (by rw [h2, Int32.toInt_ofNat_of_lt (by omega)])
      have inner : ∀ (l j : Nat) (x3 : Int32) (J : sm_I), x3.toInt = j → j + l = n → g12_74_bs n I J (i + 1) j → sm_wp sm_P S d 247 6 [.ref 75, .int x2, .int x3] [] (xLay, J, L, kG12_74 R) (0, 0) Φ := by
        intro l
        induction l with
        | zero =>
          intro j x3 J h3 hl st
          have ej : j = n := by omega
          subst ej
          refine pg12_74_X5_blank_6 ⟨fun _ => ih (i + 1) _ J (by omega) (by omega) st, fun a => ?_⟩
          have a := kl_nle a
          rw [st.2.1] at a
          omega
        | succ l il =>
          intro j x3 J h3 hl st
          obtain ⟨s1, s2, s3, s4, s5⟩ := st
          have s33 := ml_in1 (x := x3) (by omega)
          have rowi : i * n + n ≤ n * n := by
            have := Nat.mul_le_mul_right n (show i + 1 ≤ n by omega)
            rw [Nat.succ_mul] at this
            exact this
          have mi : (x2 * J 75 4).toInt = ((i * n : Nat) : Int) := by
            have := ml_mu h2 s2 (by rw [← Int.natCast_mul]; omega) (by rw [← Int.natCast_mul]; omega)
            rw [this, Int.natCast_mul]
          have q : (x2 * J 75 4 + x3).toInt = ((i * n + j : Nat) : Int) := (ml_ad mi h3 (by omega) (by omega)).trans (by omega)
          have vq : vp_in (x2 * J 75 4 + x3) 7381 := kl_in (by omega) (by omega)
          have nx : ∀ (w : Int32) (I2 : sm_I), I2 = sm_up J 76 (x2 * J 75 4 + x3).toNatClampNeg w → w = g12_74_bv i j → sm_wp sm_P S d 247 6 [.ref 75, .int x2, .int (x3 + (1 : Int32))] [] (xLay, I2, L, kG12_74 R) (0, 0) Φ := fun w I2 e ew => by
            rw [tk_nat q] at e
            have o : ∀ p t, ¬ (p = 76 ∧ t = i * n + j) → I2 p t = J p t := fun p t hp => by rw [e, en_up_ne _ _ _ _ hp]
            refine il (j + 1) _ I2 (by omega) (by omega) ⟨fun p t a1 a2 a3 a4 a5 => (o p t (by omega)).trans (s1 p t a1 a2 a3 a4 a5), by rw [o _ _ (by omega)]; exact s2, by rw [o _ _ (by omega)]; exact s3, fun a ha => by rw [o _ _ (by omega), o _ _ (by omega), o _ _ (by omega)]; exact s4 a ha, fun a b ha hb hab => ?_⟩
            by_cases c : a = i ∧ b = j
            · rw [c.1, c.2, e, en_up_eq]; exact ew
            · have ne : a * n + b ≠ i * n + j := fun q => by
                have := (tix_inj (lev := 0) (lev' := 0) ha hb (show i < n by omega) (show j < n by omega) (by unfold tix; omega)).2
                exact c this
              rw [o _ _ (by omega)]
              exact s5 a b ha hb (by omega)
          refine pg12_74_X5_blank_6 ⟨fun a => ?_, fun _ => ⟨fun c => ⟨vq, fun I1 e => nx 0 I1 e ?_⟩, fun c => ⟨fun c2 => ⟨vq, fun I3 e => nx 0 I3 e ?_⟩, fun c2 => ⟨vq, fun I2 e => nx 1440 I2 e ?_⟩⟩⟩⟩
          · have a := kl_le.mp a
            rw [s2] at a
            omega
          · have : i = 0 := by rw [c, kl_0] at h2; omega
            exact (if_pos (Or.inl this)).symm
          · have : i = j := by rw [c2] at h2; omega
            exact (if_pos (Or.inr this)).symm
          · have i0 : i ≠ 0 := fun q => c (en_ofI (by rw [h2, q]; decide))
            have ij : i ≠ j := fun q => c2 (en_ofI (by rw [h2, h3, q]))
            exact (if_neg (by omega)).symm
      refine pg12_74_X5_blank_4 ⟨fun a => ?_, fun _ => ⟨v, fun I1 e1 => ⟨v, fun I2 e2 => ⟨v, fun I3 e3 => ?_⟩⟩⟩⟩
      · have a := kl_le.mp a
        rw [s2] at a
        omega
      rw [p2] at e1 e2 e3
      have o : ∀ p t, ¬ (t = i ∧ (p = 77 ∨ p = 78 ∨ p = 79)) → I3 p t = J p t := fun p t hp => by rw [e3, en_up_ne _ _ _ _ (by omega), e2, en_up_ne _ _ _ _ (by omega), e1, en_up_ne _ _ _ _ (by omega)]
      refine inner n 0 0 I3 (by decide) (by omega) ⟨fun p t a1 a2 a3 a4 a5 => (o p t (by omega)).trans (s1 p t a1 a2 a3 a4 a5), by rw [o _ _ (by omega)]; exact s2, by rw [o _ _ (by omega)]; exact s3, fun a ha => ?_, fun a b ha hb hab => by rw [o _ _ (by omega)]; exact s5 a b ha hb (by omega)⟩
      by_cases c : a = i
      · rw [c]
        refine ⟨?_, ?_, ?_⟩
        · rw [e3, en_up_ne _ _ _ _ (by omega), e2, en_up_ne _ _ _ _ (by omega), e1, en_up_eq]; exact ex
        · rw [e3, en_up_ne _ _ _ _ (by omega), e2, en_up_eq]
        · rw [e3, en_up_eq]
      · rw [o _ _ (by omega), o _ _ (by omega), o _ _ (by omega)]; exact s4 a (by omega)
  refine pg12_74_X5_blank_0 ⟨fun a => ?_, fun _ => ⟨fun _ I1 e1 => ?_, fun a => ?_⟩⟩
  · have a := kl_lt.mp a
    rw [kl_1] at a; omega
  · refine outer n 0 0 I1 (by decide) (by omega) ⟨fun p q a1 _ _ _ _ => by rw [e1, en_up_ne _ _ _ _ (by omega), en_up_ne _ _ _ _ (by omega)], by rw [e1, en_up_ne _ _ _ _ (by omega), en_up_eq]; exact h1, by rw [e1, en_up_eq]; exact mm, fun a ha => absurd ha (Nat.not_lt_zero a), fun a b _ _ hab => absurd hab.1 (Nat.not_lt_zero a)⟩
  · have a := kl_nle a
    rw [Int32.toInt_ofNat_of_lt (by decide)] at a
    omega
/-- both ways -/
theorem g12_74_bind {n lev i j : Nat} {x1 x2 x3 x4 x5 : Int32} {C : List tC} (B : g12_74_B I n) (hl : lev * (n * n) + n * n ≤ 7381) (l1 : lev ≤ 100) (h1 : x1.toInt = lev) (hi : (x2 + 1).toInt = i) (hj : (x3 + 1).toInt = j) (in_ : i < n) (jn : j < n) (a0 : -9000 ≤ x4.toInt) (a1 : x4.toInt ≤ 9000) (b0 : -9000 ≤ x5.toInt) (b1 : x5.toInt ≤ 9000) (T : ttop n C (g12_74_T I n lev)) (h : ∀ r J, g12_74_R lev n (bC (g12_74_hd I) i j x4.toInt x5.toInt ++ C) I r J → Φ (some (.int r), (xLay, J, L, kG12_74 R))) : sm_wp sm_P S (d + 2) 221 0 [.ref 74, .int x1, .int x2, .int x3, .int x4, .int x5] [] (xLay, I, L, kG12_74 R) (0, 0) Φ := by
  have na : (-x4).toInt = -x4.toInt := by rw [Int32.toInt_neg]; exact en_bmod (by omega) (by omega) (Or.inl rfl)
  refine pg12_74_X2_bind_0 (g12_74_tighten (d := d) B hl l1 h1 hi hj in_ jn (by omega) (by omega) T (fun r J q => ⟨r, J, L, rfl, ?_, ?_⟩))
  · intro r0
    obtain ⟨cg, ⟨-, q⟩ | ⟨r1, -⟩⟩ := q
    · exact h 0 J ⟨cg, Or.inl ⟨rfl, tno_cg (fun c hc => List.mem_cons_of_mem _ hc) q⟩⟩
    · rw [r0] at r1; exact absurd r1 (by decide)
  · intro r0
    obtain ⟨cg, ⟨r1, -⟩ | ⟨-, q⟩⟩ := q
    · exact absurd r1 r0
    · obtain ⟨Bj, ej⟩ := g12_74_Bc cg B
      refine g12_74_tighten (d := d) Bj hl l1 h1 hj hi jn in_ (by omega) (by omega) q (fun r2 J2 q2 => ⟨r2, J2, L, rfl, ?_, ?_⟩)
      · intro r0
        rw [na, ej] at q2
        obtain ⟨cg2, ⟨-, q2⟩ | ⟨r1, -⟩⟩ := q2
        · exact h 0 J2 ⟨g12_74_ct cg cg2, Or.inl ⟨rfl, q2⟩⟩
        · rw [r0] at r1; exact absurd r1 (by decide)
      · intro r0
        rw [na, ej] at q2
        obtain ⟨cg2, ⟨r1, -⟩ | ⟨-, q2⟩⟩ := q2
        · exact absurd r1 r0
        · exact h 1 J2 ⟨g12_74_ct cg cg2, Or.inr ⟨rfl, q2⟩⟩
end
end
section
/-! the class's net, exact; told = 49, going = 74 (wip/pe/mkg1.py) -/
section
variable {S : sm_C} {d : Nat} {Φ : sm_Z → Prop} {I : sm_I} {L : sm_L} {R : sm_R}
def g49_74_T (I : sm_I) (n lev i j : Nat) : Int := (I 76 (tix n lev i j)).toInt
def g49_74_c (n lev : Nat) (I J : sm_I) : Prop := ∀ p q, ¬ (p = 76 ∧ lev * (n * n) ≤ q ∧ q < lev * (n * n) + n * n) → J p q = I p q
theorem g49_74_c0 {n lev : Nat} {I : sm_I} : g49_74_c n lev I I := fun _ _ _ => rfl
theorem g49_74_ct {n lev : Nat} {I J K : sm_I} (a : g49_74_c n lev I J) (b : g49_74_c n lev J K) : g49_74_c n lev I K := fun p q h => (b p q h).trans (a p q h)
theorem g49_74_row {n r re : Nat} {x1 x2 x3 : Int32} {I0 : sm_I} (hn : (I0 75 4).toInt = n) (h1 : x1.toInt = r) (h3 : x3.toInt = re) (r7 : r + n ≤ 7381) (re7 : re + n ≤ 7381) (ds : r + n ≤ re ∨ re + n ≤ r) (y0 : -116000 ≤ x2.toInt) (y1 : x2.toInt ≤ 116000) (be : ∀ q, q < n → -1440 ≤ (I0 76 (re + q)).toInt ∧ (I0 76 (re + q)).toInt ≤ 1440) (h : ∀ J, (∀ p j, ¬ (p = 76 ∧ r ≤ j ∧ j < r + n) → J p j = I0 p j) → (∀ q, q < n → (J 76 (r + q)).toInt = if x2.toInt + (I0 76 (re + q)).toInt < (I0 76 (r + q)).toInt then x2.toInt + (I0 76 (re + q)).toInt else (I0 76 (r + q)).toInt) → Φ (none, (xLay, J, L, kG49_74 R))) : sm_wp sm_P S d 257 0 [.ref 75, .int x1, .int x2, .int x3] [] (xLay, I0, L, kG49_74 R) (0, 0) Φ := by
  have lp : ∀ (k i : Nat) (x4 : Int32) (J : sm_I), x4.toInt = i → i + k = n → (∀ p j, ¬ (p = 76 ∧ r ≤ j ∧ j < r + i) → J p j = I0 p j) → (∀ q, q < i → (J 76 (r + q)).toInt = if x2.toInt + (I0 76 (re + q)).toInt < (I0 76 (r + q)).toInt then x2.toInt + (I0 76 (re + q)).toInt else (I0 76 (r + q)).toInt) → sm_wp sm_P S d 257 1 [.ref 75, .int x1, .int x2, .int x3, .int x4] [] (xLay, J, L, kG49_74 R) (0, 0) Φ := by
    intro k
    induction k with
    | zero =>
      intro i x4 J h4 hk o v
      have e4 : J 75 4 = I0 75 4 := o 75 4 (by omega)
      have ei : i = n := by omega
      subst ei
      refine pg49_74_X5_tightenRow_1 ⟨fun _ => h J o v, fun a => ?_⟩
      have a := kl_nle a
      rw [e4] at a
      omega
    | succ k ih =>
      intro i x4 J h4 hk o v
      have e4 : J 75 4 = I0 75 4 := o 75 4 (by omega)
      have s4 := ml_in1 (x := x4) (by omega)
      have q1 : (x3 + x4).toInt = ((re + i : Nat) : Int) := (ml_ad h3 h4 (by omega) (by omega)).trans (by omega)
      have q2 : (x1 + x4).toInt = ((r + i : Nat) : Int) := (ml_ad h1 h4 (by omega) (by omega)).trans (by omega)
      have oe : J 76 (re + i) = I0 76 (re + i) := o _ _ (by omega)
      have or_ : J 76 (r + i) = I0 76 (r + i) := o _ _ (by omega)
      have b := be i (by omega)
      refine pg49_74_X5_tightenRow_1 ⟨fun a => ?_, fun _ => ⟨kl_in (by omega) (by omega), fun n1 e1 => ⟨kl_in (by omega) (by omega), ?_⟩⟩⟩
      · have a := kl_le.mp a
        rw [e4] at a
        omega
      rw [tk_nat q1, oe] at e1
      rw [tk_nat q2, or_]
      have s1 : n1.toInt = x2.toInt + (I0 76 (re + i)).toInt := by rw [e1]; exact ml_ad rfl rfl (by omega) (by omega)
      refine ⟨fun c => ?_, fun c => ⟨kl_in (by omega) (by omega), fun I2 e2 => ?_⟩⟩
      · have c := kl_le.mp c
        refine ih (i + 1) _ J (by omega) (by omega) (fun p j hp => o p j (by omega)) (fun q hq => ?_)
        by_cases e : q = i
        · rw [e, or_, if_neg (by omega)]
        · exact v q (by omega)
      · have c := kl_nle c
        refine ih (i + 1) _ I2 (by omega) (by omega) (fun p j hp => by rw [e2, en_up_ne _ _ _ _ (by omega)]; exact o p j (by omega)) (fun q hq => ?_)
        by_cases e : q = i
        · rw [e, e2, en_up_eq, if_pos (by omega), s1]
        · rw [e2, en_up_ne _ _ _ _ (by omega)]; exact v q (by omega)
  exact pg49_74_X5_tightenRow_0 (lp n 0 0 I0 (by decide) (by omega) (fun _ _ _ => rfl) (fun q hq => absurd hq (Nat.not_lt_zero q)))
/-- who stands for a node, and by how much behind it is -/
def g49_74_hd (I : sm_I) (c : tC) : tC := if c.1 = c.2.1 then c else ((I 77 c.1).toNatClampNeg, (I 77 c.2.1).toNatClampNeg, c.2.2 - (I 79 c.1).toInt + (I 78 c.2.1).toInt)
def g49_74_hok (I : sm_I) (n : Nat) : Prop := ∀ i, i < n → (0 ≤ (I 77 i).toInt ∧ (I 77 i).toInt < n) ∧ (-1440 ≤ (I 78 i).toInt ∧ (I 78 i).toInt ≤ 1440) ∧ (-1440 ≤ (I 79 i).toInt ∧ (I 79 i).toInt ≤ 1440)
/-- what a call needs of the net -/
def g49_74_B (I : sm_I) (n : Nat) : Prop := (I 75 4).toInt = n ∧ 1 ≤ n ∧ n ≤ 11 ∧ (I 75 5).toInt = ((n * n : Nat) : Int) ∧ g49_74_hok I n
theorem g49_74_Bc {n lev : Nat} {I J : sm_I} (h : g49_74_c n lev I J) (b : g49_74_B I n) : g49_74_B J n ∧ g49_74_hd J = g49_74_hd I := by
  obtain ⟨b1, b2, b3, b4, b5⟩ := b
  refine ⟨⟨by rw [h 75 4 (by omega)]; exact b1, b2, b3, by rw [h 75 5 (by omega)]; exact b4, fun i hi => by rw [h 77 i (by omega), h 78 i (by omega), h 79 i (by omega)]; exact b5 i hi⟩, ?_⟩
  funext c
  unfold g49_74_hd
  rw [h 77 c.1 (by omega), h 77 c.2.1 (by omega), h 79 c.1 (by omega), h 78 c.2.1 (by omega)]
def g49_74_R (lev n : Nat) (C : List tC) (I : sm_I) (r : Int32) (J : sm_I) : Prop := g49_74_c n lev I J ∧ ((r = 0 ∧ tno n C) ∨ (r = 1 ∧ ttop n C (g49_74_T J n lev)))
theorem g49_74_21 {n lev i j : Nat} {x6 x7 x8 x9 x10 : Int32} {I0 : sm_I} {D : Nat → Nat → Int} (B : g49_74_B I0 n) (hl : lev * (n * n) + n * n ≤ 7381) (h7 : x7.toInt = ((lev * (n * n) : Nat) : Int)) (h8 : x8.toInt = i) (h9 : x9.toInt = j) (h10 : x10.toInt = ((lev * (n * n) + j * n : Nat) : Int)) (in_ : i < n) (jn : j < n) (w0 : -113000 ≤ x6.toInt) (w1 : x6.toInt ≤ 113000) (eD : D = g49_74_T I0 n lev) (cl : tcl n D) (bD : ∀ a b, a < n → b < n → -1440 ≤ D a b ∧ D a b ≤ 1440) (k : 0 ≤ D j i + x6.toInt) (h : ∀ J, g49_74_c n lev I0 J → (∀ a b, a < n → b < n → g49_74_T J n lev a b = tU D i j x6.toInt a b) → Φ (some (.int 1), (xLay, J, L, kG49_74 R))) : ∀ (m p : Nat) (x11 : Int32) (J : sm_I), x11.toInt = p → p + m = n → g49_74_c n lev I0 J → (∀ a b, a < n → b < n → g49_74_T J n lev a b = if a < p then tU D i j x6.toInt a b else D a b) → sm_wp sm_P S (d + 1) 256 21 [.ref 75, .int x6, .int x7, .int x8, .int x9, .int x10, .int x11] [] (xLay, J, L, kG49_74 R) (0, 0) Φ := by
  have te := tU_e (n := n) (D := D) k
  have lt := fun (a b : Nat) (ha : a < n) (hb : b < n) => tix_lt ha hb
  intro m
  induction m with
  | zero =>
    intro p x11 J h11 hm cg T
    have e4 : J 75 4 = I0 75 4 := cg 75 4 (by omega)
    refine pg49_74_X5_tighten_21 ⟨fun _ => h J cg (fun a b ha hb => by rw [T a b ha hb, if_pos (by omega)]), fun a => ?_⟩
    have a := kl_nle a
    rw [e4, B.1] at a
    omega
  | succ m ih =>
    intro p x11 J h11 hm cg T
    have pn : p < n := by omega
    have e4 : J 75 4 = I0 75 4 := cg 75 4 (by omega)
    have n11 := B.2.2.1
    have s11 := ml_in1 (x := x11) (by omega)
    have rowp : p * n + n ≤ n * n := by
      have := Nat.mul_le_mul_right n (show p + 1 ≤ n by omega)
      rw [Nat.succ_mul] at this
      exact this
    have rowj : j * n + n ≤ n * n := by
      have := Nat.mul_le_mul_right n (show j + 1 ≤ n by omega)
      rw [Nat.succ_mul] at this
      exact this
    have mp : (x11 * (J 75 4)).toInt = ((p * n : Nat) : Int) := by
      rw [e4]
      have := ml_mu h11 B.1 (by rw [← Int.natCast_mul]; omega) (by rw [← Int.natCast_mul]; omega)
      rw [this, Int.natCast_mul]
    have a7 : (x7 + x11 * (J 75 4)).toInt = ((lev * (n * n) + p * n : Nat) : Int) := (ml_ad h7 mp (by omega) (by omega)).trans (by omega)
    refine pg49_74_X5_tighten_21 ⟨fun a => ?_, fun _ n1 e1 => ?_⟩
    · have a := kl_le.mp a
      rw [e4, B.1] at a
      omega
    have q1 : n1.toInt = ((tix n lev p i : Nat) : Int) := by rw [e1]; unfold tix; exact (ml_ad a7 h8 (by omega) (by omega)).trans (by omega)
    have t1 := lt p i pn in_
    have t3 := lt p j pn jn
    refine ⟨kl_in (by omega) (by unfold tix at q1; omega), fun n2 e2 n3 e3 => ?_⟩
    have q3 : n3.toInt = ((tix n lev p j : Nat) : Int) := by rw [e3]; unfold tix; exact (ml_ad a7 h9 (by omega) (by omega)).trans (by omega)
    rw [tk_nat q1] at e2
    have d1 : (J 76 (tix n lev p i)).toInt = D p i := by
      have g := T p i pn in_
      rw [if_neg (by omega)] at g
      exact g
    have d3 : (J 76 (tix n lev p j)).toInt = D p j := by
      have g := T p j pn jn
      rw [if_neg (by omega)] at g
      exact g
    have bi := bD p i pn in_
    have q2 : n2.toInt = D p i + x6.toInt := by rw [e2]; exact ml_ad d1 rfl (by omega) (by omega)
    rw [tk_nat q3]
    refine ⟨kl_in (by omega) (by unfold tix at q3; omega), fun c => ?_, fun c => ?_⟩
    · have c := kl_le.mp c
      rw [d3, q2] at c
      refine ih (p + 1) _ J (by omega) (by omega) cg (fun a b ha hb => ?_)
      rw [T a b ha hb]
      by_cases e : a = p
      · rw [if_neg (by omega), if_pos (by omega), e, tU_s cl jn pn c b hb]
      · by_cases e2 : a < p
        · rw [if_pos e2, if_pos (by omega)]
        · rw [if_neg e2, if_neg (by omega)]
    · have c := kl_nle c
      rw [d3, q2] at c
      have pj : p ≠ j := fun e => by
        rw [e] at c
        have := cl.1 j jn
        omega
      have sep : p * n + n ≤ j * n ∨ j * n + n ≤ p * n := by
        rcases Nat.lt_or_ge p j with u | u
        · left
          have := Nat.mul_le_mul_right n (show p + 1 ≤ j by omega)
          rw [Nat.succ_mul] at this
          exact this
        · right
          have := Nat.mul_le_mul_right n (show j + 1 ≤ p by omega)
          rw [Nat.succ_mul] at this
          exact this
      have rj : ∀ q, q < n → (J 76 (lev * (n * n) + j * n + q)).toInt = D j q := fun q hq => by
        have g := T j q jn hq
        rw [te.1 q] at g
        rw [show (J 76 (lev * (n * n) + j * n + q)).toInt = g49_74_T J n lev j q from rfl, g]
        split <;> rfl
      have rp : ∀ q, q < n → (J 76 (lev * (n * n) + p * n + q)).toInt = D p q := fun q hq => by
        have g := T p q pn hq
        rw [if_neg (by omega)] at g
        exact g
      refine g49_74_row (r := lev * (n * n) + p * n) (re := lev * (n * n) + j * n) (by rw [e4]; exact B.1) a7 h10 (by omega) (by omega) (by omega) (by omega) (by omega) (fun q hq => by rw [rj q hq]; exact bD j q jn hq) (fun J2 o v => ⟨J2, L, rfl, ?_⟩)
      refine ih (p + 1) _ J2 (by omega) (by omega) (fun x y hx => (o x y (by omega)).trans (cg x y hx)) (fun a b ha hb => ?_)
      by_cases e : a = p
      · rw [if_pos (by omega), e]
        show (J2 76 (lev * (n * n) + p * n + b)).toInt = _
        rw [v b hb, rj b hb, rp b hb, q2]
        unfold tU
        have e5 : D p i + x6.toInt + D j b = D p i + x6.toInt + D j b := rfl
        rfl
      · have ea : g49_74_T J2 n lev a b = g49_74_T J n lev a b := by
          unfold g49_74_T
          rw [o _ _ (fun q => ?_)]
          have sa : a * n + n ≤ p * n ∨ p * n + n ≤ a * n := by
            rcases Nat.lt_or_ge a p with u | u
            · left
              have := Nat.mul_le_mul_right n (show a + 1 ≤ p by omega)
              rw [Nat.succ_mul] at this
              exact this
            · right
              have := Nat.mul_le_mul_right n (show p + 1 ≤ a by omega)
              rw [Nat.succ_mul] at this
              exact this
          unfold tix at q
          omega
        rw [ea, T a b ha hb]
        by_cases e2 : a < p
        · rw [if_pos e2, if_pos (by omega)]
        · rw [if_neg e2, if_neg (by omega)]
theorem g49_74_tighten {n lev i j : Nat} {x1 x2 x3 x4 : Int32} {C : List tC} (B : g49_74_B I n) (hl : lev * (n * n) + n * n ≤ 7381) (l1 : lev ≤ 100) (h1 : x1.toInt = lev) (hi : x2.toInt = i) (hj : x3.toInt = j) (in_ : i < n) (jn : j < n) (w0 : -110000 ≤ x4.toInt) (w1 : x4.toInt ≤ 110000) (T : ttop n C (g49_74_T I n lev)) (h : ∀ r J, g49_74_R lev n (g49_74_hd I (i, j, x4.toInt) :: C) I r J → Φ (some (.int r), (xLay, J, L, kG49_74 R))) : sm_wp sm_P S (d + 1) 256 0 [.ref 75, .int x1, .int x2, .int x3, .int x4] [] (xLay, I, L, kG49_74 R) (0, 0) Φ := by
  obtain ⟨b1, b2, b3, b4, b5⟩ := id B
  have nn : 1 ≤ n * n ∧ n * n ≤ 144 := ⟨Nat.mul_le_mul b2 b2, Nat.le_trans (Nat.mul_le_mul b3 b3) (by decide)⟩
  obtain ⟨m1, m2, m3⟩ := kl_lev (x := x1) (A := I 75 5) (by omega) (by omega) (by omega) (by omega)
  have k1 : (x1 * I 75 5).toInt = ((lev * (n * n) : Nat) : Int) := by rw [m1, h1, b4]; exact (Int.natCast_mul _ _).symm
  have k2 : ((x1 + 1) * I 75 5).toInt = ((lev * (n * n) + n * n : Nat) : Int) := by rw [m2, h1, b4, ← Int.natCast_mul, ← Int.natCast_add]
  have bD := ttop_b T
  have main : sm_wp sm_P S (d + 1) 256 4 [.ref 75, .int x1, .int x2, .int x3, .int x4] [.int (1 : Int32)] (xLay, I, L, kG49_74 R) (0, 0) Φ := by
    refine pg49_74_X5_tighten_4 ⟨fun e => absurd e (by decide), fun _ => ⟨fun a => ?_, fun _ => ⟨fun a => ?_, fun _ => ⟨fun a => ?_, fun _ => ⟨fun _ => ⟨fun e => ?_, fun e => ?_⟩, fun a => ?_⟩⟩⟩⟩⟩
    · have a := kl_lt.mp a
      rw [kl_0] at a; omega
    · have a := kl_le.mp a
      omega
    · have a := kl_lt.mp a
      rw [kl_0] at a; omega
    · have eij : i = j := by rw [e] at hi; omega
      have er : g49_74_hd I (i, j, x4.toInt) = (i, j, x4.toInt) := if_pos eij
      rw [er] at h
      have z := T.1.1.1 i in_
      refine ⟨fun a => h 0 I ⟨g49_74_c0, Or.inl ⟨rfl, t_no T in_ jn ?_⟩⟩, fun a => h 1 I ⟨g49_74_c0, Or.inr ⟨rfl, t_same T ?_⟩⟩⟩
      · have a := kl_lt.mp a
        rw [kl_0] at a
        rw [← eij, z]; omega
      · have a := kl_nlt0 a
        rw [← eij, z]; exact a
    · have nij : i ≠ j := fun q => e (en_ofI (by rw [hi, hj, q]))
      have er : g49_74_hd I (i, j, x4.toInt) = ((I 77 i).toNatClampNeg, (I 77 j).toNatClampNeg, x4.toInt - (I 79 i).toInt + (I 78 j).toInt) := if_neg nij
      rw [er] at h
      obtain ⟨si, ni, fi⟩ := b5 i in_
      obtain ⟨sj, nj, fj⟩ := b5 j jn
      have zi := kl_nat si.1
      have zj := kl_nat sj.1
      obtain ⟨i', ei'⟩ : ∃ i', i' = (I 77 i).toNatClampNeg := ⟨_, rfl⟩
      obtain ⟨j', ej'⟩ : ∃ j', j' = (I 77 j).toNatClampNeg := ⟨_, rfl⟩
      rw [← ei', ← ej'] at h
      rw [← ei'] at zi
      rw [← ej'] at zj
      have in' : i' < n := by omega
      have jn' : j' < n := by omega
      have px := tk_nat hi
      have py := tk_nat hj
      have vx : vp_in x2 11 := kl_in (by omega) (by omega)
      have vy : vp_in x3 11 := kl_in (by omega) (by omega)
      rw [px, py]
      refine ⟨vx, vy, fun n1 e1 => ⟨vx, vy, fun n2 e2 n3 e3 => ?_⟩⟩
      have q1 : n1.toInt = x4.toInt - (I 79 i).toInt + (I 78 j).toInt := by
        rw [e1]
        refine ml_ad ?_ rfl (by omega) (by omega)
        rw [Int32.toInt_sub]
        exact en_bmod (by omega) (by omega) (Or.inl rfl)
      have rowj : j' * n + n ≤ n * n := by
        have := Nat.mul_le_mul_right n (show j' + 1 ≤ n by omega)
        rw [Nat.succ_mul] at this
        exact this
      have rowi : i' * n + n ≤ n * n := by
        have := Nat.mul_le_mul_right n (show i' + 1 ≤ n by omega)
        rw [Nat.succ_mul] at this
        exact this
      have mj : (I 77 j * I 75 4).toInt = ((j' * n : Nat) : Int) := by
        have := ml_mu (a := (j' : Int)) (b := (n : Int)) zj.symm b1 (by rw [← Int.natCast_mul]; omega) (by rw [← Int.natCast_mul]; omega)
        rw [this, Int.natCast_mul]
      have mi : (I 77 i * I 75 4).toInt = ((i' * n : Nat) : Int) := by
        have := ml_mu (a := (i' : Int)) (b := (n : Int)) zi.symm b1 (by rw [← Int.natCast_mul]; omega) (by rw [← Int.natCast_mul]; omega)
        rw [this, Int.natCast_mul]
      have q2 : n2.toInt = ((lev * (n * n) + j' * n : Nat) : Int) := by rw [e2]; exact (ml_ad k1 mj (by omega) (by omega)).trans (by omega)
      have q3 : n3.toInt = ((tix n lev j' i' : Nat) : Int) := by rw [e3]; unfold tix; exact (ml_ad q2 zi.symm (by omega) (by omega)).trans (by omega)
      rw [tk_nat q3]
      have bji := bD j' i' jn' in'
      have s1 : (I 76 (tix n lev j' i') + n1).toInt = g49_74_T I n lev j' i' + n1.toInt := ml_ad rfl rfl (by omega) (by omega)
      refine ⟨kl_in (by omega) (by unfold tix at q3; omega), fun a n4 e4 => ?_, fun a => h 0 I ⟨g49_74_c0, Or.inl ⟨rfl, t_no T in' jn' ?_⟩⟩⟩
      · have a := kl_le.mp a
        rw [kl_0, s1] at a
        have q4 : n4.toInt = ((tix n lev i' j' : Nat) : Int) := by rw [e4]; unfold tix; exact (ml_ad (ml_ad k1 mi (by omega) (by omega)) zj.symm (by omega) (by omega)).trans (by omega)
        rw [tk_nat q4]
        refine ⟨kl_in (by omega) (by unfold tix at q4; omega), fun c => ?_, fun c => h 1 I ⟨g49_74_c0, Or.inr ⟨rfl, t_same T ?_⟩⟩⟩
        · refine g49_74_21 (D := g49_74_T I n lev) B hl k1 zi.symm zj.symm q2 in' jn' (by omega) (by omega) rfl T.1.1 bD a (fun J cg eq => h 1 J ⟨cg, Or.inr ⟨rfl, ?_⟩⟩) n 0 0 I (by decide) (by omega) g49_74_c0 (fun a b _ _ => by rw [if_neg (Nat.not_lt_zero a)])
          rw [← q1]
          exact ttop_eq (fun a b ha hb => (eq a b ha hb).symm) (t_up T in' jn' a)
        · have c := kl_nlt c
          rw [← q1]; exact c
      · have a := kl_nle a
        rw [kl_0, s1, q1] at a
        exact a
    · have a := kl_nlt a
      omega
  refine pg49_74_X5_tighten_0 ⟨fun a => ?_, fun _ => ⟨fun a => ?_, fun _ => main⟩⟩
  · have a := kl_lt.mp a
    rw [kl_0] at a; omega
  · have a := kl_lt.mp a
    rw [Int32.toInt_ofNat_of_lt (by decide), k2] at a
    omega
theorem kG49_74_r : ∀ t, t ∈ kG49_74l → (t.1 = 0 ∧ t.2.1 = 9 ∧ t.2.2 = 49) ∨ (t.1 = 74 ∧ t.2.1 = 4 ∧ t.2.2 = 49) ∨ en_refs kl_tb t.1 t.2.1 = [t.2.2] := by decide +kernel
theorem kG49_74_eq {w : sm_W} (hm : en_mem kl_tb klX w) (h : w.2.2.2 0 9 = some 49) (h2 : w.2.2.2 74 4 = some 49) : kG49_74 w.2.2.2 = w.2.2.2 := by
  funext x j
  unfold kG49_74
  split
  · next t ht =>
    have mem := List.mem_of_find?_eq_some ht
    have pr := List.find?_some ht
    obtain ⟨p1, p2⟩ := Bool.and_eq_true_iff.mp pr
    have e1 : t.1 = x := Nat.eq_of_beq_eq_true p1
    have e2 : t.2.1 = j := Nat.eq_of_beq_eq_true p2
    rcases kG49_74_r t mem with ⟨q1, q2, q3⟩ | ⟨q1, q2, q3⟩ | q
    · rw [← e1, ← e2, q1, q2, q3]; exact h.symm
    · rw [← e1, ← e2, q1, q2, q3]; exact h2.symm
    · obtain ⟨a, g1, g2⟩ := hm.2.2.1 t.1 t.2.1 (by rw [q]; exact List.cons_ne_nil _ _)
      rw [q] at g1
      rw [← e1, ← e2, g2, List.mem_singleton.mp g1]
  · rfl
theorem g49_74_hl {n lev : Nat} {x1 : Int32} (B : g49_74_B I n) (hl : lev * (n * n) + n * n ≤ 7381) (l1 : lev ≤ 100) (h1 : x1.toInt = lev) (h : Φ (some (.int 1), (xLay, I, L, kG49_74 R))) : sm_wp sm_P S d 249 0 [.ref 75, .int x1] [] (xLay, I, L, kG49_74 R) (0, 0) Φ := by
  obtain ⟨b1, b2, b3, b4, b5⟩ := id B
  have nn : 1 ≤ n * n ∧ n * n ≤ 144 := ⟨Nat.mul_le_mul b2 b2, Nat.le_trans (Nat.mul_le_mul b3 b3) (by decide)⟩
  obtain ⟨m1, m2, m3⟩ := kl_lev (x := x1) (A := I 75 5) (by omega) (by omega) (by omega) (by omega)
  have k2 : ((x1 + 1) * I 75 5).toInt = ((lev * (n * n) + n * n : Nat) : Int) := by rw [m2, h1, b4, ← Int.natCast_mul, ← Int.natCast_add]
  refine pg49_74_X5_hasLevel_0 ⟨fun a => ?_, fun _ => ⟨fun a => ?_, fun _ => h⟩⟩
  · have a := kl_lt.mp a
    rw [kl_0] at a; omega
  · have a := kl_lt.mp a
    rw [Int32.toInt_ofNat_of_lt (by decide), k2] at a
    omega
theorem g49_74_cp {n lev : Nat} {x1 : Int32} (B : g49_74_B I n) (hl : (lev + 1) * (n * n) + n * n ≤ 7381) (l1 : lev ≤ 90) (h1 : x1.toInt = lev) (h : ∀ J, g49_74_c n (lev + 1) I J → (∀ i j, i < n → j < n → g49_74_T J n (lev + 1) i j = g49_74_T I n lev i j) → Φ (none, (xLay, J, L, kG49_74 R))) : sm_wp sm_P S (d + 1) 248 0 [.ref 75, .int x1] [] (xLay, I, L, kG49_74 R) (0, 0) Φ := by
  obtain ⟨b1, b2, b3, b4, b5⟩ := id B
  have nn : 1 ≤ n * n ∧ n * n ≤ 144 := ⟨Nat.mul_le_mul b2 b2, Nat.le_trans (Nat.mul_le_mul b3 b3) (by decide)⟩
  obtain ⟨m1, m2, m3⟩ := kl_lev (x := x1) (A := I 75 5) (by omega) (by omega) (by omega) (by omega)
  have sl : (lev + 1) * (n * n) = lev * (n * n) + n * n := Nat.succ_mul lev (n * n)
  have k1 : (x1 * I 75 5).toInt = ((lev * (n * n) : Nat) : Int) := by rw [m1, h1, b4]; exact (Int.natCast_mul _ _).symm
  have k2 : ((x1 + 1) * I 75 5).toInt = (((lev + 1) * (n * n) : Nat) : Int) := by rw [m2, h1, b4, sl, ← Int.natCast_mul, ← Int.natCast_add]
  refine pg49_74_X5_copyUp_0 (g49_74_hl B (by omega) (by omega) h1 ⟨_, I, L, rfl, fun z => absurd z (by decide), fun _ => g49_74_hl (lev := lev + 1) B hl (by omega) (by rw [m3, h1]; omega) ⟨_, I, L, rfl, fun z => absurd z (by decide), fun _ n7 e7 => ?_⟩⟩)
  have q7 : n7.toInt = (((lev + 1) * (n * n) : Nat) : Int) := by rw [e7]; exact k2
  have t7 := tk_nat q7
  have t1 := tk_nat k1
  have t5 := tk_nat b4
  refine ⟨⟨fun q => ?_, fun q => ?_, fun q => ?_, by rw [t1, t5]; omega, by rw [t7, t5]; omega⟩, fun I8 e8 => ?_⟩
  · have q := kl_lt.mp q
    rw [kl_0, k1] at q; omega
  · have q := kl_lt.mp q
    rw [kl_0, q7] at q; omega
  · have q := kl_lt.mp q
    rw [kl_0, b4] at q; omega
  rw [t1, t7, t5] at e8
  have oth : ∀ p j, p ≠ 76 → I8 p j = I p j := fun p j hp => by rw [e8]; unfold sm_row; rw [if_neg hp]
  have row : ∀ j, I8 76 j = va_cpy (I 76) (I 76) (lev * (n * n)) ((lev + 1) * (n * n)) (n * n) j := fun j => by rw [e8]; unfold sm_row; rw [if_pos rfl]
  refine h I8 (fun p q hq => ?_) (fun i j hi hj => ?_)
  · by_cases e : p = 76
    · subst e
      rw [row]
      unfold va_cpy
      rw [if_neg (by omega)]
    · exact oth p q e
  · have t := tix_lt hi hj
    unfold g49_74_T tix
    rw [row]
    unfold va_cpy
    rw [if_pos (by omega)]
    rw [show lev * (n * n) + ((lev + 1) * (n * n) + i * n + j - (lev + 1) * (n * n)) = lev * (n * n) + i * n + j by omega]
theorem g49_74_hn {n i : Nat} {x1 : Int32} (B : g49_74_B I n) (h1 : x1.toInt = i) (in_ : i < n) (h : Φ (some (.int 1), (xLay, I, L, kG49_74 R))) : sm_wp sm_P S d 250 0 [.ref 75, .int x1] [] (xLay, I, L, kG49_74 R) (0, 0) Φ := by
  refine pg49_74_X5_hasNode_0 ⟨fun a => ?_, fun _ => ⟨fun a => ?_, fun _ => h⟩⟩
  · have a := kl_lt.mp a
    rw [kl_0] at a; omega
  · have a := kl_le.mp a
    rw [B.1] at a
    omega
theorem g49_74_rc {n lev i j : Nat} {x1 x2 x3 : Int32} (B : g49_74_B I n) (hl : lev * (n * n) + n * n ≤ 7381) (l1 : lev ≤ 100) (h1 : x1.toInt = lev) (hi : x2.toInt = i) (hj : x3.toInt = j) (in_ : i < n) (jn : j < n) (h : Φ (some (.int (I 76 (tix n lev i j))), (xLay, I, L, kG49_74 R))) : sm_wp sm_P S (d + 1) 255 0 [.ref 75, .int x1, .int x2, .int x3] [] (xLay, I, L, kG49_74 R) (0, 0) Φ := by
  obtain ⟨b1, b2, b3, b4, b5⟩ := id B
  have nn : 1 ≤ n * n ∧ n * n ≤ 144 := ⟨Nat.mul_le_mul b2 b2, Nat.le_trans (Nat.mul_le_mul b3 b3) (by decide)⟩
  obtain ⟨m1, m2, m3⟩ := kl_lev (x := x1) (A := I 75 5) (by omega) (by omega) (by omega) (by omega)
  have k1 : (x1 * I 75 5).toInt = ((lev * (n * n) : Nat) : Int) := by rw [m1, h1, b4]; exact (Int.natCast_mul _ _).symm
  have rowi : i * n + n ≤ n * n := by
    have := Nat.mul_le_mul_right n (show i + 1 ≤ n by omega)
    rw [Nat.succ_mul] at this
    exact this
  have mi : (x2 * I 75 4).toInt = ((i * n : Nat) : Int) := by
    have := ml_mu hi b1 (by rw [← Int.natCast_mul]; omega) (by rw [← Int.natCast_mul]; omega)
    rw [this, Int.natCast_mul]
  refine pg49_74_X5_reach_0 (g49_74_hl B hl l1 h1 ⟨_, I, L, rfl, fun z => absurd z (by decide), fun _ => g49_74_hn B hi in_ ⟨_, I, L, rfl, fun z => absurd z (by decide), fun _ => g49_74_hn B hj jn ⟨_, I, L, rfl, fun z => absurd z (by decide), fun _ n10 e10 => ?_⟩⟩⟩)
  have q : n10.toInt = ((tix n lev i j : Nat) : Int) := by rw [e10]; unfold tix; exact (ml_ad (ml_ad k1 mi (by omega) (by omega)) hj (by omega) (by omega)).trans (by omega)
  rw [tk_nat q]
  exact ⟨kl_in (by omega) (by unfold tix at q; omega), h⟩
def g49_74_bv (a b : Nat) : Int32 := if a = 0 ∨ a = b then 0 else 1440
def g49_74_bf (n : Nat) (I J : sm_I) : Prop := ∀ p q, ¬ (p = 75 ∧ (q = 4 ∨ q = 5)) → ¬ (p = 76 ∧ q < n * n) → p ≠ 77 → p ≠ 78 → p ≠ 79 → J p q = I p q
def g49_74_bs (n : Nat) (I J : sm_I) (i j : Nat) : Prop := g49_74_bf n I J ∧ (J 75 4).toInt = n ∧ (J 75 5).toInt = ((n * n : Nat) : Int) ∧ (∀ a, a < i → J 77 a = Int32.ofNat a ∧ J 78 a = 0 ∧ J 79 a = 0) ∧ ∀ a b, a < n → b < n → (a < i ∧ (a + 1 < i ∨ b < j)) → J 76 (a * n + b) = g49_74_bv a b
theorem g49_74_bl {n : Nat} {x1 : Int32} (h1 : x1.toInt = n) (n1 : 1 ≤ n) (nw : n ≤ 11) (h : ∀ J, g49_74_bf n I J → g49_74_B J n → (∀ a, a < n → J 77 a = Int32.ofNat a ∧ J 78 a = 0 ∧ J 79 a = 0) → ttop n [] (g49_74_T J n 0) → Φ (none, (xLay, J, L, kG49_74 R))) : sm_wp sm_P S d 247 0 [.ref 75, .int x1] [] (xLay, I, L, kG49_74 R) (0, 0) Φ := by
  have nn : 1 ≤ n * n ∧ n * n ≤ 144 := ⟨Nat.mul_le_mul n1 n1, Nat.le_trans (Nat.mul_le_mul nw nw) (by decide)⟩
  have mm : (x1 * x1).toInt = ((n * n : Nat) : Int) := by
    have := ml_mu h1 h1 (by rw [← Int.natCast_mul]; omega) (by rw [← Int.natCast_mul]; omega)
    rw [this, Int.natCast_mul]
  have outer : ∀ (k i : Nat) (x2 : Int32) (J : sm_I), x2.toInt = i → i + k = n → g49_74_bs n I J i n → sm_wp sm_P S d 247 4 [.ref 75, .int x2] [] (xLay, J, L, kG49_74 R) (0, 0) Φ := by
    intro k
    induction k with
    | zero =>
      intro i x2 J h2 hk st
      obtain ⟨s1, s2, s3, s4, s5⟩ := st
      refine pg49_74_X5_blank_4 ⟨fun _ => h J s1 ⟨s2, n1, nw, s3, fun a ha => ?_⟩ (fun a ha => s4 a (by omega)) (ttop_eq (fun a b ha hb => ?_) (t_0 n)), fun a => ?_⟩
      · obtain ⟨g1, g2, g3⟩ := s4 a (by omega)
        rw [g1, g2, g3, Int32.toInt_ofNat_of_lt (by omega), kl_0]
        omega
      · unfold g49_74_T tix tD0
        rw [show 0 * (n * n) + a * n + b = a * n + b by omega, s5 a b ha hb (by omega)]
        unfold g49_74_bv
        split <;> decide
      · have a := kl_nle a
        omega
    | succ k ih =>
      intro i x2 J h2 hk st
      obtain ⟨s1, s2, s3, s4, s5⟩ := st
      have ss := ml_in1 (x := x2) (by omega)
      have p2 := tk_nat h2
      have v : vp_in x2 11 := kl_in (by omega) (by omega)
      have ex : x2 = Int32.ofNat i := en_ofI (by rw [h2, Int32.toInt_ofNat_of_lt (by omega)])
      have inner : ∀ (l j : Nat) (x3 : Int32) (J : sm_I), x3.toInt = j → j + l = n → g49_74_bs n I J (i + 1) j → sm_wp sm_P S d 247 6 [.ref 75, .int x2, .int x3] [] (xLay, J, L, kG49_74 R) (0, 0) Φ := by
        intro l
        induction l with
        | zero =>
          intro j x3 J h3 hl st
          have ej : j = n := by omega
          subst ej
          refine pg49_74_X5_blank_6 ⟨fun _ => ih (i + 1) _ J (by omega) (by omega) st, fun a => ?_⟩
          have a := kl_nle a
          rw [st.2.1] at a
          omega
        | succ l il =>
          intro j x3 J h3 hl st
          obtain ⟨s1, s2, s3, s4, s5⟩ := st
          have s33 := ml_in1 (x := x3) (by omega)
          have rowi : i * n + n ≤ n * n := by
            have := Nat.mul_le_mul_right n (show i + 1 ≤ n by omega)
            rw [Nat.succ_mul] at this
            exact this
          have mi : (x2 * J 75 4).toInt = ((i * n : Nat) : Int) := by
            have := ml_mu h2 s2 (by rw [← Int.natCast_mul]; omega) (by rw [← Int.natCast_mul]; omega)
            rw [this, Int.natCast_mul]
          have q : (x2 * J 75 4 + x3).toInt = ((i * n + j : Nat) : Int) := (ml_ad mi h3 (by omega) (by omega)).trans (by omega)
          have vq : vp_in (x2 * J 75 4 + x3) 7381 := kl_in (by omega) (by omega)
          have nx : ∀ (w : Int32) (I2 : sm_I), I2 = sm_up J 76 (x2 * J 75 4 + x3).toNatClampNeg w → w = g49_74_bv i j → sm_wp sm_P S d 247 6 [.ref 75, .int x2, .int (x3 + (1 : Int32))] [] (xLay, I2, L, kG49_74 R) (0, 0) Φ := fun w I2 e ew => by
            rw [tk_nat q] at e
            have o : ∀ p t, ¬ (p = 76 ∧ t = i * n + j) → I2 p t = J p t := fun p t hp => by rw [e, en_up_ne _ _ _ _ hp]
            refine il (j + 1) _ I2 (by omega) (by omega) ⟨fun p t a1 a2 a3 a4 a5 => (o p t (by omega)).trans (s1 p t a1 a2 a3 a4 a5), by rw [o _ _ (by omega)]; exact s2, by rw [o _ _ (by omega)]; exact s3, fun a ha => by rw [o _ _ (by omega), o _ _ (by omega), o _ _ (by omega)]; exact s4 a ha, fun a b ha hb hab => ?_⟩
            by_cases c : a = i ∧ b = j
            · rw [c.1, c.2, e, en_up_eq]; exact ew
            · have ne : a * n + b ≠ i * n + j := fun q => by
                have := (tix_inj (lev := 0) (lev' := 0) ha hb (show i < n by omega) (show j < n by omega) (by unfold tix; omega)).2
                exact c this
              rw [o _ _ (by omega)]
              exact s5 a b ha hb (by omega)
          refine pg49_74_X5_blank_6 ⟨fun a => ?_, fun _ => ⟨fun c => ⟨vq, fun I1 e => nx 0 I1 e ?_⟩, fun c => ⟨fun c2 => ⟨vq, fun I3 e => nx 0 I3 e ?_⟩, fun c2 => ⟨vq, fun I2 e => nx 1440 I2 e ?_⟩⟩⟩⟩
          · have a := kl_le.mp a
            rw [s2] at a
            omega
          · have : i = 0 := by rw [c, kl_0] at h2; omega
            exact (if_pos (Or.inl this)).symm
          · have : i = j := by rw [c2] at h2; omega
            exact (if_pos (Or.inr this)).symm
          · have i0 : i ≠ 0 := fun q => c (en_ofI (by rw [h2, q]; decide))
            have ij : i ≠ j := fun q => c2 (en_ofI (by rw [h2, h3, q]))
            exact (if_neg (by omega)).symm
      refine pg49_74_X5_blank_4 ⟨fun a => ?_, fun _ => ⟨v, fun I1 e1 => ⟨v, fun I2 e2 => ⟨v, fun I3 e3 => ?_⟩⟩⟩⟩
      · have a := kl_le.mp a
        rw [s2] at a
        omega
      rw [p2] at e1 e2 e3
      have o : ∀ p t, ¬ (t = i ∧ (p = 77 ∨ p = 78 ∨ p = 79)) → I3 p t = J p t := fun p t hp => by rw [e3, en_up_ne _ _ _ _ (by omega), e2, en_up_ne _ _ _ _ (by omega), e1, en_up_ne _ _ _ _ (by omega)]
      refine inner n 0 0 I3 (by decide) (by omega) ⟨fun p t a1 a2 a3 a4 a5 => (o p t (by omega)).trans (s1 p t a1 a2 a3 a4 a5), by rw [o _ _ (by omega)]; exact s2, by rw [o _ _ (by omega)]; exact s3, fun a ha => ?_, fun a b ha hb hab => by rw [o _ _ (by omega)]; exact s5 a b ha hb (by omega)⟩
      by_cases c : a = i
      · rw [c]
        refine ⟨?_, ?_, ?_⟩
        · rw [e3, en_up_ne _ _ _ _ (by omega), e2, en_up_ne _ _ _ _ (by omega), e1, en_up_eq]; exact ex
        · rw [e3, en_up_ne _ _ _ _ (by omega), e2, en_up_eq]
        · rw [e3, en_up_eq]
      · rw [o _ _ (by omega), o _ _ (by omega), o _ _ (by omega)]; exact s4 a (by omega)
  refine pg49_74_X5_blank_0 ⟨fun a => ?_, fun _ => ⟨fun _ I1 e1 => ?_, fun a => ?_⟩⟩
  · have a := kl_lt.mp a
    rw [kl_1] at a; omega
  · refine outer n 0 0 I1 (by decide) (by omega) ⟨fun p q a1 _ _ _ _ => by rw [e1, en_up_ne _ _ _ _ (by omega), en_up_ne _ _ _ _ (by omega)], by rw [e1, en_up_ne _ _ _ _ (by omega), en_up_eq]; exact h1, by rw [e1, en_up_eq]; exact mm, fun a ha => absurd ha (Nat.not_lt_zero a), fun a b _ _ hab => absurd hab.1 (Nat.not_lt_zero a)⟩
  · have a := kl_nle a
    rw [Int32.toInt_ofNat_of_lt (by decide)] at a
    omega
/-- both ways -/
theorem g49_74_bind {n lev i j : Nat} {x1 x2 x3 x4 x5 : Int32} {C : List tC} (B : g49_74_B I n) (hl : lev * (n * n) + n * n ≤ 7381) (l1 : lev ≤ 100) (h1 : x1.toInt = lev) (hi : (x2 + 1).toInt = i) (hj : (x3 + 1).toInt = j) (in_ : i < n) (jn : j < n) (a0 : -9000 ≤ x4.toInt) (a1 : x4.toInt ≤ 9000) (b0 : -9000 ≤ x5.toInt) (b1 : x5.toInt ≤ 9000) (T : ttop n C (g49_74_T I n lev)) (h : ∀ r J, g49_74_R lev n (bC (g49_74_hd I) i j x4.toInt x5.toInt ++ C) I r J → Φ (some (.int r), (xLay, J, L, kG49_74 R))) : sm_wp sm_P S (d + 2) 221 0 [.ref 74, .int x1, .int x2, .int x3, .int x4, .int x5] [] (xLay, I, L, kG49_74 R) (0, 0) Φ := by
  have na : (-x4).toInt = -x4.toInt := by rw [Int32.toInt_neg]; exact en_bmod (by omega) (by omega) (Or.inl rfl)
  refine pg49_74_X2_bind_0 (g49_74_tighten (d := d) B hl l1 h1 hi hj in_ jn (by omega) (by omega) T (fun r J q => ⟨r, J, L, rfl, ?_, ?_⟩))
  · intro r0
    obtain ⟨cg, ⟨-, q⟩ | ⟨r1, -⟩⟩ := q
    · exact h 0 J ⟨cg, Or.inl ⟨rfl, tno_cg (fun c hc => List.mem_cons_of_mem _ hc) q⟩⟩
    · rw [r0] at r1; exact absurd r1 (by decide)
  · intro r0
    obtain ⟨cg, ⟨r1, -⟩ | ⟨-, q⟩⟩ := q
    · exact absurd r1 r0
    · obtain ⟨Bj, ej⟩ := g49_74_Bc cg B
      refine g49_74_tighten (d := d) Bj hl l1 h1 hj hi jn in_ (by omega) (by omega) q (fun r2 J2 q2 => ⟨r2, J2, L, rfl, ?_, ?_⟩)
      · intro r0
        rw [na, ej] at q2
        obtain ⟨cg2, ⟨-, q2⟩ | ⟨r1, -⟩⟩ := q2
        · exact h 0 J2 ⟨g49_74_ct cg cg2, Or.inl ⟨rfl, q2⟩⟩
        · rw [r0] at r1; exact absurd r1 (by decide)
      · intro r0
        rw [na, ej] at q2
        obtain ⟨cg2, ⟨r1, -⟩ | ⟨-, q2⟩⟩ := q2
        · exact absurd r1 r0
        · exact h 1 J2 ⟨g49_74_ct cg cg2, Or.inr ⟨rfl, q2⟩⟩
end
end
section
/-! the class's constraints, for any told (Q) and going (G) (wip/pe/mkg2.py) -/
def ksC (Q : Nat) (I : sm_I) (f : tC → tC) (p : Nat) (g : Int) : List tC := bC f (nd (I (Q + 13) p)) (nd (I (Q + 14) p)) ((I (Q + 15) p).toInt - g) ((I (Q + 16) p).toInt + g)
def ksL (Q : Nat) (I : sm_I) (f : tC → tC) (g : Int) (p : Nat) : Nat → List tC
  | 0 => []
  | m + 1 => ksC Q I f (p + m) g ++ ksL Q I f g p m
def kspk (Q : Nat) (I : sm_I) (n p : Nat) : Prop := p < 120 ∧ (0 ≤ (I (Q + 13) p).toInt ∧ (I (Q + 13) p).toInt + 1 < n) ∧ (-1 ≤ (I (Q + 14) p).toInt ∧ (I (Q + 14) p).toInt + 1 < n) ∧ (-1440 ≤ (I (Q + 15) p).toInt ∧ (I (Q + 15) p).toInt ≤ 1440) ∧ (-1440 ≤ (I (Q + 16) p).toInt ∧ (I (Q + 16) p).toInt ≤ 1440)
def kgv (G : Nat) (I : sm_I) (s : Nat) : Int := ((((I G 7) >>> (Int32.ofNat s &&& 31)) &&& (1 : Int32)) * (I G 8)).toInt
def kcd (Q : Nat) (I : sm_I) (s : Nat) : Nat := if s < 10 then (I (Q + 10) s).toNatClampNeg else if (I (Q + 24) (s - 100)).toInt < 0 then 0 else 2
def kcc (Q G : Nat) (I : sm_I) (f : tC → tC) (s c : Nat) : List tC := if s < 10 then ksL Q I f (kgv G I s) (3 * (4 * s + c)) (I (Q + 11) (4 * s + c)).toNatClampNeg else mvC f (nd (I (Q + 22) (s - 100))) (nd (I (Q + 23) (s - 100))) (I (Q + 24) (s - 100)).toInt c
def kcv (Q G : Nat) (I : sm_I) (f : tC → tC) (s c : Nat) : List tC := if c < kcd Q I s then kcc Q G I f s c else []
def kiok (Q G : Nat) (I : sm_I) (n s : Nat) : Prop := (s < 10 ∧ (0 ≤ (I (Q + 10) s).toInt ∧ (I (Q + 10) s).toInt ≤ 4) ∧ (0 ≤ kgv G I s ∧ kgv G I s ≤ 5000) ∧ ∀ c, c < (I (Q + 10) s).toNatClampNeg → (0 ≤ (I (Q + 11) (4 * s + c)).toInt ∧ (I (Q + 11) (4 * s + c)).toInt ≤ 3) ∧ ∀ i, i < (I (Q + 11) (4 * s + c)).toNatClampNeg → kspk Q I n (3 * (4 * s + c) + i)) ∨ ((100 ≤ s ∧ s < 145) ∧ (0 ≤ (I (Q + 24) (s - 100)).toInt → (0 ≤ (I (Q + 22) (s - 100)).toInt ∧ (I (Q + 22) (s - 100)).toInt + 1 < n) ∧ (0 ≤ (I (Q + 23) (s - 100)).toInt ∧ (I (Q + 23) (s - 100)).toInt + 1 < n) ∧ (I (Q + 24) (s - 100)).toInt ≤ 100000))
theorem ksL_le {Q : Nat} {I : sm_I} {f : tC → tC} {g : Int} {p : Nat} {c : tC} : ∀ m m', m ≤ m' → c ∈ ksL Q I f g p m → c ∈ ksL Q I f g p m' := by
  intro m m' h hc
  obtain ⟨k, rfl⟩ : ∃ k, m' = m + k := ⟨m' - m, by omega⟩
  clear h
  induction k with
  | zero => exact hc
  | succ k ih => exact List.mem_append.mpr (Or.inr ih)
theorem ksL_fr {Q : Nat} {I J : sm_I} (f : tC → tC) (g : Int) (p : Nat) (h : ∀ c j, Q + 13 ≤ c → c ≤ Q + 16 → J c j = I c j) : ∀ m, ksL Q J f g p m = ksL Q I f g p m := by
  intro m
  induction m with
  | zero => rfl
  | succ m ih =>
    show ksC Q J f (p + m) g ++ ksL Q J f g p m = ksC Q I f (p + m) g ++ ksL Q I f g p m
    unfold ksC
    rw [ih, h (Q + 13) _ (by omega) (by omega), h (Q + 14) _ (by omega) (by omega), h (Q + 15) _ (by omega) (by omega), h (Q + 16) _ (by omega) (by omega)]
/-- what holds always -/
def kopC (Q : Nat) (I : sm_I) (f : tC → tC) (t : Nat) : List tC := if I (Q + 6) t = -1 then [] else bC f (t + 1) (nd (I (Q + 6) t)) (I (Q + 7) t).toInt (I (Q + 8) t).toInt
def kopL (Q : Nat) (I : sm_I) (f : tC → tC) : Nat → List tC
  | 0 => []
  | m + 1 => kopC Q I f m ++ kopL Q I f m
def kmoL (I : sm_I) (f : tC → tC) : Nat → List tC
  | 0 => []
  | m + 1 => bC f (nd (I 41 m)) (nd (I 42 m)) (I 43 m).toInt (I 44 m).toInt ++ kmoL I f m
def kbaC (Q : Nat) (I : sm_I) (f : tC → tC) : List tC := kmoL I f (I 37 1).toNatClampNeg ++ kopL Q I f (I Q 2).toNatClampNeg
def kopk (Q : Nat) (I : sm_I) (n t : Nat) : Prop := I (Q + 6) t ≠ -1 → (0 ≤ (I (Q + 6) t).toInt ∧ (I (Q + 6) t).toInt + 1 < n) ∧ (-1440 ≤ (I (Q + 7) t).toInt ∧ (I (Q + 7) t).toInt ≤ 1440) ∧ (-1440 ≤ (I (Q + 8) t).toInt ∧ (I (Q + 8) t).toInt ≤ 1440)
def kmok (I : sm_I) (n k : Nat) : Prop := (0 ≤ (I 41 k).toInt ∧ (I 41 k).toInt + 1 < n) ∧ (-1 ≤ (I 42 k).toInt ∧ (I 42 k).toInt + 1 < n) ∧ (-1440 ≤ (I 43 k).toInt ∧ (I 43 k).toInt ≤ 1440) ∧ (-1440 ≤ (I 44 k).toInt ∧ (I 44 k).toInt ≤ 1440)
theorem kopL_le {Q : Nat} {I : sm_I} {f : tC → tC} {c : tC} : ∀ m m', m ≤ m' → c ∈ kopL Q I f m → c ∈ kopL Q I f m' := by
  intro m m' h hc
  obtain ⟨k, rfl⟩ : ∃ k, m' = m + k := ⟨m' - m, by omega⟩
  clear h
  induction k with
  | zero => exact hc
  | succ k ih => exact List.mem_append.mpr (Or.inr ih)
theorem kmoL_le {I : sm_I} {f : tC → tC} {c : tC} : ∀ m m', m ≤ m' → c ∈ kmoL I f m → c ∈ kmoL I f m' := by
  intro m m' h hc
  obtain ⟨k, rfl⟩ : ∃ k, m' = m + k := ⟨m' - m, by omega⟩
  clear h
  induction k with
  | zero => exact hc
  | succ k ih => exact List.mem_append.mpr (Or.inr ih)
/-- the ITEMS -/
def kitL (set : Int32) (s m : Nat) : List Nat := sL set s ++ mL 100 m
def kyM (G : Nat) (I : sm_I) (ys : List Nat) : Prop := (I G 11).toInt = ys.length ∧ ∀ k, k < ys.length → I (G + 6) k = Int32.ofNat (ys.getD k 0)
theorem kitL_len {set : Int32} {s m : Nat} : (kitL set s m).length ≤ s + m := by
  unfold kitL
  rw [List.length_append, mL_len]
  have a := sL_len set s
  omega
theorem kitL_in {set : Int32} {s m : Nat} {k : Nat} (h : k < (kitL set s m).length) : (kitL set s m).getD k 0 < s ∨ (100 ≤ (kitL set s m).getD k 0 ∧ (kitL set s m).getD k 0 < 100 + m) := by
  have e : (kitL set s m).getD k 0 = (kitL set s m)[k] := by rw [List.getD_eq_getElem?_getD, List.getElem?_eq_getElem h]; rfl
  have mem : (kitL set s m)[k] ∈ kitL set s m := List.getElem_mem h
  rw [e]
  rcases List.mem_append.mp mem with mem | mem
  · exact Or.inl (sL_in _ _ _ mem)
  · exact Or.inr (mL_in _ _ _ mem)
end
section
/-! how the class's book packs TRIES and WAYS -/
def pkT (a b : Nat) (t : Bool) : Int32 := ((Int32.ofNat a <<< ((4 : Int32) &&& 31)) ||| (Int32.ofNat b <<< ((1 : Int32) &&& 31))) ||| (if t = true then 1 else 0)
theorem pkT_d : ∀ a, a < 145 → ∀ b, b < 4 → ∀ t : Bool, (pkT a b t >>> ((4 : Int32) &&& 31)) = Int32.ofNat a ∧ ((pkT a b t >>> ((1 : Int32) &&& 31)) &&& (7 : Int32)) = Int32.ofNat b ∧ (pkT a b t &&& (1 : Int32)) = if t = true then 1 else 0 := by decide +kernel
def gyw (ys : List Nat) (f : Nat → Nat) : Nat → Nat → Nat
  | 0 => fun _ => 0
  | i + 1 => sup (gyw ys f i) (ys.getD i 0) (f i)
theorem gyw_0 {ys : List Nat} {f : Nat → Nat} {a : Nat} : ∀ i, (∀ j, j < i → ys.getD j 0 ≠ a) → gyw ys f i a = 0 := by
  intro i
  induction i with
  | zero => intro _; rfl
  | succ i ih =>
    intro h
    show sup (gyw ys f i) (ys.getD i 0) (f i) a = 0
    rw [sup_ne _ _ (Ne.symm (h i (by omega)))]
    exact ih (fun j hj => h j (by omega))
theorem gyw_at {ys : List Nat} {f : Nat → Nat} {k : Nat} : ∀ i, k < i → (∀ j, k < j → j < i → ys.getD j 0 ≠ ys.getD k 0) → gyw ys f i (ys.getD k 0) = f k := by
  intro i
  induction i with
  | zero => intro h; exact absurd h (Nat.not_lt_zero k)
  | succ i ih =>
    intro hk h
    show sup (gyw ys f i) (ys.getD i 0) (f i) (ys.getD k 0) = f k
    by_cases e : k = i
    · rw [← e, sup_eq]
    · rw [sup_ne _ _ (Ne.symm (h i (by omega) (by omega)))]
      exact ih (by omega) (fun j h1 h2 => h j h1 (by omega))
/-- rows of choices: two bits a SAYING, one a MOVE -/
def wbk (x : Int32) (y : Int64) (g : Nat → Nat) : Prop := (∀ b, b < 32 → x.toBitVec.getLsbD b = (decide (b < 20) && (g (b / 2)).testBit (b % 2))) ∧ ∀ b, b < 64 → y.toBitVec.getLsbD b = (decide (b < 45) && decide (g (100 + b) = 1))
theorem wbk_0 : wbk 0 0 (fun _ => 0) := by
  refine ⟨fun b _ => ?_, fun b _ => ?_⟩
  · rw [show (0 : Int32).toBitVec = 0#32 from rfl]; simp
  · rw [show (0 : Int64).toBitVec = 0#64 from rfl]; simp
theorem wbk_s1 : ∀ s, s < 10 → ∀ c, c < 4 → ∀ b, b < 32 → ((Int32.ofNat c) <<< (((2 : Int32) * Int32.ofNat s) &&& 31)).toBitVec.getLsbD b = (decide (b / 2 = s) && c.testBit (b % 2)) := by decide +kernel
theorem wbk_m1 : ∀ k, k < 45 → ∀ c, c < 2 → ∀ b, b < 64 → (((Int32.ofNat c).toInt64) <<< (((Int32.ofNat (100 + k) - (100 : Int32)).toInt64) &&& 63)).toBitVec.getLsbD b = (decide (b = k) && decide (c = 1)) := by decide +kernel
theorem wbk_s {x : Int32} {y : Int64} {g : Nat → Nat} {s c : Nat} (h : wbk x y g) (hs : s < 10) (hc : c < 4) (g0 : g s = 0) : wbk (x ||| ((Int32.ofNat c) <<< (((2 : Int32) * Int32.ofNat s) &&& 31))) y (sup g s c) := by
  refine ⟨fun b hb => ?_, fun b hb => ?_⟩
  · rw [Int32.toBitVec_or, BitVec.getLsbD_or, h.1 b hb, wbk_s1 s hs c hc b hb]
    by_cases e : b / 2 = s
    · rw [e, sup_eq, g0, show decide (b < 20) = true from decide_eq_true (by omega)]
      simp
    · rw [sup_ne _ _ e, show decide (b / 2 = s) = false from decide_eq_false e]
      simp
  · rw [h.2 b hb, sup_ne _ _ (show 100 + b ≠ s by omega)]
theorem wbk_m {x : Int32} {y : Int64} {g : Nat → Nat} {k c : Nat} (h : wbk x y g) (hk : k < 45) (hc : c < 2) (g0 : g (100 + k) = 0) : wbk x (y ||| (((Int32.ofNat c).toInt64) <<< (((Int32.ofNat (100 + k) - (100 : Int32)).toInt64) &&& 63))) (sup g (100 + k) c) := by
  refine ⟨fun b hb => ?_, fun b hb => ?_⟩
  · rw [h.1 b hb]
    by_cases e : b < 20
    · rw [sup_ne _ _ (show b / 2 ≠ 100 + k by omega)]
    · rw [show decide (b < 20) = false from decide_eq_false e]; rfl
  · rw [Int64.toBitVec_or, BitVec.getLsbD_or, h.2 b hb, wbk_m1 k hk c hc b hb]
    by_cases e : b = k
    · rw [e, sup_eq, g0, show decide (k < 45) = true from decide_eq_true hk]
      simp
    · rw [sup_ne _ _ (show 100 + b ≠ 100 + k by omega), show decide (b = k) = false from decide_eq_false e]
      simp
theorem wbk_e1 : ∀ s, s < 10 → ((((2 : Int32) * Int32.ofNat s) &&& 31).toBitVec.smod 32) = BitVec.ofNat 32 (2 * s) := by decide +kernel
theorem wbk_e2 : ∀ k, k < 45 → ((((Int32.ofNat (100 + k) - (100 : Int32)).toInt64) &&& 63).toBitVec.smod 64) = BitVec.ofNat 64 k := by decide +kernel
theorem wbk_v1 : ∀ v, v < 4 → ∀ i, i < 32 → (Int32.ofNat v).toBitVec.getLsbD i = (decide (i < 2) && v.testBit i) := by decide +kernel
theorem wbk_v3 : ∀ i, i < 32 → (3 : Int32).toBitVec.getLsbD i = decide (i < 2) := by decide +kernel
theorem wbk_ds {x : Int32} {y : Int64} {g : Nat → Nat} {s : Nat} (h : wbk x y g) (hs : s < 10) (g4 : g s < 4) : (x >>> (((2 : Int32) * Int32.ofNat s) &&& 31)) &&& (3 : Int32) = Int32.ofNat (g s) := by
  refine Int32.toBitVec_inj.mp (BitVec.eq_of_getLsbD_eq (fun i hi => ?_))
  rw [Int32.toBitVec_and, BitVec.getLsbD_and, Int32.toBitVec_shiftRight, wbk_e1 s hs, BitVec.sshiftRight_eq', BitVec.getLsbD_sshiftRight, wbk_v1 (g s) g4 i hi, wbk_v3 i hi, BitVec.toNat_ofNat, Nat.mod_eq_of_lt (by omega)]
  by_cases c : i < 2
  · rw [if_pos (by omega), h.1 _ (by omega), show decide (i < 2) = true from decide_eq_true c, show (2 * s + i) / 2 = s by omega, show (2 * s + i) % 2 = i by omega, show decide (2 * s + i < 20) = true from decide_eq_true (by omega), show decide (32 ≤ i) = false from decide_eq_false (by omega)]
    simp
  · rw [show decide (i < 2) = false from decide_eq_false c]
    simp
theorem wbk_u1 : ∀ v, v < 2 → ∀ i, i < 32 → (Int32.ofNat v).toBitVec.getLsbD i = (decide (i = 0) && decide (v = 1)) := by decide +kernel
theorem wbk_u3 : ∀ i, i < 64 → (1 : Int64).toBitVec.getLsbD i = decide (i = 0) := by decide +kernel
theorem wbk_dm {x : Int32} {y : Int64} {g : Nat → Nat} {k : Nat} (h : wbk x y g) (hk : k < 45) (g2 : g (100 + k) < 2) : ((y >>> (((Int32.ofNat (100 + k) - (100 : Int32)).toInt64) &&& 63)) &&& (1 : Int64)).toInt32 = Int32.ofNat (g (100 + k)) := by
  refine Int32.toBitVec_inj.mp (BitVec.eq_of_getLsbD_eq (fun i hi => ?_))
  rw [Int64.toBitVec_toInt32, BitVec.getLsbD_signExtend, if_pos (show i < 64 by omega), decide_eq_true hi, Bool.true_and, Int64.toBitVec_and, BitVec.getLsbD_and, Int64.toBitVec_shiftRight, wbk_e2 k hk, BitVec.sshiftRight_eq', BitVec.getLsbD_sshiftRight, wbk_u1 (g (100 + k)) g2 i hi, wbk_u3 i (by omega), BitVec.toNat_ofNat, Nat.mod_eq_of_lt (by omega)]
  by_cases c : i = 0
  · rw [c, if_pos (by omega), h.2 _ (by omega)]
    simp [hk]
  · rw [show decide (i = 0) = false from decide_eq_false c]
    simp
/-- ITEMS stand by their codes -/
theorem sL_mono (set : Int32) : ∀ k i j, i < j → j < (sL set k).length → (sL set k).getD i 0 < (sL set k).getD j 0 := by
  intro k
  induction k with
  | zero => intro i j _ h; exact absurd h (Nat.not_lt_zero j)
  | succ k ih =>
    intro i j hij hj
    have e : sL set (k + 1) = sL set k ++ (if isb set k = true then [k] else []) := rfl
    rw [e] at hj ⊢
    by_cases c : isb set k = true
    · rw [if_pos c] at hj ⊢
      rw [List.length_append] at hj
      have hj : j < (sL set k).length + 1 := hj
      by_cases q : j = (sL set k).length
      · rw [nG_l (by omega), q, nG_n]
        have hi : i < (sL set k).length := by omega
        have : (sL set k).getD i 0 = (sL set k)[i] := by rw [List.getD_eq_getElem?_getD, List.getElem?_eq_getElem hi]; rfl
        rw [this]
        exact sL_in _ _ _ (List.getElem_mem hi)
      · rw [nG_l (by omega), nG_l (by omega)]
        exact ih i j hij (by omega)
    · rw [if_neg c, List.append_nil] at hj ⊢
      exact ih i j hij hj
theorem mL_at (b : Nat) : ∀ k i, i < k → (mL b k).getD i 0 = b + i := by
  intro k
  induction k with
  | zero => intro i h; exact absurd h (Nat.not_lt_zero i)
  | succ k ih =>
    intro i hi
    show (mL b k ++ [b + k]).getD i 0 = b + i
    by_cases c : i = k
    · have : (mL b k ++ [b + k]).getD (mL b k).length 0 = b + k := nG_n
      rw [mL_len] at this
      rw [c]; exact this
    · rw [nG_l (by rw [mL_len]; omega)]
      exact ih i (by omega)
theorem nG_r {xs ys : List Nat} {k : Nat} : (xs ++ ys).getD (xs.length + k) 0 = ys.getD k 0 := by
  rw [List.getD_eq_getElem?_getD, List.getD_eq_getElem?_getD, List.getElem?_append_right (by omega), Nat.add_sub_cancel_left]
theorem kitL_mono {set : Int32} {s m : Nat} (s10 : s ≤ 10) {i j : Nat} (hij : i < j) (hj : j < (kitL set s m).length) : (kitL set s m).getD i 0 < (kitL set s m).getD j 0 := by
  unfold kitL at hj ⊢
  have hl : (sL set s ++ mL 100 m).length = (sL set s).length + m := by rw [List.length_append, mL_len]
  rw [hl] at hj
  have up : ∀ k, (sL set s).length ≤ k → k < (sL set s).length + m → (sL set s ++ mL 100 m).getD k 0 = 100 + (k - (sL set s).length) := fun k h1 h2 => by
    obtain ⟨t, rfl⟩ : ∃ t, k = (sL set s).length + t := ⟨k - (sL set s).length, by omega⟩
    rw [nG_r, mL_at 100 m t (by omega), Nat.add_sub_cancel_left]
  by_cases c : j < (sL set s).length
  · rw [nG_l (by omega), nG_l c]
    exact sL_mono set s i j hij c
  · rw [up j (by omega) hj]
    by_cases c2 : i < (sL set s).length
    · rw [nG_l c2]
      have : (sL set s).getD i 0 = (sL set s)[i] := by rw [List.getD_eq_getElem?_getD, List.getElem?_eq_getElem c2]; rfl
      have := sL_in set s _ (List.getElem_mem c2)
      omega
    · rw [up i (by omega) (by omega)]
      omega
end
section
/-- what the book holds -/
def kbk (ys : List Nat) (tr fd : Nat) (lg : Nat → Nat × Nat × Bool) (wy : Nat → Nat → Nat) (J : sm_I) (L : sm_L) : Prop := (∀ i, i < tr → i < 1000 → J 46 i = pkT (ys.getD (lg i).1 0) (lg i).2.1 (lg i).2.2) ∧ ∀ w, w < fd → wbk (J 47 w) (L 48 w) (gyw ys (wy w) ys.length)
/-! where nobody stands for another -/
theorem bC_id {f : tC → tC} {n x y : Nat} {a b : Int} (hf : ∀ c : tC, c.1 < n → c.2.1 < n → f c = c) (hx : x < n) (hy : y < n) : bC f x y a b = bC id x y a b := by
  unfold bC
  rw [hf (y, x, -a) hy hx, hf (x, y, b) hx hy]; rfl
theorem kmoL_id {I : sm_I} {f : tC → tC} {n : Nat} (hf : ∀ c : tC, c.1 < n → c.2.1 < n → f c = c) : ∀ m, (∀ k, k < m → kmok I n k) → kmoL I f m = kmoL I id m := by
  intro m
  induction m with
  | zero => intro _; rfl
  | succ m ih =>
    intro h
    obtain ⟨k1, k2, -, -⟩ := h m (by omega)
    show bC f (nd (I 41 m)) (nd (I 42 m)) (I 43 m).toInt (I 44 m).toInt ++ kmoL I f m = bC id (nd (I 41 m)) (nd (I 42 m)) (I 43 m).toInt (I 44 m).toInt ++ kmoL I id m
    rw [ih (fun k hk => h k (by omega)), bC_id hf (by unfold nd; omega) (by unfold nd; omega)]
theorem kopL_id {Q : Nat} {I : sm_I} {f : tC → tC} {n : Nat} (hf : ∀ c : tC, c.1 < n → c.2.1 < n → f c = c) : ∀ m, m < n → (∀ k, k < m → kopk Q I n k) → kopL Q I f m = kopL Q I id m := by
  intro m
  induction m with
  | zero => intro _ _; rfl
  | succ m ih =>
    intro hm h
    show kopC Q I f m ++ kopL Q I f m = kopC Q I id m ++ kopL Q I id m
    rw [ih (by omega) (fun k hk => h k (by omega))]
    have k := h m (by omega)
    unfold kopC
    by_cases e : I (Q + 6) m = -1
    · rw [if_pos e, if_pos e]
    · obtain ⟨k1, -, -⟩ := k e
      rw [if_neg e, if_neg e, bC_id hf (by omega) (by unfold nd; omega)]
theorem ksL_id {Q : Nat} {I : sm_I} {f : tC → tC} {n p : Nat} {g : Int} (hf : ∀ c : tC, c.1 < n → c.2.1 < n → f c = c) : ∀ m, (∀ k, k < m → kspk Q I n (p + k)) → ksL Q I f g p m = ksL Q I id g p m := by
  intro m
  induction m with
  | zero => intro _; rfl
  | succ m ih =>
    intro h
    obtain ⟨-, k1, k2, -, -⟩ := h m (by omega)
    show ksC Q I f (p + m) g ++ ksL Q I f g p m = ksC Q I id (p + m) g ++ ksL Q I id g p m
    unfold ksC
    rw [ih (fun k hk => h k (by omega)), bC_id hf (by unfold nd; omega) (by unfold nd; omega)]
theorem kcv_id {Q G : Nat} {I : sm_I} {f : tC → tC} {n s : Nat} (hf : ∀ c : tC, c.1 < n → c.2.1 < n → f c = c) (ok : kiok Q G I n s) (c : Nat) : kcv Q G I f s c = kcv Q G I id s c := by
  unfold kcv
  by_cases q : c < kcd Q I s
  · rw [if_pos q, if_pos q]
    unfold kcd at q
    unfold kcc
    rcases ok with ⟨s10, b, -, ok⟩ | ⟨sr, ok⟩
    · rw [if_pos s10] at q ⊢
      rw [if_pos s10]
      obtain ⟨-, o2⟩ := ok c q
      exact ksL_id hf _ o2
    · rw [if_neg (by omega)] at q ⊢
      rw [if_neg (by omega)]
      have w : 0 ≤ (I (Q + 24) (s - 100)).toInt := by
        rcases Int.lt_or_le (I (Q + 24) (s - 100)).toInt 0 with u | u
        · rw [if_pos u] at q; exact absurd q (Nat.not_lt_zero _)
        · exact u
      obtain ⟨o1, o2, -⟩ := ok w
      have n1 : nd (I (Q + 22) (s - 100)) < n := by unfold nd; omega
      have n2 : nd (I (Q + 23) (s - 100)) < n := by unfold nd; omega
      unfold mvC
      split
      · rw [hf (nd (I (Q + 22) (s - 100)), nd (I (Q + 23) (s - 100)), _) n1 n2]; rfl
      · rw [hf (nd (I (Q + 23) (s - 100)), nd (I (Q + 22) (s - 100)), _) n2 n1]; rfl
  · rw [if_neg q, if_neg q]
/-- what GOING THROUGH all reads of the class -/
def ktf (Q : Nat) (I J : sm_I) : Prop := ∀ p j, (Q ≤ p ∧ p < Q + 25) ∨ p = 37 ∨ (41 ≤ p ∧ p ≤ 44) ∨ (p = 74 ∧ (j = 7 ∨ j = 8)) → J p j = I p j
theorem k_ksL {Q : Nat} {I J : sm_I} (h : ktf Q I J) (f : tC → tC) (g : Int) (p : Nat) : ∀ m, ksL Q J f g p m = ksL Q I f g p m := by
  intro m
  induction m with
  | zero => rfl
  | succ m ih =>
    show ksC Q J f (p + m) g ++ ksL Q J f g p m = ksC Q I f (p + m) g ++ ksL Q I f g p m
    unfold ksC
    rw [ih, h (Q + 13) _ (by omega), h (Q + 14) _ (by omega), h (Q + 15) _ (by omega), h (Q + 16) _ (by omega)]
theorem k_kba {Q : Nat} {I J : sm_I} (h : ktf Q I J) (f : tC → tC) : kbaC Q J f = kbaC Q I f := by
  have e1 : ∀ m, kmoL J f m = kmoL I f m := fun m => by
    induction m with
    | zero => rfl
    | succ m ih =>
      show bC f (nd (J 41 m)) (nd (J 42 m)) (J 43 m).toInt (J 44 m).toInt ++ kmoL J f m = bC f (nd (I 41 m)) (nd (I 42 m)) (I 43 m).toInt (I 44 m).toInt ++ kmoL I f m
      rw [ih, h 41 m (by omega), h 42 m (by omega), h 43 m (by omega), h 44 m (by omega)]
  have e2 : ∀ m, kopL Q J f m = kopL Q I f m := fun m => by
    induction m with
    | zero => rfl
    | succ m ih =>
      show kopC Q J f m ++ kopL Q J f m = kopC Q I f m ++ kopL Q I f m
      unfold kopC
      rw [ih, h (Q + 6) m (by omega), h (Q + 7) m (by omega), h (Q + 8) m (by omega)]
  unfold kbaC
  rw [e1, e2, h 37 1 (by omega), h Q 2 (by omega)]
theorem k_kgv {Q : Nat} {I J : sm_I} (h : ktf Q I J) (s : Nat) : kgv 74 J s = kgv 74 I s := by
  unfold kgv
  rw [h 74 7 (by omega), h 74 8 (by omega)]
theorem k_kcd {Q : Nat} {I J : sm_I} (h : ktf Q I J) (s : Nat) : kcd Q J s = kcd Q I s := by
  unfold kcd
  rw [h (Q + 10) _ (by omega), h (Q + 24) _ (by omega)]
theorem k_kcv {Q : Nat} {I J : sm_I} (h : ktf Q I J) (f : tC → tC) (s c : Nat) : kcv Q 74 J f s c = kcv Q 74 I f s c := by
  unfold kcv kcc
  rw [k_kcd h, k_kgv h, k_ksL h, h (Q + 11) _ (by omega), h (Q + 22) _ (by omega), h (Q + 23) _ (by omega), h (Q + 24) _ (by omega)]
theorem k_iok {Q : Nat} {I J : sm_I} (h : ktf Q I J) {n s : Nat} (k : kiok Q 74 I n s) : kiok Q 74 J n s := by
  rcases k with ⟨k1, k2, k3, k4⟩ | ⟨k1, k2⟩
  · refine Or.inl ⟨k1, by rw [h (Q + 10) _ (by omega)]; exact k2, by rw [k_kgv h]; exact k3, fun c hc => ?_⟩
    rw [h (Q + 10) _ (by omega)] at hc
    obtain ⟨a1, a2⟩ := k4 c hc
    rw [h (Q + 11) _ (by omega)]
    refine ⟨a1, fun i hi => ?_⟩
    have b := a2 i hi
    unfold kspk at b ⊢
    rw [h (Q + 13) _ (by omega), h (Q + 14) _ (by omega), h (Q + 15) _ (by omega), h (Q + 16) _ (by omega)]; exact b
  · refine Or.inr ⟨k1, fun w => ?_⟩
    rw [h (Q + 24) _ (by omega)] at w ⊢
    rw [h (Q + 22) _ (by omega), h (Q + 23) _ (by omega)]
    exact k2 w
def kst (I : sm_I) : sm_I := fun p j => if p = 74 ∧ (j = 7 ∨ j = 8) then 0 else I p j
def kdb (Q : Nat) (I : sm_I) : Int32 := (((1 : Int32) <<< ((I Q 3) &&& 31)) - (1 : Int32)) &&& ((I 37 0) ^^^ (-1 : Int32))
def kys (Q : Nat) (I : sm_I) : List Nat := kitL (kdb Q I) (I Q 3).toNatClampNeg (I Q 5).toNatClampNeg
noncomputable def KF (Q : Nat) (I : sm_I) : ss := GT ((I Q 2).toNatClampNeg + 1) (kys Q I).length (kbaC Q (kst I) id) (fun i c => kcv Q 74 (kst I) id ((kys Q I).getD i 0) c) (fun j => kcd Q (kst I) ((kys Q I).getD j 0)) false
/-- what a text is: the numbers are within their bounds -/
def kW (Q : Nat) (I : sm_I) : Prop := (0 ≤ (I Q 2).toInt ∧ (I Q 2).toInt ≤ 10) ∧ (0 ≤ (I Q 3).toInt ∧ (I Q 3).toInt ≤ 10) ∧ (0 ≤ (I Q 5).toInt ∧ (I Q 5).toInt ≤ 45) ∧ (0 ≤ (I 37 1).toInt ∧ (I 37 1).toInt ≤ 6) ∧ (∀ k, k < (I 37 1).toNatClampNeg → kmok I ((I Q 2).toNatClampNeg + 1) k) ∧ (∀ k, k < (I Q 2).toNatClampNeg → kopk Q I ((I Q 2).toNatClampNeg + 1) k) ∧ ∀ s, s < (I Q 3).toNatClampNeg ∨ (100 ≤ s ∧ s < 100 + (I Q 5).toNatClampNeg) → kiok Q 74 (kst I) ((I Q 2).toNatClampNeg + 1) s
theorem kst_t {Q : Nat} {I J : sm_I} (hQ : Q = 12 ∨ Q = 49) (h : ∀ p j, (Q ≤ p ∧ p < Q + 25) ∨ p = 37 ∨ (41 ≤ p ∧ p ≤ 44) → J p j = I p j) : ktf Q (kst I) (kst J) := fun p j q => by
  unfold kst
  by_cases c : p = 74 ∧ (j = 7 ∨ j = 8)
  · rw [if_pos c, if_pos c]
  · rw [if_neg c, if_neg c]; exact h p j (by omega)
theorem kys_cg {Q : Nat} {I J : sm_I} (h : ∀ p j, (Q ≤ p ∧ p < Q + 25) ∨ p = 37 ∨ (41 ≤ p ∧ p ≤ 44) → J p j = I p j) : kys Q J = kys Q I := by
  unfold kys kdb
  rw [h Q 3 (by omega), h Q 5 (by omega), h 37 0 (by omega)]
theorem KF_cg {Q : Nat} {I J : sm_I} (hQ : Q = 12 ∨ Q = 49) (h : ∀ p j, (Q ≤ p ∧ p < Q + 25) ∨ p = 37 ∨ (41 ≤ p ∧ p ≤ 44) → J p j = I p j) : KF Q J = KF Q I := by
  unfold KF
  rw [kys_cg h, h Q 2 (by omega), k_kba (kst_t hQ h)]
  exact GT_cg (fun c => Iff.rfl) (fun k _ => k_kcd (kst_t hQ h) _) (fun j _ c x => by rw [k_kcv (kst_t hQ h)])
/-- what was gone through, as the class keeps it -/
def kall (Q : Nat) (ys : List Nat) (F : ss) (I : sm_I) (L : sm_L) : Prop := kyM 74 I ys ∧ ((I 74 13).toInt = F.2.2.1 ∧ (I 74 14).toInt = F.2.2.2.1 ∧ I 74 15 = if F.2.2.2.2.1 = true then 1 else 0) ∧ kbk ys F.2.2.1 F.2.2.2.1 F.2.2.2.2.2.1 F.2.2.2.2.2.2 I L
end
