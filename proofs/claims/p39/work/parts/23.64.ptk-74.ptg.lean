section
/-! conditions of the class's reader (wip/pe/symt.py) -/
def kTl (p : Nat) : List (Option Nat) := bif Nat.beq p 2 then [some 3, some 7, some 9, some 10, some 11, none, none] else bif Nat.beq p 3 then [some 4, some 5, some 6] else bif Nat.beq p 7 then [some 8] else []
def kT (q : Nat) (R : sm_R) : sm_R := fun x j => bif Nat.beq x 2 && Nat.beq j 6 then some q else match (kTl x)[j]? with
  | some (some p) => some p
  | _ => R x j
theorem t_X9_isBlank_0 {S : sm_C} {d : Nat} {Φ : sm_Z → Prop} {I : sm_I} {L : sm_L} {R : sm_R} {q : Nat} {x0 : Int32} (h : ((x0 = (9 : Int32) → Φ (some (.int (1 : Int32)), (xLay, I, L, (kT q R)))) ∧ (¬ x0 = (9 : Int32) → ((x0 = (10 : Int32) → Φ (some (.int (1 : Int32)), (xLay, I, L, (kT q R)))) ∧ (¬ x0 = (10 : Int32) → ((x0 = (13 : Int32) → Φ (some (.int (1 : Int32)), (xLay, I, L, (kT q R)))) ∧ (¬ x0 = (13 : Int32) → ((x0 = (32 : Int32) → Φ (some (.int (1 : Int32)), (xLay, I, L, (kT q R)))) ∧ (¬ x0 = (32 : Int32) → Φ (some (.int (0 : Int32)), (xLay, I, L, (kT q R)))))))))))) : sm_wp sm_P S d 298 0 [.int x0] [] (xLay, I, L, (kT q R)) (0, 0) Φ := sm_wp_step (⟨fun q4 => ⟨Or.inr rfl, ((h).1 q4)⟩, fun q4 => ⟨fun q3 => ⟨Or.inr rfl, ((((h).2 q4)).1 q3)⟩, fun q3 => ⟨fun q2 => ⟨Or.inr rfl, ((((((h).2 q4)).2 q3)).1 q2)⟩, fun q2 => ⟨fun q1 => ⟨Or.inr rfl, ((((((((h).2 q4)).2 q3)).2 q2)).1 q1)⟩, fun q1 => ⟨Or.inl rfl, ((((((((h).2 q4)).2 q3)).2 q2)).2 q1)⟩⟩⟩⟩⟩)
theorem t_X9_isLetter_0 {S : sm_C} {d : Nat} {Φ : sm_Z → Prop} {I : sm_I} {L : sm_L} {R : sm_R} {q : Nat} {x0 : Int32} (h : ((x0 < (97 : Int32) → Φ (some (.int (0 : Int32)), (xLay, I, L, (kT q R)))) ∧ (¬ x0 < (97 : Int32) → (((122 : Int32) < x0 → Φ (some (.int (0 : Int32)), (xLay, I, L, (kT q R)))) ∧ (¬ (122 : Int32) < x0 → Φ (some (.int (1 : Int32)), (xLay, I, L, (kT q R)))))))) : sm_wp sm_P S d 300 0 [.int x0] [] (xLay, I, L, (kT q R)) (0, 0) Φ := sm_wp_step (⟨fun q2 => ⟨Or.inl rfl, ((h).1 q2)⟩, fun q2 => ⟨fun q1 => ⟨Or.inl rfl, ((((h).2 q2)).1 q1)⟩, fun q1 => ⟨Or.inr rfl, ((((h).2 q2)).2 q1)⟩⟩⟩)
theorem t_X9_isDigit_0 {S : sm_C} {d : Nat} {Φ : sm_Z → Prop} {I : sm_I} {L : sm_L} {R : sm_R} {q : Nat} {x0 : Int32} (h : ((x0 < (48 : Int32) → Φ (some (.int (0 : Int32)), (xLay, I, L, (kT q R)))) ∧ (¬ x0 < (48 : Int32) → (((57 : Int32) < x0 → Φ (some (.int (0 : Int32)), (xLay, I, L, (kT q R)))) ∧ (¬ (57 : Int32) < x0 → Φ (some (.int (1 : Int32)), (xLay, I, L, (kT q R)))))))) : sm_wp sm_P S d 299 0 [.int x0] [] (xLay, I, L, (kT q R)) (0, 0) Φ := sm_wp_step (⟨fun q2 => ⟨Or.inl rfl, ((h).1 q2)⟩, fun q2 => ⟨fun q1 => ⟨Or.inl rfl, ((((h).2 q2)).1 q1)⟩, fun q1 => ⟨Or.inr rfl, ((((h).2 q2)).2 q1)⟩⟩⟩)
theorem t_X9_sign_0 {S : sm_C} {d : Nat} {Φ : sm_Z → Prop} {I : sm_I} {L : sm_L} {R : sm_R} {q : Nat} {x0 : Int32} (h : (((x0).toInt = 45 → Φ (some (.int (19 : Int32)), (xLay, I, L, (kT q R)))) ∧ (¬ (x0).toInt = 45 → (((x0).toInt = 58 → Φ (some (.int (18 : Int32)), (xLay, I, L, (kT q R)))) ∧ (¬ (x0).toInt = 58 → (((x0).toInt = 59 → Φ (some (.int (17 : Int32)), (xLay, I, L, (kT q R)))) ∧ (¬ (x0).toInt = 59 → Φ (some (.int (20 : Int32)), (xLay, I, L, (kT q R)))))))))) : sm_wp sm_P S d 303 0 [.int x0] [] (xLay, I, L, (kT q R)) (0, 0) Φ := sm_wp_step (⟨fun q3 => ((h).1 q3), fun q3 => ⟨fun q2 => ((((h).2 q3)).1 q2), fun q2 => ⟨fun q1 => ((((((h).2 q3)).2 q2)).1 q1), fun q1 => ((((((h).2 q3)).2 q2)).2 q1)⟩⟩⟩)
theorem t_X9_wordOrName_0 {S : sm_C} {d : Nat} {Φ : sm_Z → Prop} {I : sm_I} {L : sm_L} {R : sm_R} {q : Nat} {y0 : Int64} (h : sm_wp sm_P S d 304 1 [.long y0, .int (0 : Int32)] [] (xLay, I, L, (kT q R)) (0, 0) Φ) : sm_wp sm_P S d 304 0 [.long y0] [] (xLay, I, L, (kT q R)) (0, 0) Φ := sm_wp_step (h)
theorem t_X9_wordOrName_1 {S : sm_C} {d : Nat} {Φ : sm_Z → Prop} {I : sm_I} {L : sm_L} {R : sm_R} {q : Nat} {y0 : Int64} {x2 : Int32} (h : (((Int32.ofNat sm_words.length) ≤ x2 → Φ (some (.int (15 : Int32)), (xLay, I, L, (kT q R)))) ∧ (¬ (Int32.ofNat sm_words.length) ≤ x2 → (vp_in x2 sm_words.length) ∧ (((lg_cmp (sm_words.getD x2.toNatClampNeg 0) y0) = 0 → Φ (some (.int x2), (xLay, I, L, (kT q R)))) ∧ (¬ (lg_cmp (sm_words.getD x2.toNatClampNeg 0) y0) = 0 → sm_wp sm_P S d 304 1 [.long y0, .int (x2 + (1 : Int32))] [] (xLay, I, L, (kT q R)) (0, 0) Φ))))) : sm_wp sm_P S d 304 1 [.long y0, .int x2] [] (xLay, I, L, (kT q R)) (0, 0) Φ := sm_wp_step (⟨fun q2 => ((h).1 q2), fun q2 => ⟨(((h).2 q2)).1, ⟨fun q1 => (((((h).2 q2)).2).1 q1), fun q1 => (((((h).2 q2)).2).2 q1)⟩⟩⟩)
theorem t_X9_endOfDigits_0 {S : sm_C} {d : Nat} {Φ : sm_Z → Prop} {I : sm_I} {L : sm_L} {R : sm_R} {q : Nat} {x1 : Int32} {x2 : Int32} (h : sm_wp sm_P S (d + 1) 295 1 [.ref 1, .int x2, .int x1] [] (xLay, I, L, (kT q R)) (0, 0) Φ) : sm_wp sm_P S (d + 1) 295 0 [.ref 1, .int x1, .int x2] [] (xLay, I, L, (kT q R)) (0, 0) Φ := sm_wp_step (h)
theorem t_X9_endOfDigits_1 {S : sm_C} {d : Nat} {Φ : sm_Z → Prop} {I : sm_I} {L : sm_L} {R : sm_R} {q : Nat} {x2 : Int32} {x3 : Int32} (h : ((x2 ≤ x3 → Φ (some (.int x3), (xLay, I, L, (kT q R)))) ∧ (¬ x2 ≤ x3 → (vp_in x3 2000) ∧ sm_wp sm_P S d 299 0 [.int (I 1 x3.toNatClampNeg)] [] (xLay, I, L, (kT q R)) (0, 0) (fun z => ∃ (r3 : Int32) (I1 : sm_I) (L2 : sm_L), z = (some (.int r3), (xLay, I1, L2, (kT q R))) ∧ ((r3 = 0 → Φ (some (.int x3), (xLay, I1, L2, (kT q R)))) ∧ (¬ r3 = 0 → sm_wp sm_P S (d + 1) 295 1 [.ref 1, .int x2, .int (x3 + (1 : Int32))] [] (xLay, I1, L2, (kT q R)) (0, 0) Φ)))))) : sm_wp sm_P S (d + 1) 295 1 [.ref 1, .int x2, .int x3] [] (xLay, I, L, (kT q R)) (0, 0) Φ := sm_wp_step (⟨fun q6 => ((h).1 q6), fun q6 => ⟨(((h).2 q6)).1, sm_ci0 ((((h).2 q6)).2) (fun r3 I1 L2 q5 => ⟨fun q4 => ((q5).1 q4), fun q4 => ((q5).2 q4)⟩)⟩⟩)
theorem t_X9_endOfLetters_0 {S : sm_C} {d : Nat} {Φ : sm_Z → Prop} {I : sm_I} {L : sm_L} {R : sm_R} {q : Nat} {x1 : Int32} {x2 : Int32} (h : sm_wp sm_P S (d + 1) 296 1 [.ref 1, .int x2, .int x1] [] (xLay, I, L, (kT q R)) (0, 0) Φ) : sm_wp sm_P S (d + 1) 296 0 [.ref 1, .int x1, .int x2] [] (xLay, I, L, (kT q R)) (0, 0) Φ := sm_wp_step (h)
theorem t_X9_endOfLetters_1 {S : sm_C} {d : Nat} {Φ : sm_Z → Prop} {I : sm_I} {L : sm_L} {R : sm_R} {q : Nat} {x2 : Int32} {x3 : Int32} (h : ((x2 ≤ x3 → Φ (some (.int x3), (xLay, I, L, (kT q R)))) ∧ (¬ x2 ≤ x3 → (vp_in x3 2000) ∧ sm_wp sm_P S d 300 0 [.int (I 1 x3.toNatClampNeg)] [] (xLay, I, L, (kT q R)) (0, 0) (fun z => ∃ (r3 : Int32) (I1 : sm_I) (L2 : sm_L), z = (some (.int r3), (xLay, I1, L2, (kT q R))) ∧ ((r3 = 0 → Φ (some (.int x3), (xLay, I1, L2, (kT q R)))) ∧ (¬ r3 = 0 → sm_wp sm_P S (d + 1) 296 1 [.ref 1, .int x2, .int (x3 + (1 : Int32))] [] (xLay, I1, L2, (kT q R)) (0, 0) Φ)))))) : sm_wp sm_P S (d + 1) 296 1 [.ref 1, .int x2, .int x3] [] (xLay, I, L, (kT q R)) (0, 0) Φ := sm_wp_step (⟨fun q6 => ((h).1 q6), fun q6 => ⟨(((h).2 q6)).1, sm_ci0 ((((h).2 q6)).2) (fun r3 I1 L2 q5 => ⟨fun q4 => ((q5).1 q4), fun q4 => ((q5).2 q4)⟩)⟩⟩)
theorem t_X9_scanOne_0 {S : sm_C} {d : Nat} {Φ : sm_Z → Prop} {I : sm_I} {L : sm_L} {R : sm_R} {q : Nat} {x2 : Int32} {x3 : Int32} (h : (vp_in (I 3 3) 502) ∧ ∀ I1 : sm_I, I1 = (sm_up I 5 (I 3 3).toNatClampNeg x2) → (vp_in x2 2000) ∧ sm_wp sm_P S d 300 0 [.int (I1 1 x2.toNatClampNeg)] [] (xLay, I1, L, (kT q R)) (0, 0) (fun z => ∃ (r4 : Int32) (I2 : sm_I) (L3 : sm_L), z = (some (.int r4), (xLay, I2, L3, (kT q R))) ∧ ((r4 = 0 → (vp_in x2 2000) ∧ sm_wp sm_P S d 299 0 [.int (I2 1 x2.toNatClampNeg)] [] (xLay, I2, L3, (kT q R)) (0, 0) (fun z => ∃ (r7 : Int32) (I5 : sm_I) (L6 : sm_L), z = (some (.int r7), (xLay, I5, L6, (kT q R))) ∧ ((r7 = 0 → (vp_in x2 2000) ∧ sm_wp sm_P S d 303 0 [.int (I5 1 x2.toNatClampNeg)] [] (xLay, I5, L6, (kT q R)) (0, 0) (fun z => ∃ (r10 : Int32) (I8 : sm_I) (L9 : sm_L), z = (some (.int r10), (xLay, I8, L9, (kT q R))) ∧ (vp_in (I5 3 3) 502) ∧ ∀ I11 : sm_I, I11 = (sm_up I8 4 (I5 3 3).toNatClampNeg r10) → (vp_in (I11 3 3) 502) ∧ ∀ L12 : sm_L, L12 = (sm_up L9 6 (I11 3 3).toNatClampNeg (0 : Int64)) → ∀ I13 : sm_I, I13 = (sm_up I11 3 3 ((I11 3 3) + (1 : Int32))) → Φ (some (.int (x2 + (1 : Int32))), (xLay, I13, L12, (kT q R))))) ∧ (¬ r7 = 0 → sm_wp sm_P S d 295 0 [.ref 1, .int x2, .int x3] [] (xLay, I5, L6, (kT q R)) (0, 0) (fun z => ∃ (r17 : Int32) (I15 : sm_I) (L16 : sm_L), z = (some (.int r17), (xLay, I15, L16, (kT q R))) ∧ sm_wp sm_P S (d + 1) 302 10 [.ref 3, .ref 1, .int x2, .int r17, .long (0 : Int64), .int x2] [] (xLay, I15, L16, (kT q R)) (0, 0) Φ))))) ∧ (¬ r4 = 0 → sm_wp sm_P S d 296 0 [.ref 1, .int x2, .int x3] [] (xLay, I2, L3, (kT q R)) (0, 0) (fun z => ∃ (r23 : Int32) (I21 : sm_I) (L22 : sm_L), z = (some (.int r23), (xLay, I21, L22, (kT q R))) ∧ sm_wp sm_P S (d + 1) 302 2 [.ref 3, .ref 1, .int x2, .int r23, .long (0 : Int64), .int x2] [] (xLay, I21, L22, (kT q R)) (0, 0) Φ))))) : sm_wp sm_P S (d + 1) 302 0 [.ref 3, .ref 1, .int x2, .int x3] [] (xLay, I, L, (kT q R)) (0, 0) Φ := sm_wp_step (⟨(h).1, ⟨(((h).2 _ rfl)).1, sm_ci0 ((((h).2 _ rfl)).2) (fun r4 I2 L3 q26 => ⟨fun q25 => ⟨(((q26).1 q25)).1, sm_ci0 ((((q26).1 q25)).2) (fun r7 I5 L6 q20 => ⟨fun q19 => ⟨(((q20).1 q19)).1, sm_ci0 ((((q20).1 q19)).2) (fun r10 I8 L9 q14 => ⟨(q14).1, ⟨(((q14).2 _ rfl)).1, (((((q14).2 _ rfl)).2 _ rfl) _ rfl)⟩⟩)⟩, fun q19 => sm_ci0 (((q20).2 q19)) (fun r17 I15 L16 q18 => q18)⟩)⟩, fun q25 => sm_ci0 (((q26).2 q25)) (fun r23 I21 L22 q24 => q24)⟩)⟩⟩)
theorem t_X9_scanOne_2 {S : sm_C} {d : Nat} {Φ : sm_Z → Prop} {I : sm_I} {L : sm_L} {R : sm_R} {q : Nat} {x2 : Int32} {x4 : Int32} {y5 : Int64} {x7 : Int32} (h : ((x4 ≤ x7 → (((x4 - x2) ≤ (8 : Int32) → sm_wp sm_P S d 304 0 [.long y5] [] (xLay, I, L, (kT q R)) (0, 0) (fun z => ∃ (r3 : Int32) (I1 : sm_I) (L2 : sm_L), z = (some (.int r3), (xLay, I1, L2, (kT q R))) ∧ (vp_in (I 3 3) 502) ∧ ∀ I4 : sm_I, I4 = (sm_up I1 4 (I 3 3).toNatClampNeg r3) → (vp_in (I4 3 3) 502) ∧ ∀ L5 : sm_L, L5 = (sm_up L2 6 (I4 3 3).toNatClampNeg y5) → ∀ I6 : sm_I, I6 = (sm_up I4 3 3 ((I4 3 3) + (1 : Int32))) → Φ (some (.int x4), (xLay, I6, L5, (kT q R))))) ∧ (¬ (x4 - x2) ≤ (8 : Int32) → (vp_in (I 3 3) 502) ∧ ∀ I8 : sm_I, I8 = (sm_up I 4 (I 3 3).toNatClampNeg (20 : Int32)) → (vp_in (I8 3 3) 502) ∧ ∀ L9 : sm_L, L9 = (sm_up L 6 (I8 3 3).toNatClampNeg y5) → ∀ I10 : sm_I, I10 = (sm_up I8 3 3 ((I8 3 3) + (1 : Int32))) → Φ (some (.int x4), (xLay, I10, L9, (kT q R)))))) ∧ (¬ x4 ≤ x7 → (vp_in x7 2000) ∧ ∀ n12 : Int64, n12 = ((y5 <<< (((8 : Int32)).toInt64 &&& 63)) ||| ((I 1 x7.toNatClampNeg)).toInt64) → sm_wp sm_P S (d + 1) 302 2 [.ref 3, .ref 1, .int x2, .int x4, .long n12, .int (x7 + (1 : Int32))] [] (xLay, I, L, (kT q R)) (0, 0) Φ))) : sm_wp sm_P S (d + 1) 302 2 [.ref 3, .ref 1, .int x2, .int x4, .long y5, .int x7] [] (xLay, I, L, (kT q R)) (0, 0) Φ := sm_wp_step (⟨fun q13 => ⟨fun q11 => sm_ci0 (((((h).1 q13)).1 q11)) (fun r3 I1 L2 q7 => ⟨(q7).1, ⟨(((q7).2 _ rfl)).1, (((((q7).2 _ rfl)).2 _ rfl) _ rfl)⟩⟩), fun q11 => ⟨(((((h).1 q13)).2 q11)).1, ⟨(((((((h).1 q13)).2 q11)).2 _ rfl)).1, (((((((((h).1 q13)).2 q11)).2 _ rfl)).2 _ rfl) _ rfl)⟩⟩⟩, fun q13 => ⟨(((h).2 q13)).1, ((((h).2 q13)).2 _ rfl)⟩⟩)
theorem t_X9_scanOne_10 {S : sm_C} {d : Nat} {Φ : sm_Z → Prop} {I : sm_I} {L : sm_L} {R : sm_R} {q : Nat} {x2 : Int32} {x4 : Int32} {y5 : Int64} {x7 : Int32} (h : ((x4 ≤ x7 → (((x4 - x2) ≤ (4 : Int32) → (vp_in (I 3 3) 502) ∧ ∀ I1 : sm_I, I1 = (sm_up I 4 (I 3 3).toNatClampNeg (16 : Int32)) → (vp_in (I1 3 3) 502) ∧ ∀ L2 : sm_L, L2 = (sm_up L 6 (I1 3 3).toNatClampNeg y5) → ∀ I3 : sm_I, I3 = (sm_up I1 3 3 ((I1 3 3) + (1 : Int32))) → Φ (some (.int x4), (xLay, I3, L2, (kT q R)))) ∧ (¬ (x4 - x2) ≤ (4 : Int32) → (vp_in (I 3 3) 502) ∧ ∀ I4 : sm_I, I4 = (sm_up I 4 (I 3 3).toNatClampNeg (20 : Int32)) → (vp_in (I4 3 3) 502) ∧ ∀ L5 : sm_L, L5 = (sm_up L 6 (I4 3 3).toNatClampNeg y5) → ∀ I6 : sm_I, I6 = (sm_up I4 3 3 ((I4 3 3) + (1 : Int32))) → Φ (some (.int x4), (xLay, I6, L5, (kT q R)))))) ∧ (¬ x4 ≤ x7 → (vp_in x7 2000) ∧ ∀ n8 : Int64, n8 = (((y5 * (10 : Int64)) + ((I 1 x7.toNatClampNeg)).toInt64) - (48 : Int64)) → sm_wp sm_P S (d + 1) 302 10 [.ref 3, .ref 1, .int x2, .int x4, .long n8, .int (x7 + (1 : Int32))] [] (xLay, I, L, (kT q R)) (0, 0) Φ))) : sm_wp sm_P S (d + 1) 302 10 [.ref 3, .ref 1, .int x2, .int x4, .long y5, .int x7] [] (xLay, I, L, (kT q R)) (0, 0) Φ := sm_wp_step (⟨fun q9 => ⟨fun q7 => ⟨(((((h).1 q9)).1 q7)).1, ⟨(((((((h).1 q9)).1 q7)).2 _ rfl)).1, (((((((((h).1 q9)).1 q7)).2 _ rfl)).2 _ rfl) _ rfl)⟩⟩, fun q7 => ⟨(((((h).1 q9)).2 q7)).1, ⟨(((((((h).1 q9)).2 q7)).2 _ rfl)).1, (((((((((h).1 q9)).2 q7)).2 _ rfl)).2 _ rfl) _ rfl)⟩⟩⟩, fun q9 => ⟨(((h).2 q9)).1, ((((h).2 q9)).2 _ rfl)⟩⟩)
theorem t_X9_scan_0 {S : sm_C} {d : Nat} {Φ : sm_Z → Prop} {I : sm_I} {L : sm_L} {R : sm_R} {q : Nat} {x2 : Int32} (h : sm_wp sm_P S (d + 1) 301 1 [.ref 3, .ref 1, .int x2, .int (0 : Int32), .int (0 : Int32)] [] (xLay, (sm_up I 3 3 (0 : Int32)), L, (kT q R)) (0, 0) Φ) : sm_wp sm_P S (d + 1) 301 0 [.ref 3, .ref 1, .int x2] [] (xLay, I, L, (kT q R)) (0, 0) Φ := sm_wp_step (h)
theorem t_X9_scan_1 {S : sm_C} {d : Nat} {Φ : sm_Z → Prop} {I : sm_I} {L : sm_L} {R : sm_R} {q : Nat} {x2 : Int32} {x3 : Int32} {x4 : Int32} (h : (((2000 : Int32) ≤ x4 → (vp_in (I 3 3) 502) ∧ ∀ I1 : sm_I, I1 = (sm_up I 4 (I 3 3).toNatClampNeg (21 : Int32)) → (vp_in (I1 3 3) 502) ∧ ∀ I2 : sm_I, I2 = (sm_up I1 5 (I1 3 3).toNatClampNeg x2) → Φ (none, (xLay, I2, L, (kT q R)))) ∧ (¬ (2000 : Int32) ≤ x4 → ((x2 ≤ x3 → (vp_in (I 3 3) 502) ∧ ∀ I3 : sm_I, I3 = (sm_up I 4 (I 3 3).toNatClampNeg (21 : Int32)) → (vp_in (I3 3 3) 502) ∧ ∀ I4 : sm_I, I4 = (sm_up I3 5 (I3 3 3).toNatClampNeg x2) → Φ (none, (xLay, I4, L, (kT q R)))) ∧ (¬ x2 ≤ x3 → (((500 : Int32) < (I 3 3) → (vp_in (I 3 3) 502) ∧ ∀ I5 : sm_I, I5 = (sm_up I 4 (I 3 3).toNatClampNeg (21 : Int32)) → (vp_in (I5 3 3) 502) ∧ ∀ I6 : sm_I, I6 = (sm_up I5 5 (I5 3 3).toNatClampNeg x2) → Φ (none, (xLay, I6, L, (kT q R)))) ∧ (¬ (500 : Int32) < (I 3 3) → (vp_in x3 2000) ∧ sm_wp sm_P S d 298 0 [.int (I 1 x3.toNatClampNeg)] [] (xLay, I, L, (kT q R)) (0, 0) (fun z => ∃ (r9 : Int32) (I7 : sm_I) (L8 : sm_L), z = (some (.int r9), (xLay, I7, L8, (kT q R))) ∧ ((r9 = 0 → sm_wp sm_P S d 302 0 [.ref 3, .ref 1, .int x3, .int x2] [] (xLay, I7, L8, (kT q R)) (0, 0) (fun z => ∃ (r12 : Int32) (I10 : sm_I) (L11 : sm_L), z = (some (.int r12), (xLay, I10, L11, (kT q R))) ∧ sm_wp sm_P S (d + 1) 301 1 [.ref 3, .ref 1, .int x2, .int r12, .int (x4 + (1 : Int32))] [] (xLay, I10, L11, (kT q R)) (0, 0) Φ)) ∧ (¬ r9 = 0 → sm_wp sm_P S (d + 1) 301 1 [.ref 3, .ref 1, .int x2, .int (x3 + (1 : Int32)), .int (x4 + (1 : Int32))] [] (xLay, I7, L8, (kT q R)) (0, 0) Φ)))))))))) : sm_wp sm_P S (d + 1) 301 1 [.ref 3, .ref 1, .int x2, .int x3, .int x4] [] (xLay, I, L, (kT q R)) (0, 0) Φ := sm_wp_step (⟨fun q18 => ⟨(((h).1 q18)).1, ⟨(((((h).1 q18)).2 _ rfl)).1, ((((((h).1 q18)).2 _ rfl)).2 _ rfl)⟩⟩, fun q18 => ⟨fun q17 => ⟨(((((h).2 q18)).1 q17)).1, ⟨(((((((h).2 q18)).1 q17)).2 _ rfl)).1, ((((((((h).2 q18)).1 q17)).2 _ rfl)).2 _ rfl)⟩⟩, fun q17 => ⟨fun q16 => ⟨(((((((h).2 q18)).2 q17)).1 q16)).1, ⟨(((((((((h).2 q18)).2 q17)).1 q16)).2 _ rfl)).1, ((((((((((h).2 q18)).2 q17)).1 q16)).2 _ rfl)).2 _ rfl)⟩⟩, fun q16 => ⟨(((((((h).2 q18)).2 q17)).2 q16)).1, sm_ci0 ((((((((h).2 q18)).2 q17)).2 q16)).2) (fun r9 I7 L8 q15 => ⟨fun q14 => sm_ci0 (((q15).1 q14)) (fun r12 I10 L11 q13 => q13), fun q14 => ((q15).2 q14)⟩)⟩⟩⟩⟩)
theorem t_X3_follow_0 {S : sm_C} {d : Nat} {Φ : sm_Z → Prop} {I : sm_I} {L : sm_L} {R : sm_R} {q : Nat} {x0 : Int32} {x1 : Int32} (h : sm_wp sm_P S d 241 1 [.int x0, .int x1, .int (0 : Int32)] [] (xLay, I, L, (kT q R)) (0, 0) Φ) : sm_wp sm_P S d 241 0 [.int x0, .int x1] [] (xLay, I, L, (kT q R)) (0, 0) Φ := sm_wp_step (h)
theorem t_X3_follow_1 {S : sm_C} {d : Nat} {Φ : sm_Z → Prop} {I : sm_I} {L : sm_L} {R : sm_R} {q : Nat} {x0 : Int32} {x1 : Int32} {x2 : Int32} (h : (((Int32.ofNat sm_steps.length) ≤ (x2 + (2 : Int32)) → Φ (some (.int (-1 : Int32)), (xLay, I, L, (kT q R)))) ∧ (¬ (Int32.ofNat sm_steps.length) ≤ (x2 + (2 : Int32)) → (vp_in x2 sm_steps.length) ∧ (((sm_steps.getD x2.toNatClampNeg 0) = x0 → (vp_in (x2 + (1 : Int32)) sm_steps.length) ∧ (((sm_steps.getD (x2 + (1 : Int32)).toNatClampNeg 0) = x1 → (vp_in (x2 + (2 : Int32)) sm_steps.length) ∧ Φ (some (.int (sm_steps.getD (x2 + (2 : Int32)).toNatClampNeg 0)), (xLay, I, L, (kT q R)))) ∧ (¬ (sm_steps.getD (x2 + (1 : Int32)).toNatClampNeg 0) = x1 → sm_wp sm_P S d 241 1 [.int x0, .int x1, .int (x2 + (3 : Int32))] [] (xLay, I, L, (kT q R)) (0, 0) Φ))) ∧ (¬ (sm_steps.getD x2.toNatClampNeg 0) = x0 → sm_wp sm_P S d 241 1 [.int x0, .int x1, .int (x2 + (3 : Int32))] [] (xLay, I, L, (kT q R)) (0, 0) Φ))))) : sm_wp sm_P S d 241 1 [.int x0, .int x1, .int x2] [] (xLay, I, L, (kT q R)) (0, 0) Φ := sm_wp_step (⟨fun q3 => ((h).1 q3), fun q3 => ⟨(((h).2 q3)).1, ⟨fun q2 => ⟨((((((h).2 q3)).2).1 q2)).1, ⟨fun q1 => ⟨(((((((((h).2 q3)).2).1 q2)).2).1 q1)).1, (((((((((h).2 q3)).2).1 q2)).2).1 q1)).2⟩, fun q1 => ((((((((h).2 q3)).2).1 q2)).2).2 q1)⟩⟩, fun q2 => (((((h).2 q3)).2).2 q2)⟩⟩⟩)
theorem t_X3_hasRoom_0 {S : sm_C} {d : Nat} {Φ : sm_Z → Prop} {I : sm_I} {L : sm_L} {R : sm_R} {q : Nat} {x1 : Int32} {x2 : Int32} (h : ((x1 = 0 → (((Int32.ofNat 15) ≤ x2 → ((x2 = (9 : Int32) → ∀ I7 : sm_I, I7 = (sm_up I 7 2 ((I 7 2) + (1 : Int32))) → sm_wp sm_P S d 242 13 [.ref 7] [] (xLay, (sm_up I7 7 3 (1 : Int32)), L, (kT q R)) (0, 0) Φ) ∧ (¬ x2 = (9 : Int32) → ((x2 = (13 : Int32) → ∀ I5 : sm_I, I5 = (sm_up I 7 3 ((I 7 3) + (1 : Int32))) → sm_wp sm_P S d 242 13 [.ref 7] [] (xLay, I5, L, (kT q R)) (0, 0) Φ) ∧ (¬ x2 = (13 : Int32) → sm_wp sm_P S d 242 13 [.ref 7] [] (xLay, I, L, (kT q R)) (0, 0) Φ))))) ∧ (¬ (Int32.ofNat 15) ≤ x2 → ((x2 = (8 : Int32) → ∀ I13 : sm_I, I13 = (sm_up (sm_up I 7 1 x2) 7 2 (1 : Int32)) → (vp_in (6 : Int32) 15) ∧ ∀ n14 : Int32, n14 = (((sm_up I13 7 3 (1 : Int32)) 8 (6 : Int32).toNatClampNeg) + (1 : Int32)) → (vp_in (6 : Int32) 15) ∧ ∀ I15 : sm_I, I15 = (sm_up (sm_up I13 7 3 (1 : Int32)) 8 (6 : Int32).toNatClampNeg n14) → (vp_in (6 : Int32) 15) ∧ (vp_in (6 : Int32) sm_room.length) ∧ (((sm_room.getD (6 : Int32).toNatClampNeg 0) < (I15 8 (6 : Int32).toNatClampNeg) → Φ (some (.int (0 : Int32)), (xLay, I15, L, (kT q R)))) ∧ (¬ (sm_room.getD (6 : Int32).toNatClampNeg 0) < (I15 8 (6 : Int32).toNatClampNeg) → Φ (some (.int (1 : Int32)), (xLay, I15, L, (kT q R)))))) ∧ (¬ x2 = (8 : Int32) → ∀ I9 : sm_I, I9 = (sm_up (sm_up I 7 1 x2) 7 2 (1 : Int32)) → (vp_in x2 15) ∧ ∀ n10 : Int32, n10 = (((sm_up I9 7 3 (1 : Int32)) 8 x2.toNatClampNeg) + (1 : Int32)) → (vp_in x2 15) ∧ ∀ I11 : sm_I, I11 = (sm_up (sm_up I9 7 3 (1 : Int32)) 8 x2.toNatClampNeg n10) → (vp_in x2 15) ∧ (vp_in x2 sm_room.length) ∧ (((sm_room.getD x2.toNatClampNeg 0) < (I11 8 x2.toNatClampNeg) → Φ (some (.int (0 : Int32)), (xLay, I11, L, (kT q R)))) ∧ (¬ (sm_room.getD x2.toNatClampNeg 0) < (I11 8 x2.toNatClampNeg) → Φ (some (.int (1 : Int32)), (xLay, I11, L, (kT q R)))))))))) ∧ (¬ x1 = 0 → ((x2 = (9 : Int32) → ∀ I3 : sm_I, I3 = (sm_up I 7 2 ((I 7 2) + (1 : Int32))) → sm_wp sm_P S d 242 13 [.ref 7] [] (xLay, (sm_up I3 7 3 (1 : Int32)), L, (kT q R)) (0, 0) Φ) ∧ (¬ x2 = (9 : Int32) → ((x2 = (13 : Int32) → ∀ I1 : sm_I, I1 = (sm_up I 7 3 ((I 7 3) + (1 : Int32))) → sm_wp sm_P S d 242 13 [.ref 7] [] (xLay, I1, L, (kT q R)) (0, 0) Φ) ∧ (¬ x2 = (13 : Int32) → sm_wp sm_P S d 242 13 [.ref 7] [] (xLay, I, L, (kT q R)) (0, 0) Φ))))))) : sm_wp sm_P S d 242 0 [.ref 7, .int x1, .int x2] [] (xLay, I, L, (kT q R)) (0, 0) Φ := sm_wp_step (⟨fun q19 => ⟨fun q18 => ⟨fun q8 => (((((((h).1 q19)).1 q18)).1 q8) _ rfl), fun q8 => ⟨fun q6 => (((((((((h).1 q19)).1 q18)).2 q8)).1 q6) _ rfl), fun q6 => ((((((((h).1 q19)).1 q18)).2 q8)).2 q6)⟩⟩, fun q18 => ⟨fun q17 => ⟨((((((((h).1 q19)).2 q18)).1 q17) _ rfl)).1, ⟨((((((((((h).1 q19)).2 q18)).1 q17) _ rfl)).2 _ rfl)).1, ⟨((((((((((((h).1 q19)).2 q18)).1 q17) _ rfl)).2 _ rfl)).2 _ rfl)).1, ⟨(((((((((((((h).1 q19)).2 q18)).1 q17) _ rfl)).2 _ rfl)).2 _ rfl)).2).1, ⟨fun q16 => ⟨Or.inl rfl, (((((((((((((((h).1 q19)).2 q18)).1 q17) _ rfl)).2 _ rfl)).2 _ rfl)).2).2).1 q16)⟩, fun q16 => ⟨Or.inr rfl, (((((((((((((((h).1 q19)).2 q18)).1 q17) _ rfl)).2 _ rfl)).2 _ rfl)).2).2).2 q16)⟩⟩⟩⟩⟩⟩, fun q17 => ⟨((((((((h).1 q19)).2 q18)).2 q17) _ rfl)).1, ⟨((((((((((h).1 q19)).2 q18)).2 q17) _ rfl)).2 _ rfl)).1, ⟨((((((((((((h).1 q19)).2 q18)).2 q17) _ rfl)).2 _ rfl)).2 _ rfl)).1, ⟨(((((((((((((h).1 q19)).2 q18)).2 q17) _ rfl)).2 _ rfl)).2 _ rfl)).2).1, ⟨fun q12 => ⟨Or.inl rfl, (((((((((((((((h).1 q19)).2 q18)).2 q17) _ rfl)).2 _ rfl)).2 _ rfl)).2).2).1 q12)⟩, fun q12 => ⟨Or.inr rfl, (((((((((((((((h).1 q19)).2 q18)).2 q17) _ rfl)).2 _ rfl)).2 _ rfl)).2).2).2 q12)⟩⟩⟩⟩⟩⟩⟩⟩, fun q19 => ⟨fun q4 => (((((h).2 q19)).1 q4) _ rfl), fun q4 => ⟨fun q2 => (((((((h).2 q19)).2 q4)).1 q2) _ rfl), fun q2 => ((((((h).2 q19)).2 q4)).2 q2)⟩⟩⟩)
theorem t_X3_hasRoom_13 {S : sm_C} {d : Nat} {Φ : sm_Z → Prop} {I : sm_I} {L : sm_L} {R : sm_R} {q : Nat} (h : (((4 : Int32) < (I 7 2) → sm_wp sm_P S d 242 17 [] [.int (0 : Int32)] (xLay, I, L, (kT q R)) (0, 0) Φ) ∧ (¬ (4 : Int32) < (I 7 2) → (((3 : Int32) < (I 7 3) → sm_wp sm_P S d 242 17 [] [.int (0 : Int32)] (xLay, I, L, (kT q R)) (0, 0) Φ) ∧ (¬ (3 : Int32) < (I 7 3) → sm_wp sm_P S d 242 17 [] [.int (1 : Int32)] (xLay, I, L, (kT q R)) (0, 0) Φ))))) : sm_wp sm_P S d 242 13 [.ref 7] [] (xLay, I, L, (kT q R)) (0, 0) Φ := sm_wp_step (⟨fun q2 => ((h).1 q2), fun q2 => ⟨fun q1 => ((((h).2 q2)).1 q1), fun q1 => ((((h).2 q2)).2 q1)⟩⟩)
theorem t_X3_hasRoom_17 {S : sm_C} {d : Nat} {Φ : sm_Z → Prop} {I : sm_I} {L : sm_L} {R : sm_R} {q : Nat} {s0 : Int32} (h : (s0 = 0 ∨ s0 = 1) ∧ Φ (some (.int s0), (xLay, I, L, (kT q R)))) : sm_wp sm_P S d 242 17 [] [.int s0] (xLay, I, L, (kT q R)) (0, 0) Φ := sm_wp_step (⟨(h).1, (h).2⟩)
theorem t_X3_faultOf_0 {S : sm_C} {d : Nat} {Φ : sm_Z → Prop} {I : sm_I} {L : sm_L} {R : sm_R} {q : Nat} {x1 : Int32} {x2 : Int32} {x3 : Int32} (h : ((x2 = (9 : Int32) → sm_wp sm_P S (d + 1) 240 4 [.ref 7, .int x1, .int x2, .int x3] [.int (1 : Int32)] (xLay, I, L, (kT q R)) (0, 0) Φ) ∧ (¬ x2 = (9 : Int32) → ((x2 = (13 : Int32) → sm_wp sm_P S (d + 1) 240 4 [.ref 7, .int x1, .int x2, .int x3] [.int (1 : Int32)] (xLay, I, L, (kT q R)) (0, 0) Φ) ∧ (¬ x2 = (13 : Int32) → sm_wp sm_P S (d + 1) 240 4 [.ref 7, .int x1, .int x2, .int x3] [.int (0 : Int32)] (xLay, I, L, (kT q R)) (0, 0) Φ))))) : sm_wp sm_P S (d + 1) 240 0 [.ref 7, .int x1, .int x2, .int x3] [] (xLay, I, L, (kT q R)) (0, 0) Φ := sm_wp_step (⟨fun q2 => ((h).1 q2), fun q2 => ⟨fun q1 => ((((h).2 q2)).1 q1), fun q1 => ((((h).2 q2)).2 q1)⟩⟩)
theorem t_X3_faultOf_4 {S : sm_C} {d : Nat} {Φ : sm_Z → Prop} {I : sm_I} {L : sm_L} {R : sm_R} {q : Nat} {x1 : Int32} {x2 : Int32} {x3 : Int32} {s0 : Int32} (h : sm_wp sm_P S d 241 0 [.int x1, .int x2] [] (xLay, I, L, (kT q R)) (0, 0) (fun z => ∃ (r3 : Int32) (I1 : sm_I) (L2 : sm_L), z = (some (.int r3), (xLay, I1, L2, (kT q R))) ∧ ((r3 = (-1 : Int32) → Φ (some (.int (1 : Int32)), (xLay, I1, L2, (kT q R)))) ∧ (¬ r3 = (-1 : Int32) → ((s0 = 0 → ((x2 = (21 : Int32) → Φ (some (.int (0 : Int32)), (xLay, I1, L2, (kT q R)))) ∧ (¬ x2 = (21 : Int32) → (((500 : Int32) ≤ x3 → Φ (some (.int (2 : Int32)), (xLay, I1, L2, (kT q R)))) ∧ (¬ (500 : Int32) ≤ x3 → sm_wp sm_P S d 242 0 [.ref 7, .int x1, .int x2] [] (xLay, I1, L2, (kT q R)) (0, 0) (fun z => ∃ (r6 : Int32) (I4 : sm_I) (L5 : sm_L), z = (some (.int r6), (xLay, I4, L5, (kT q R))) ∧ ((r6 = 0 → Φ (some (.int (2 : Int32)), (xLay, I4, L5, (kT q R)))) ∧ (¬ r6 = 0 → Φ (some (.int (0 : Int32)), (xLay, I4, L5, (kT q R))))))))))) ∧ (¬ s0 = 0 → (((I1 7 1) = (12 : Int32) → Φ (some (.int (1 : Int32)), (xLay, I1, L2, (kT q R)))) ∧ (¬ (I1 7 1) = (12 : Int32) → ((x2 = (21 : Int32) → Φ (some (.int (0 : Int32)), (xLay, I1, L2, (kT q R)))) ∧ (¬ x2 = (21 : Int32) → (((500 : Int32) ≤ x3 → Φ (some (.int (2 : Int32)), (xLay, I1, L2, (kT q R)))) ∧ (¬ (500 : Int32) ≤ x3 → sm_wp sm_P S d 242 0 [.ref 7, .int x1, .int x2] [] (xLay, I1, L2, (kT q R)) (0, 0) (fun z => ∃ (r13 : Int32) (I11 : sm_I) (L12 : sm_L), z = (some (.int r13), (xLay, I11, L12, (kT q R))) ∧ ((r13 = 0 → Φ (some (.int (2 : Int32)), (xLay, I11, L12, (kT q R)))) ∧ (¬ r13 = 0 → Φ (some (.int (0 : Int32)), (xLay, I11, L12, (kT q R)))))))))))))))))) : sm_wp sm_P S (d + 1) 240 4 [.ref 7, .int x1, .int x2, .int x3] [.int s0] (xLay, I, L, (kT q R)) (0, 0) Φ := sm_wp_step (sm_ci0 (h) (fun r3 I1 L2 q21 => ⟨fun q20 => ((q21).1 q20), fun q20 => ⟨fun q19 => ⟨fun q10 => ((((((q21).2 q20)).1 q19)).1 q10), fun q10 => ⟨fun q9 => ((((((((q21).2 q20)).1 q19)).2 q10)).1 q9), fun q9 => sm_ci0 (((((((((q21).2 q20)).1 q19)).2 q10)).2 q9)) (fun r6 I4 L5 q8 => ⟨fun q7 => ((q8).1 q7), fun q7 => ((q8).2 q7)⟩)⟩⟩, fun q19 => ⟨fun q18 => ((((((q21).2 q20)).2 q19)).1 q18), fun q18 => ⟨fun q17 => ((((((((q21).2 q20)).2 q19)).2 q18)).1 q17), fun q17 => ⟨fun q16 => ((((((((((q21).2 q20)).2 q19)).2 q18)).2 q17)).1 q16), fun q16 => sm_ci0 (((((((((((q21).2 q20)).2 q19)).2 q18)).2 q17)).2 q16)) (fun r13 I11 L12 q15 => ⟨fun q14 => ((q15).1 q14), fun q14 => ((q15).2 q14)⟩)⟩⟩⟩⟩⟩))
theorem t_X3_clear_0 {S : sm_C} {d : Nat} {Φ : sm_Z → Prop} {I : sm_I} {L : sm_L} {R : sm_R} {q : Nat} (h : sm_wp sm_P S d 306 0 [.ref 8, .int (0 : Int32)] [] (xLay, I, L, (kT q R)) (0, 0) (fun z => ∃ (I1 : sm_I) (L2 : sm_L), z = (none, (xLay, I1, L2, (kT q R))) ∧ Φ (none, (xLay, (sm_up I1 7 1 (0 : Int32)), L2, (kT q R))))) : sm_wp sm_P S (d + 1) 239 0 [.ref 7] [] (xLay, I, L, (kT q R)) (0, 0) Φ := sm_wp_step (sm_cv0 (h) (fun I1 L2 q4 => q4))
theorem t_X7_syntaxFault_0 {S : sm_C} {d : Nat} {Φ : sm_Z → Prop} {I : sm_I} {L : sm_L} {R : sm_R} {q : Nat} (h : sm_wp sm_P S d 239 0 [.ref 7] [] (xLay, I, L, (kT q R)) (0, 0) (fun z => ∃ (I1 : sm_I) (L2 : sm_L), z = (none, (xLay, I1, L2, (kT q R))) ∧ sm_wp sm_P S (d + 1) 277 1 [.ref 2, .int (0 : Int32), .int (0 : Int32)] [] (xLay, I1, L2, (kT q R)) (0, 0) Φ)) : sm_wp sm_P S (d + 1) 277 0 [.ref 2] [] (xLay, I, L, (kT q R)) (0, 0) Φ := sm_wp_step (sm_cv0 (h) (fun I1 L2 q4 => q4))
theorem t_X7_syntaxFault_1 {S : sm_C} {d : Nat} {Φ : sm_Z → Prop} {I : sm_I} {L : sm_L} {R : sm_R} {q : Nat} {x1 : Int32} {x2 : Int32} (h : (((I 3 3) < x2 → Φ (some (.int (0 : Int32)), (xLay, I, L, (kT q R)))) ∧ (¬ (I 3 3) < x2 → (vp_in x2 502) ∧ sm_wp sm_P S d 240 0 [.ref 7, .int x1, .int (I 4 x2.toNatClampNeg), .int x2] [] (xLay, I, L, (kT q R)) (0, 0) (fun z => ∃ (r3 : Int32) (I1 : sm_I) (L2 : sm_L), z = (some (.int r3), (xLay, I1, L2, (kT q R))) ∧ ((r3 = 0 → (vp_in x2 502) ∧ sm_wp sm_P S d 241 0 [.int x1, .int (I1 4 x2.toNatClampNeg)] [] (xLay, I1, L2, (kT q R)) (0, 0) (fun z => ∃ (r6 : Int32) (I4 : sm_I) (L5 : sm_L), z = (some (.int r6), (xLay, I4, L5, (kT q R))) ∧ sm_wp sm_P S (d + 1) 277 1 [.ref 2, .int r6, .int (x2 + (1 : Int32))] [] (xLay, I4, L5, (kT q R)) (0, 0) Φ)) ∧ (¬ r3 = 0 → (vp_in x2 502) ∧ ∀ I8 : sm_I, I8 = (sm_up I1 2 11 (I1 5 x2.toNatClampNeg)) → Φ (some (.int r3), (xLay, I8, L2, (kT q R))))))))) : sm_wp sm_P S (d + 1) 277 1 [.ref 2, .int x1, .int x2] [] (xLay, I, L, (kT q R)) (0, 0) Φ := sm_wp_step (⟨fun q11 => ((h).1 q11), fun q11 => ⟨(((h).2 q11)).1, sm_ci0 ((((h).2 q11)).2) (fun r3 I1 L2 q10 => ⟨fun q9 => ⟨(((q10).1 q9)).1, sm_ci0 ((((q10).1 q9)).2) (fun r6 I4 L5 q7 => q7)⟩, fun q9 => ⟨(((q10).2 q9)).1, ((((q10).2 q9)).2 _ rfl)⟩⟩)⟩⟩)
end
section
/-! THE TOKENS of a tape, as a function of its bytes -/
def tk_bl (x : Int32) : Bool := decide (x = 9) || decide (x = 10) || decide (x = 13) || decide (x = 32)
def tk_le (x : Int32) : Bool := decide (97 ≤ x.toInt) && decide (x.toInt ≤ 122)
def tk_di (x : Int32) : Bool := decide (48 ≤ x.toInt) && decide (x.toInt ≤ 57)
def tk_run (f : Int32 → Bool) (b : Nat → Int32) (n : Nat) : Nat → Nat → Nat
  | 0, p => p
  | k + 1, p => if p < n ∧ f (b p) = true then tk_run f b n k (p + 1) else p
/-- the end of a run of such bytes -/
def tk_end (f : Int32 → Bool) (b : Nat → Int32) (n p : Nat) : Nat := tk_run f b n (n - p) p
theorem tk_end_s {f : Int32 → Bool} {b : Nat → Int32} {n p : Nat} (h : p < n) (hf : f (b p) = true) : tk_end f b n p = tk_end f b n (p + 1) := by
  unfold tk_end
  rw [show n - p = (n - (p + 1)) + 1 by omega]
  show (if p < n ∧ f (b p) = true then _ else _) = _
  rw [if_pos ⟨h, hf⟩]
theorem tk_end_n {f : Int32 → Bool} {b : Nat → Int32} {n p : Nat} (h : ¬ (p < n ∧ f (b p) = true)) : tk_end f b n p = p := by
  unfold tk_end
  cases n - p with
  | zero => rfl
  | succ k =>
    show (if p < n ∧ f (b p) = true then _ else _) = _
    rw [if_neg h]
theorem tk_run_le {f : Int32 → Bool} {b : Nat → Int32} {n : Nat} : ∀ (k p : Nat), p ≤ tk_run f b n k p ∧ tk_run f b n k p ≤ p + k := by
  intro k
  induction k with
  | zero => intro p; exact ⟨Nat.le_refl _, Nat.le_refl _⟩
  | succ k ih =>
    intro p
    show p ≤ (if p < n ∧ f (b p) = true then tk_run f b n k (p + 1) else p) ∧ (if p < n ∧ f (b p) = true then tk_run f b n k (p + 1) else p) ≤ p + (k + 1)
    by_cases c : p < n ∧ f (b p) = true
    · rw [if_pos c]; have := ih (p + 1); omega
    · rw [if_neg c]; omega
theorem tk_end_le {f : Int32 → Bool} {b : Nat → Int32} {n p : Nat} : p ≤ tk_end f b n p := (tk_run_le _ _).1
theorem tk_end_n2 {f : Int32 → Bool} {b : Nat → Int32} {n p : Nat} (h : p ≤ n) : tk_end f b n p ≤ n := by
  have := (tk_run_le (f := f) (b := b) (n := n) (n - p) p).2
  unfold tk_end; omega
/-- the bytes from p on, k of them, in a number -/
def tk_cd (f : Int64 → Int32 → Int64) (b : Nat → Int32) (p : Nat) : Nat → Int64
  | 0 => 0
  | k + 1 => f (tk_cd f b p k) (b (p + k))
def tk_f8 (s : Int64) (x : Int32) : Int64 := (s <<< (((8 : Int32)).toInt64 &&& 63)) ||| (x).toInt64
def tk_f10 (s : Int64) (x : Int32) : Int64 := ((s * (10 : Int64)) + (x).toInt64) - (48 : Int64)
def tk_wd (y : Int64) : Nat → Nat → Int32
  | 0, _ => 15
  | k + 1, i => if sm_words.getD i 0 = y then Int32.ofNat i else tk_wd y k (i + 1)
def tk_sg (x : Int32) : Int32 := if x.toInt = 45 then 19 else if x.toInt = 58 then 18 else if x.toInt = 59 then 17 else 20
/-- where the TOKEN at p ends -/
def tk_nx (b : Nat → Int32) (n p : Nat) : Nat := if tk_le (b p) = true then tk_end tk_le b n p else if tk_di (b p) = true then tk_end tk_di b n p else p + 1
def tk_kd (b : Nat → Int32) (n p : Nat) : Int32 := if tk_le (b p) = true then (if tk_end tk_le b n p - p ≤ 8 then tk_wd (tk_cd tk_f8 b p (tk_end tk_le b n p - p)) 15 0 else 20) else if tk_di (b p) = true then (if tk_end tk_di b n p - p ≤ 4 then 16 else 20) else tk_sg (b p)
def tk_vl (b : Nat → Int32) (n p : Nat) : Int64 := if tk_le (b p) = true then tk_cd tk_f8 b p (tk_end tk_le b n p - p) else if tk_di (b p) = true then tk_cd tk_f10 b p (tk_end tk_di b n p - p) else 0
def tk_sk (b : Nat → Int32) (n p : Nat) : Nat := tk_end tk_bl b n p
/-- where the TOKEN of that number begins; the length, where there is none -/
def tk_at (b : Nat → Int32) (n : Nat) : Nat → Nat
  | 0 => tk_sk b n 0
  | i + 1 => if tk_at b n i < n then tk_sk b n (tk_nx b n (tk_at b n i)) else n
theorem tk_end_gt {f : Int32 → Bool} {b : Nat → Int32} {n p : Nat} (h : p < n) (hf : f (b p) = true) : p < tk_end f b n p := by
  rw [tk_end_s h hf]; exact tk_end_le
theorem tk_nx_gt {b : Nat → Int32} {n p : Nat} (h : p < n) : p < tk_nx b n p ∧ tk_nx b n p ≤ n := by
  unfold tk_nx
  by_cases c : tk_le (b p) = true
  · rw [if_pos c]; exact ⟨tk_end_gt h c, tk_end_n2 (by omega)⟩
  · rw [if_neg c]
    by_cases c2 : tk_di (b p) = true
    · rw [if_pos c2]; exact ⟨tk_end_gt h c2, tk_end_n2 (by omega)⟩
    · rw [if_neg c2]; omega
/-! the class's scanner: single bytes -/
theorem ks_isBlank {S : sm_C} {d q : Nat} {Φ : sm_Z → Prop} {I : sm_I} {L : sm_L} {R : sm_R} {x : Int32} (h : Φ (some (.int (if tk_bl x = true then 1 else 0)), (xLay, I, L, kT q R))) : sm_wp sm_P S d 298 0 [.int x] [] (xLay, I, L, kT q R) (0, 0) Φ := by
  unfold tk_bl at h
  refine t_X9_isBlank_0 ⟨fun a => ?_, fun a => ⟨fun b => ?_, fun b => ⟨fun c => ?_, fun c => ⟨fun e => ?_, fun e => ?_⟩⟩⟩⟩
  · rw [if_pos (by simp [a])] at h; exact h
  · rw [if_pos (by simp [b])] at h; exact h
  · rw [if_pos (by simp [c])] at h; exact h
  · rw [if_pos (by simp [e])] at h; exact h
  · rw [if_neg (by simp [a, b, c, e])] at h; exact h
theorem ks_isLetter {S : sm_C} {d q : Nat} {Φ : sm_Z → Prop} {I : sm_I} {L : sm_L} {R : sm_R} {x : Int32} (h : Φ (some (.int (if tk_le x = true then 1 else 0)), (xLay, I, L, kT q R))) : sm_wp sm_P S d 300 0 [.int x] [] (xLay, I, L, kT q R) (0, 0) Φ := by
  have c1 : (97 : Int32).toInt = 97 := by decide
  have c2 : (122 : Int32).toInt = 122 := by decide
  unfold tk_le at h
  refine t_X9_isLetter_0 ⟨fun a => ?_, fun a => ⟨fun b => ?_, fun b => ?_⟩⟩
  · rw [kl_lt, c1] at a
    rw [if_neg (by simp; omega)] at h; exact h
  · rw [kl_lt, c2] at b
    rw [if_neg (by simp; omega)] at h; exact h
  · have a := kl_nlt a
    have b := kl_nlt b
    rw [c1] at a
    rw [c2] at b
    rw [if_pos (by simp; omega)] at h; exact h
theorem ks_isDigit {S : sm_C} {d q : Nat} {Φ : sm_Z → Prop} {I : sm_I} {L : sm_L} {R : sm_R} {x : Int32} (h : Φ (some (.int (if tk_di x = true then 1 else 0)), (xLay, I, L, kT q R))) : sm_wp sm_P S d 299 0 [.int x] [] (xLay, I, L, kT q R) (0, 0) Φ := by
  have c1 : (48 : Int32).toInt = 48 := by decide
  have c2 : (57 : Int32).toInt = 57 := by decide
  unfold tk_di at h
  refine t_X9_isDigit_0 ⟨fun a => ?_, fun a => ⟨fun b => ?_, fun b => ?_⟩⟩
  · rw [kl_lt, c1] at a
    rw [if_neg (by simp; omega)] at h; exact h
  · rw [kl_lt, c2] at b
    rw [if_neg (by simp; omega)] at h; exact h
  · have a := kl_nlt a
    have b := kl_nlt b
    rw [c1] at a
    rw [c2] at b
    rw [if_pos (by simp; omega)] at h; exact h
theorem ks_sign {S : sm_C} {d q : Nat} {Φ : sm_Z → Prop} {I : sm_I} {L : sm_L} {R : sm_R} {x : Int32} (h : Φ (some (.int (tk_sg x)), (xLay, I, L, kT q R))) : sm_wp sm_P S d 303 0 [.int x] [] (xLay, I, L, kT q R) (0, 0) Φ := by
  unfold tk_sg at h
  refine t_X9_sign_0 ⟨fun a => ?_, fun a => ⟨fun b => ?_, fun b => ⟨fun c => ?_, fun c => ?_⟩⟩⟩
  · rw [if_pos a] at h; exact h
  · rw [if_neg a, if_pos b] at h; exact h
  · rw [if_neg a, if_neg b, if_pos c] at h; exact h
  · rw [if_neg a, if_neg b, if_neg c] at h; exact h
end
section
/-! the class's scanner: words, runs, one TOKEN, all TOKENS -/
theorem tk_nat {x : Int32} {p : Nat} (h : x.toInt = p) : x.toNatClampNeg = p := by
  have := kl_nat (i := x) (by omega)
  omega
theorem tk_if (c : Bool) : ((if c = true then (1 : Int32) else 0) = 0) ↔ c = false := by cases c <;> decide
theorem tk_lg {x y : Int64} : lg_cmp x y = 0 ↔ x = y := by
  unfold lg_cmp
  constructor
  · intro h
    split at h
    · exact absurd h (by decide)
    · split at h
      · assumption
      · exact absurd h (by decide)
  · intro h
    subst h
    simp
theorem ks_word {S : sm_C} {d q : Nat} {Φ : sm_Z → Prop} {I : sm_I} {L : sm_L} {R : sm_R} {y : Int64} : ∀ (m i : Nat) (x2 : Int32), x2.toInt = i → i + m = 15 → Φ (some (.int (tk_wd y m i)), (xLay, I, L, kT q R)) → sm_wp sm_P S d 304 1 [.long y, .int x2] [] (xLay, I, L, kT q R) (0, 0) Φ := by
  have w15 : (Int32.ofNat sm_words.length).toInt = 15 := by decide
  have l15 : sm_words.length = 15 := rfl
  intro m
  induction m with
  | zero =>
    intro i x2 hx hm h
    refine t_X9_wordOrName_1 ⟨fun _ => h, fun a => ?_⟩
    have := kl_nle a
    omega
  | succ m ih =>
    intro i x2 hx hm h
    have np := tk_nat hx
    refine t_X9_wordOrName_1 ⟨fun a => ?_, fun _ => ⟨kl_in (by omega) (by omega), fun e => ?_, fun e => ?_⟩⟩
    · have := kl_le.mp a
      omega
    · have e := tk_lg.mp e
      rw [np] at e
      have h : Φ (some (.int (if sm_words.getD i 0 = y then Int32.ofNat i else tk_wd y m (i + 1))), (xLay, I, L, kT q R)) := h
      rw [if_pos e] at h
      have : x2 = Int32.ofNat i := en_ofI (by rw [hx, Int32.toInt_ofNat_of_lt (by omega)])
      rw [this]; exact h
    · have e : ¬ sm_words.getD i 0 = y := fun c => e (tk_lg.mpr (by rw [np]; exact c))
      have h : Φ (some (.int (if sm_words.getD i 0 = y then Int32.ofNat i else tk_wd y m (i + 1))), (xLay, I, L, kT q R)) := h
      rw [if_neg e] at h
      have s := ml_in1 (x := x2) (by omega)
      exact ih (i + 1) _ (by omega) (by omega) h
theorem ks_eol {S : sm_C} {d q : Nat} {Φ : sm_Z → Prop} {I : sm_I} {L : sm_L} {R : sm_R} {x2 : Int32} {n e : Nat} (hn : n ≤ 2000) (h2 : x2.toInt = n) (h : ∀ r : Int32, r.toInt = e → Φ (some (.int r), (xLay, I, L, kT q R))) : ∀ (m p : Nat) (x3 : Int32), x3.toInt = p → tk_end tk_le (I 1) n p = e → n - p < m → sm_wp sm_P S (d + 1) 296 1 [.ref 1, .int x2, .int x3] [] (xLay, I, L, kT q R) (0, 0) Φ := by
  intro m
  induction m with
  | zero => intro p x3 _ _ hM; omega
  | succ m ih =>
    intro p x3 hx he hM
    have np := tk_nat hx
    refine t_X9_endOfLetters_1 ⟨fun a => h x3 ?_, fun a => ⟨?_, ks_isLetter ⟨_, I, L, rfl, fun c => h x3 ?_, fun c => ?_⟩⟩⟩
    · have := kl_le.mp a
      rw [tk_end_n (by omega)] at he; omega
    · have := kl_nle a
      exact kl_in (by omega) (by omega)
    · rw [np] at c
      have c := (tk_if _).mp c
      rw [tk_end_n (by rw [c]; simp)] at he; omega
    · have a := kl_nle a
      rw [np, tk_if] at c
      have s := ml_in1 (x := x3) (by omega)
      rw [tk_end_s (by omega) (by simpa using c)] at he
      exact ih (p + 1) _ (by omega) he (by omega)
theorem ks_eod {S : sm_C} {d q : Nat} {Φ : sm_Z → Prop} {I : sm_I} {L : sm_L} {R : sm_R} {x2 : Int32} {n e : Nat} (hn : n ≤ 2000) (h2 : x2.toInt = n) (h : ∀ r : Int32, r.toInt = e → Φ (some (.int r), (xLay, I, L, kT q R))) : ∀ (m p : Nat) (x3 : Int32), x3.toInt = p → tk_end tk_di (I 1) n p = e → n - p < m → sm_wp sm_P S (d + 1) 295 1 [.ref 1, .int x2, .int x3] [] (xLay, I, L, kT q R) (0, 0) Φ := by
  intro m
  induction m with
  | zero => intro p x3 _ _ hM; omega
  | succ m ih =>
    intro p x3 hx he hM
    have np := tk_nat hx
    refine t_X9_endOfDigits_1 ⟨fun a => h x3 ?_, fun a => ⟨?_, ks_isDigit ⟨_, I, L, rfl, fun c => h x3 ?_, fun c => ?_⟩⟩⟩
    · have := kl_le.mp a
      rw [tk_end_n (by omega)] at he; omega
    · have := kl_nle a
      exact kl_in (by omega) (by omega)
    · rw [np] at c
      have c := (tk_if _).mp c
      rw [tk_end_n (by rw [c]; simp)] at he; omega
    · have a := kl_nle a
      rw [np, tk_if] at c
      have s := ml_in1 (x := x3) (by omega)
      rw [tk_end_s (by omega) (by simpa using c)] at he
      exact ih (p + 1) _ (by omega) he (by omega)
theorem tk_sub {x y : Int32} {e p : Nat} (hx : x.toInt = e) (hy : y.toInt = p) (h : p ≤ e) (h2 : e ≤ 2000) : (x - y).toInt = ((e - p : Nat) : Int) := by
  have q : (x - y).toInt = x.toInt - y.toInt := by
    rw [Int32.toInt_sub]; exact en_bmod (by omega) (by omega) (Or.inl rfl)
  rw [q, hx, hy]; omega
theorem ks_let {S : sm_C} {d q : Nat} {Φ : sm_Z → Prop} {I : sm_I} {L : sm_L} {R : sm_R} {x2 x4 : Int32} {b : Nat → Int32} {p e c : Nat} (hb : I 1 = b) (hc : (I 3 3).toInt = c) (c5 : c ≤ 500) (hp : x2.toInt = p) (he : x4.toInt = e) (pe : p ≤ e) (e2 : e ≤ 2000) (h : ∀ (J : sm_I) (Lj : sm_L), J = sm_up (sm_up I 4 c (if e - p ≤ 8 then tk_wd (tk_cd tk_f8 b p (e - p)) 15 0 else 20)) 3 3 (I 3 3 + 1) → Lj = sm_up L 6 c (tk_cd tk_f8 b p (e - p)) → Φ (some (.int x4), (xLay, J, Lj, kT q R))) : ∀ (m k : Nat) (x7 : Int32) (y5 : Int64), x7.toInt = ((p + k : Nat) : Int) → y5 = tk_cd tk_f8 b p k → p + k ≤ e → e - (p + k) < m → sm_wp sm_P S (d + 1) 302 2 [.ref 3, .ref 1, .int x2, .int x4, .long y5, .int x7] [] (xLay, I, L, kT q R) (0, 0) Φ := by
  have nc := tk_nat hc
  have c8 : (8 : Int32).toInt = 8 := by decide
  intro m
  induction m with
  | zero => intro k x7 y5 _ _ _ hM; omega
  | succ m ih =>
    intro k x7 y5 hx hy hk hM
    have np := tk_nat hx
    refine t_X9_scanOne_2 ⟨fun a => ?_, fun a => ?_⟩
    · have a := kl_le.mp a
      have ek : k = e - p := by omega
      subst ek
      subst hy
      have sb := tk_sub he hp pe e2
      have v : vp_in (I 3 3) 502 := kl_in (by omega) (by omega)
      refine ⟨fun g => ?_, fun g => ?_⟩
      · have g := kl_le.mp g
        rw [sb, c8] at g
        refine t_X9_wordOrName_0 (ks_word 15 0 0 (by decide) (by decide) ⟨_, I, L, rfl, v, fun I4 e4 => ?_⟩)
        rw [nc] at e4
        have g4 : I4 3 3 = I 3 3 := by rw [e4, en_up_ne _ _ _ _ (by omega)]
        rw [g4]
        refine ⟨v, fun L5 e5 I6 e6 => h I6 L5 ?_ ?_⟩
        · rw [e6, e4, if_pos (by omega)]
        · rw [e5, nc]
      · have g := kl_nle g
        rw [sb, c8] at g
        refine ⟨v, fun I4 e4 => ?_⟩
        rw [nc] at e4
        have g4 : I4 3 3 = I 3 3 := by rw [e4, en_up_ne _ _ _ _ (by omega)]
        rw [g4]
        refine ⟨v, fun L5 e5 I6 e6 => h I6 L5 ?_ ?_⟩
        · rw [e6, e4, if_neg (by omega)]
        · rw [e5, nc]
    · have a := kl_nle a
      have s := ml_in1 (x := x7) (by omega)
      refine ⟨kl_in (by omega) (by omega), fun n12 en => ih (k + 1) _ n12 (by omega) ?_ (by omega) (by omega)⟩
      rw [en, hy, np, hb]
      rfl
theorem ks_dig {S : sm_C} {d q : Nat} {Φ : sm_Z → Prop} {I : sm_I} {L : sm_L} {R : sm_R} {x2 x4 : Int32} {b : Nat → Int32} {p e c : Nat} (hb : I 1 = b) (hc : (I 3 3).toInt = c) (c5 : c ≤ 500) (hp : x2.toInt = p) (he : x4.toInt = e) (pe : p ≤ e) (e2 : e ≤ 2000) (h : ∀ (J : sm_I) (Lj : sm_L), J = sm_up (sm_up I 4 c (if e - p ≤ 4 then 16 else 20)) 3 3 (I 3 3 + 1) → Lj = sm_up L 6 c (tk_cd tk_f10 b p (e - p)) → Φ (some (.int x4), (xLay, J, Lj, kT q R))) : ∀ (m k : Nat) (x7 : Int32) (y5 : Int64), x7.toInt = ((p + k : Nat) : Int) → y5 = tk_cd tk_f10 b p k → p + k ≤ e → e - (p + k) < m → sm_wp sm_P S (d + 1) 302 10 [.ref 3, .ref 1, .int x2, .int x4, .long y5, .int x7] [] (xLay, I, L, kT q R) (0, 0) Φ := by
  have nc := tk_nat hc
  have c4 : (4 : Int32).toInt = 4 := by decide
  intro m
  induction m with
  | zero => intro k x7 y5 _ _ _ hM; omega
  | succ m ih =>
    intro k x7 y5 hx hy hk hM
    have np := tk_nat hx
    refine t_X9_scanOne_10 ⟨fun a => ?_, fun a => ?_⟩
    · have a := kl_le.mp a
      have ek : k = e - p := by omega
      subst ek
      subst hy
      have sb := tk_sub he hp pe e2
      have v : vp_in (I 3 3) 502 := kl_in (by omega) (by omega)
      refine ⟨fun g => ⟨v, fun I4 e4 => ?_⟩, fun g => ⟨v, fun I4 e4 => ?_⟩⟩
      · have g := kl_le.mp g
        rw [sb, c4] at g
        rw [nc] at e4
        have g4 : I4 3 3 = I 3 3 := by rw [e4, en_up_ne _ _ _ _ (by omega)]
        rw [g4]
        refine ⟨v, fun L5 e5 I6 e6 => h I6 L5 ?_ ?_⟩
        · rw [e6, e4, if_pos (by omega)]
        · rw [e5, nc]
      · have g := kl_nle g
        rw [sb, c4] at g
        rw [nc] at e4
        have g4 : I4 3 3 = I 3 3 := by rw [e4, en_up_ne _ _ _ _ (by omega)]
        rw [g4]
        refine ⟨v, fun L5 e5 I6 e6 => h I6 L5 ?_ ?_⟩
        · rw [e6, e4, if_neg (by omega)]
        · rw [e5, nc]
    · have a := kl_nle a
      have s := ml_in1 (x := x7) (by omega)
      refine ⟨kl_in (by omega) (by omega), fun n12 en => ih (k + 1) _ n12 (by omega) ?_ (by omega) (by omega)⟩
      rw [en, hy, np, hb]
      rfl
end
section
/-! the class's scanner: one TOKEN, all TOKENS -/
theorem ks_one {S : sm_C} {d q : Nat} {Φ : sm_Z → Prop} {I : sm_I} {L : sm_L} {R : sm_R} {x2 x3 : Int32} {n p c : Nat} (hn : n ≤ 2000) (h3 : x3.toInt = n) (hp : x2.toInt = p) (pn : p < n) (hc : (I 3 3).toInt = c) (c5 : c ≤ 500) (h : ∀ (r : Int32) (J : sm_I) (Lj : sm_L), r.toInt = tk_nx (I 1) n p → J = sm_up (sm_up (sm_up I 5 c x2) 4 c (tk_kd (I 1) n p)) 3 3 (I 3 3 + 1) → Lj = sm_up L 6 c (tk_vl (I 1) n p) → Φ (some (.int r), (xLay, J, Lj, kT q R))) : sm_wp sm_P S (d + 2) 302 0 [.ref 3, .ref 1, .int x2, .int x3] [] (xLay, I, L, kT q R) (0, 0) Φ := by
  have nc := tk_nat hc
  have np := tk_nat hp
  have v : vp_in (I 3 3) 502 := kl_in (by omega) (by omega)
  have v2 : vp_in x2 2000 := kl_in (by omega) (by omega)
  refine t_X9_scanOne_0 ⟨v, fun I1 e1 => ⟨v2, ?_⟩⟩
  rw [nc] at e1
  have r1 : I1 1 = I 1 := by funext j; rw [e1, en_up_ne _ _ _ _ (by omega)]
  have g1 : I1 3 3 = I 3 3 := by rw [e1, en_up_ne _ _ _ _ (by omega)]
  rw [np, r1]
  refine ks_isLetter ⟨_, I1, L, rfl, fun a => ⟨v2, ?_⟩, fun a => ?_⟩
  · have a := (tk_if _).mp a
    have na : ¬ tk_le (I 1 p) = true := by rw [a]; decide
    unfold tk_nx tk_kd tk_vl at h
    rw [if_neg na, if_neg na, if_neg na] at h
    rw [r1]
    refine ks_isDigit ⟨_, I1, L, rfl, fun z => ⟨v2, ?_⟩, fun z => ?_⟩
    · have z := (tk_if _).mp z
      have nz : ¬ tk_di (I 1 p) = true := by rw [z]; decide
      rw [if_neg nz, if_neg nz, if_neg nz] at h
      rw [r1]
      refine ks_sign ⟨_, I1, L, rfl, by rw [g1]; exact v, fun I2 e2 => ?_⟩
      rw [g1, nc] at e2
      have g2 : I2 3 3 = I 3 3 := by rw [e2, en_up_ne _ _ _ _ (by omega), g1]
      rw [g2]
      refine ⟨v, fun L5 e5 I6 e6 => h _ I6 L5 ?_ ?_ ?_⟩
      · rw [ml_in1 (by omega)]; omega
      · rw [e6, e2, e1]
      · rw [e5, nc]
    · rw [tk_if] at z
      have z : tk_di (I 1 p) = true := by simpa using z
      rw [if_pos z, if_pos z, if_pos z] at h
      refine t_X9_endOfDigits_0 (ks_eod hn h3 (e := tk_end tk_di (I 1) n p) (fun r hr => ⟨r, I1, L, rfl, ?_⟩) (n - p + 1) p x2 hp (by rw [r1]) (by omega))
      refine ks_dig (b := I 1) (c := c) (p := p) (e := tk_end tk_di (I 1) n p) r1 (by rw [g1]; exact hc) c5 hp hr tk_end_le (Nat.le_trans (tk_end_n2 (by omega)) hn) (fun J Lj eJ eL => h r J Lj hr ?_ eL) (tk_end tk_di (I 1) n p - p + 1) 0 x2 0 (by omega) rfl tk_end_le (by omega)
      rw [eJ, g1, e1]
  · rw [tk_if] at a
    have a : tk_le (I 1 p) = true := by simpa using a
    unfold tk_nx tk_kd tk_vl at h
    rw [if_pos a, if_pos a, if_pos a] at h
    refine t_X9_endOfLetters_0 (ks_eol hn h3 (e := tk_end tk_le (I 1) n p) (fun r hr => ⟨r, I1, L, rfl, ?_⟩) (n - p + 1) p x2 hp (by rw [r1]) (by omega))
    refine ks_let (b := I 1) (c := c) (p := p) (e := tk_end tk_le (I 1) n p) r1 (by rw [g1]; exact hc) c5 hp hr tk_end_le (Nat.le_trans (tk_end_n2 (by omega)) hn) (fun J Lj eJ eL => h r J Lj hr ?_ eL) (tk_end tk_le (I 1) n p - p + 1) 0 x2 0 (by omega) rfl tk_end_le (by omega)
    rw [eJ, g1, e1]
/-- the rows of the TOKENS below c -/
def tk_rows (b : Nat → Int32) (n c : Nat) (I : sm_I) (L : sm_L) : Prop := ∀ i, i < c → tk_at b n i < n ∧ I 4 i = tk_kd b n (tk_at b n i) ∧ (I 5 i).toInt = tk_at b n i ∧ L 6 i = tk_vl b n (tk_at b n i)
def ks_fr (I J : sm_I) (L K : sm_L) : Prop := (∀ a j, a ≠ 4 → a ≠ 5 → ¬ (a = 3 ∧ j = 3) → J a j = I a j) ∧ ∀ a j, a ≠ 6 → K a j = L a j
theorem ks_scan1 {S : sm_C} {d q : Nat} {Φ : sm_Z → Prop} {I0 : sm_I} {L0 : sm_L} {R : sm_R} {x2 : Int32} {b : Nat → Int32} {n : Nat} (hn : n ≤ 2000) (h2 : x2.toInt = n) (hb : I0 1 = b) (h : ∀ (c : Nat) (J : sm_I) (K : sm_L), c ≤ 501 → (J 3 3).toInt = c → tk_rows b n c J K → J 4 c = 21 → (J 5 c).toInt = n → (c ≤ 500 → tk_at b n c = n) → ks_fr I0 J L0 K → Φ (none, (xLay, J, K, kT q R))) : ∀ (m : Nat) (I : sm_I) (L : sm_L) (x3 x4 : Int32) (p c : Nat), x3.toInt = p → p ≤ n → 0 ≤ x4.toInt → x4.toInt ≤ p → (I 3 3).toInt = c → c ≤ 501 → tk_rows b n c I L → tk_sk b n p = tk_at b n c → ks_fr I0 I L0 L → n - p < m → sm_wp sm_P S (d + 3) 301 1 [.ref 3, .ref 1, .int x2, .int x3, .int x4] [] (xLay, I, L, kT q R) (0, 0) Φ := by
  have c2k : (2000 : Int32).toInt = 2000 := by decide
  have c500 : (500 : Int32).toInt = 500 := by decide
  intro m
  induction m with
  | zero => intro I L x3 x4 p c _ _ _ _ _ _ _ _ _ hM; omega
  | succ m ih =>
    intro I L x3 x4 p c hx pn h40 h4 hc c5 hr hs hf hM
    have nc := tk_nat hc
    have np := tk_nat hx
    have v : vp_in (I 3 3) 502 := kl_in (by omega) (by omega)
    have rb : I 1 = b := by funext j; rw [hf.1 1 j (by decide) (by decide) (by omega), hb]
    have out : (c ≤ 500 → tk_at b n c = n) → (vp_in (I 3 3) 502) ∧ ∀ I1 : sm_I, I1 = (sm_up I 4 (I 3 3).toNatClampNeg (21 : Int32)) → (vp_in (I1 3 3) 502) ∧ ∀ I2 : sm_I, I2 = (sm_up I1 5 (I1 3 3).toNatClampNeg x2) → Φ (none, (xLay, I2, L, (kT q R))) := by
      intro ha
      refine ⟨v, fun I1 e1 => ?_⟩
      rw [nc] at e1
      have g1 : I1 3 3 = I 3 3 := by rw [e1, en_up_ne _ _ _ _ (by omega)]
      rw [g1, nc]
      refine ⟨v, fun I2 e2 => h c I2 L c5 ?_ (fun i hi => ?_) ?_ ?_ ha ⟨fun a j a1 a2 a3 => ?_, hf.2⟩⟩
      · rw [e2, en_up_ne _ _ _ _ (by omega), g1]; exact hc
      · rw [e2, en_up_ne _ _ _ _ (by omega), e1, en_up_ne _ _ _ _ (by omega), en_up_ne _ _ _ _ (by omega), en_up_ne _ _ _ _ (by omega)]
        exact hr i hi
      · rw [e2, en_up_ne _ _ _ _ (by omega), e1, en_up_eq]
      · rw [e2, en_up_eq]; exact h2
      · rw [e2, en_up_ne _ _ _ _ (by omega), e1, en_up_ne _ _ _ _ (by omega)]; exact hf.1 a j a1 a2 a3
    have en : p = n → tk_at b n c = n := fun e => by
      rw [← hs, e]; unfold tk_sk; exact tk_end_n (by omega)
    refine t_X9_scan_1 ⟨fun a => out (fun _ => ?_), fun a => ⟨fun a2 => out (fun _ => ?_), fun a2 => ⟨fun a3 => out (fun _ => ?_), fun a3 => ⟨?_, ?_⟩⟩⟩⟩
    · have := kl_le.mp a
      exact en (by omega)
    · have := kl_le.mp a2
      exact en (by omega)
    · rw [kl_lt, c500] at a3; omega
    · have := kl_nle a2
      exact kl_in (by omega) (by omega)
    · have a2 := kl_nle a2
      have a3 := kl_nlt a3
      have a := kl_nle a
      have s4 := ml_in1 (x := x4) (by omega)
      have s3 := ml_in1 (x := x3) (by omega)
      rw [np, rb]
      refine ks_isBlank ⟨_, I, L, rfl, fun z => ?_, fun z => ?_⟩
      · have z := (tk_if _).mp z
        have sp : tk_at b n c = p := by
          rw [← hs]; unfold tk_sk; exact tk_end_n (by rw [z]; simp)
        refine ks_one hn h2 hx (by omega) hc (by omega) (fun r J K er eJ eK => ⟨r, J, K, rfl, ?_⟩)
        rw [rb] at er eJ eK
        have nx := tk_nx_gt (b := b) (n := n) (p := p) (by omega)
        have s := ml_in1 (x := I 3 3) (by omega)
        refine ih J K r _ (tk_nx b n p) (c + 1) er nx.2 (by omega) (by omega) ?_ (by omega) (fun i hi => ?_) ?_ ⟨fun a j a1 a2 a3 => ?_, fun a j a1 => ?_⟩ (by omega)
        · rw [eJ, en_up_eq, s]; omega
        · by_cases e : i = c
          · subst e
            rw [sp, eJ, eK, en_up_ne _ _ _ _ (by omega), en_up_eq, en_up_ne _ _ _ _ (by omega), en_up_ne _ _ _ _ (by omega), en_up_eq, en_up_eq]
            exact ⟨by omega, rfl, hx, rfl⟩
          · rw [eJ, eK, en_up_ne _ _ _ _ (by omega), en_up_ne _ _ _ _ (by omega), en_up_ne _ _ _ _ (by omega), en_up_ne _ _ _ _ (by omega), en_up_ne _ _ _ _ (by omega), en_up_ne _ _ _ _ (by omega), en_up_ne _ _ _ _ (by omega)]
            exact hr i (by omega)
        · show tk_sk b n (tk_nx b n p) = (if tk_at b n c < n then tk_sk b n (tk_nx b n (tk_at b n c)) else n)
          rw [sp, if_pos (by omega)]
        · rw [eJ, en_up_ne _ _ _ _ (by omega), en_up_ne _ _ _ _ (by omega), en_up_ne _ _ _ _ (by omega)]; exact hf.1 a j a1 a2 a3
        · rw [eK, en_up_ne _ _ _ _ (by omega)]; exact hf.2 a j a1
      · rw [tk_if] at z
        have z : tk_bl (b p) = true := by simpa using z
        refine ih I L _ _ (p + 1) c (by omega) (by omega) (by omega) (by omega) hc c5 hr ?_ hf (by omega)
        rw [← hs]; unfold tk_sk; exact (tk_end_s (by omega) z).symm
theorem ks_scan {S : sm_C} {d q : Nat} {Φ : sm_Z → Prop} {I : sm_I} {L : sm_L} {R : sm_R} {x2 : Int32} {n : Nat} (hn : n ≤ 2000) (h2 : x2.toInt = n) (h : ∀ (c : Nat) (J : sm_I) (K : sm_L), c ≤ 501 → (J 3 3).toInt = c → tk_rows (I 1) n c J K → J 4 c = 21 → (J 5 c).toInt = n → (c ≤ 500 → tk_at (I 1) n c = n) → ks_fr I J L K → Φ (none, (xLay, J, K, kT q R))) : sm_wp sm_P S (d + 3) 301 0 [.ref 3, .ref 1, .int x2] [] (xLay, I, L, kT q R) (0, 0) Φ := by
  refine t_X9_scan_0 (ks_scan1 (I0 := I) (L0 := L) (b := I 1) hn h2 rfl h (n + 1) _ L 0 0 0 0 (by decide) (by omega) (by decide) (by decide) (by rw [en_up_eq]; decide) (by omega) (fun i hi => absurd hi (Nat.not_lt_zero i)) rfl ⟨fun a j a1 a2 a3 => ?_, fun _ _ _ => rfl⟩ (by omega))
  rw [en_up_ne _ _ _ _ (by omega)]
end
section
/-! the reference's cut, exact: single bytes -/
theorem mt_and : ∀ i : Fin 256, ((Int32.ofInt ((i.val : Int) - 128)) &&& 255).toInt = if 128 ≤ i.val then (i.val : Int) - 128 else (i.val : Int) + 128 := by decide +kernel
theorem mt_bt {x : Int32} (h0 : -128 ≤ x.toInt) (h1 : x.toInt ≤ 127) : (0 ≤ x.toInt → x &&& 255 = x) ∧ (x.toInt < 0 → 128 ≤ (x &&& 255).toInt) := by
  have q := mt_and ⟨(x.toInt + 128).toNat, by omega⟩
  have e : (((x.toInt + 128).toNat : Nat) : Int) - 128 = x.toInt := by omega
  simp only at q
  rw [e, Int32.ofInt_toInt] at q
  refine ⟨fun a => ?_, fun a => ?_⟩
  · rw [if_pos (by omega)] at q
    exact en_ofI (by rw [q])
  · rw [if_neg (by omega)] at q
    omega
/-- every byte is one -/
def mt_B (b : Nat → Int32) : Prop := ∀ j, j < 2000 → -128 ≤ (b j).toInt ∧ (b j).toInt ≤ 127
theorem mt_eq {x c : Int32} (h0 : -128 ≤ x.toInt) (h1 : x.toInt ≤ 127) (c0 : 0 ≤ c.toInt) (c1 : c.toInt ≤ 127) : x &&& 255 = c ↔ x = c := by
  have q := mt_bt h0 h1
  by_cases a : 0 ≤ x.toInt
  · rw [q.1 a]
  · have q := q.2 (by omega)
    constructor
    · intro e; rw [e] at q; omega
    · intro e; rw [e] at a; omega
theorem mt_le {x : Int32} (h0 : -128 ≤ x.toInt) (h1 : x.toInt ≤ 127) : tk_le (x &&& 255) = tk_le x := by
  have q := mt_bt h0 h1
  by_cases a : 0 ≤ x.toInt
  · rw [q.1 a]
  · have q := q.2 (by omega)
    unfold tk_le
    rw [show decide ((x &&& 255).toInt ≤ 122) = false from decide_eq_false (by omega), show decide (97 ≤ x.toInt) = false from decide_eq_false (by omega)]
    simp
theorem mt_di {x : Int32} (h0 : -128 ≤ x.toInt) (h1 : x.toInt ≤ 127) : tk_di (x &&& 255) = tk_di x := by
  have q := mt_bt h0 h1
  by_cases a : 0 ≤ x.toInt
  · rw [q.1 a]
  · have q := q.2 (by omega)
    unfold tk_di
    rw [show decide ((x &&& 255).toInt ≤ 57) = false from decide_eq_false (by omega), show decide (48 ≤ x.toInt) = false from decide_eq_false (by omega)]
    simp
def mt_by (b : Nat → Int32) (n p : Nat) : Int32 := if p < n then b p &&& 255 else 0
theorem mt_byteAt {S : sm_C} {d : Nat} {Φ : sm_Z → Prop} {I : sm_I} {L : sm_L} {R : sm_R} {x : Int32} {n p : Nat} (hz : (I 107 4).toInt = n) (hn : n ≤ 2000) (hx : x.toInt = p) (h : Φ (some (.int (mt_by (I 109) n p)), (xLay, I, L, kM R))) : sm_wp sm_P S d 108 0 [.ref 107, .int x] [] (xLay, I, L, kM R) (0, 0) Φ := by
  have np := tk_nat hx
  unfold mt_by at h
  refine u_X12_byteAt_0 ⟨fun a => ?_, fun a => ⟨?_, ?_⟩⟩
  · have := kl_le.mp a
    rw [if_neg (by omega)] at h; exact h
  · have := kl_nle a
    exact kl_in (by omega) (by omega)
  · have := kl_nle a
    rw [if_pos (by omega)] at h
    rw [np]; exact h
theorem mt_isLetter {S : sm_C} {d : Nat} {Φ : sm_Z → Prop} {I : sm_I} {L : sm_L} {R : sm_R} {x : Int32} (h : Φ (some (.int (if tk_le x = true then 1 else 0)), (xLay, I, L, kM R))) : sm_wp sm_P S d 146 0 [.int x] [] (xLay, I, L, kM R) (0, 0) Φ := by
  have c1 : (97 : Int32).toInt = 97 := by decide
  have c2 : (122 : Int32).toInt = 122 := by decide
  unfold tk_le at h
  refine u_X12_isLetter_0 ⟨fun a => ?_, fun a => ⟨fun b => ?_, fun b => ?_⟩⟩
  · rw [kl_lt, c1] at a
    rw [if_neg (by simp; omega)] at h; exact h
  · rw [kl_lt, c2] at b
    rw [if_neg (by simp; omega)] at h; exact h
  · have a := kl_nlt a
    have b := kl_nlt b
    rw [c1] at a
    rw [c2] at b
    rw [if_pos (by simp; omega)] at h; exact h
theorem mt_isDigit {S : sm_C} {d : Nat} {Φ : sm_Z → Prop} {I : sm_I} {L : sm_L} {R : sm_R} {x : Int32} (h : Φ (some (.int (if tk_di x = true then 1 else 0)), (xLay, I, L, kM R))) : sm_wp sm_P S d 144 0 [.int x] [] (xLay, I, L, kM R) (0, 0) Φ := by
  have c1 : (48 : Int32).toInt = 48 := by decide
  have c2 : (57 : Int32).toInt = 57 := by decide
  unfold tk_di at h
  refine u_X12_isDigit_0 ⟨fun a => ?_, fun a => ⟨fun b => ?_, fun b => ?_⟩⟩
  · rw [kl_lt, c1] at a
    rw [if_neg (by simp; omega)] at h; exact h
  · rw [kl_lt, c2] at b
    rw [if_neg (by simp; omega)] at h; exact h
  · have a := kl_nlt a
    have b := kl_nlt b
    rw [c1] at a
    rw [c2] at b
    rw [if_pos (by simp; omega)] at h; exact h
def mt_sg (x : Int32) : Int32 := if x = 59 then 4 else if x = 58 then 5 else if x = 45 then 9 else 3
theorem mt_sign {S : sm_C} {d : Nat} {Φ : sm_Z → Prop} {I : sm_I} {L : sm_L} {R : sm_R} {x : Int32} (h : Φ (some (.int (mt_sg x)), (xLay, I, L, kM R))) : sm_wp sm_P S d 191 0 [.int x] [] (xLay, I, L, kM R) (0, 0) Φ := by
  unfold mt_sg at h
  refine u_X12_sign_0 ⟨fun a => ?_, fun a => ⟨fun b => ?_, fun b => ⟨fun c => ?_, fun c => ?_⟩⟩⟩
  · rw [if_pos a] at h; exact h
  · rw [if_neg a, if_pos b] at h; exact h
  · rw [if_neg a, if_neg b, if_pos c] at h; exact h
  · rw [if_neg a, if_neg b, if_neg c] at h; exact h
theorem mt_token {S : sm_C} {d : Nat} {Φ : sm_Z → Prop} {I : sm_I} {L : sm_L} {R : sm_R} {x1 x2 x3 : Int32} {y4 : Int64} {c : Nat} (hc : (I 107 10).toInt = c) (c5 : c ≤ 502) (h : ∀ (J : sm_I) (K : sm_L), J = sm_up (sm_up (sm_up (sm_up I 110 c x1) 111 c x2) 112 c x3) 107 10 (I 107 10 + 1) → K = sm_up L 113 c y4 → Φ (none, (xLay, J, K, kM R))) : sm_wp sm_P S d 204 0 [.ref 107, .int x1, .int x2, .int x3, .long y4] [] (xLay, I, L, kM R) (0, 0) Φ := by
  have nc := tk_nat hc
  have v : vp_in (I 107 10) 503 := kl_in (by omega) (by omega)
  refine u_X12_token_0 ⟨v, fun I1 e1 => ?_⟩
  have g1 : I1 107 10 = I 107 10 := by rw [e1, en_up_ne _ _ _ _ (by omega)]
  refine ⟨by rw [g1]; exact v, fun I2 e2 => ?_⟩
  have g2 : I2 107 10 = I 107 10 := by rw [e2, en_up_ne _ _ _ _ (by omega), g1]
  refine ⟨by rw [g2]; exact v, fun I3 e3 => ?_⟩
  have g3 : I3 107 10 = I 107 10 := by rw [e3, en_up_ne _ _ _ _ (by omega), g2]
  refine ⟨by rw [g3]; exact v, fun L4 eL I5 e5 => h I5 L4 ?_ ?_⟩
  · rw [e5, g3, e3, g2, e2, g1, e1, nc]
  · rw [eL, g3, nc]
/-! its words and numbers -/
def mt_f27 (s : Int64) (x : Int32) : Int64 := ((27 : Int64) * s) + (((x - (97 : Int32)) + (1 : Int32))).toInt64
def mt_f10 (s : Int32) (x : Int32) : Int32 := (((10 : Int32) * s) + x) - (48 : Int32)
def mt_cd (f : Int32 → Int32 → Int32) (b : Nat → Int32) (p : Nat) : Nat → Int32
  | 0 => 0
  | k + 1 => f (mt_cd f b p k) (b (p + k))
def mt_ky (y : Int64) : Nat → Nat → Int32 → Int32
  | 0, _, c => c
  | m + 1, i, c => mt_ky y m (i + 1) (if pk_key.getD i 0 = y then (20 : Int32) + Int32.ofNat i else c)
def mt_kd (b : Nat → Int32) (n p : Nat) : Int32 := if tk_le (b p) = true then (if tk_end tk_le b n p - p ≤ 8 then (if tk_end tk_le b n p - p ≤ 7 then mt_ky (tk_cd mt_f27 b p (tk_end tk_le b n p - p)) 15 0 1 else 1) else 3) else if tk_di (b p) = true then (if tk_end tk_di b n p - p ≤ 4 then 2 else 3) else mt_sg (b p)
def mt_nm (b : Nat → Int32) (n p : Nat) : Int64 := if tk_le (b p) = true then tk_cd mt_f27 b p (min (tk_end tk_le b n p - p) 8) else 0
def mt_vl (b : Nat → Int32) (n p : Nat) : Int32 := if tk_le (b p) = true then 0 else if tk_di (b p) = true then mt_cd mt_f10 b p (min (tk_end tk_di b n p - p) 4) else 0
theorem mt_key {S : sm_C} {d : Nat} {Φ : sm_Z → Prop} {I : sm_I} {L : sm_L} {R : sm_R} {x1 x3 : Int32} {y : Int64} (hk : pk_ok L) {kd : Int32} (h : sm_wp sm_P S d 204 0 [.ref 107, .int kd, .int x1, .int (0 : Int32), .long y] [] (xLay, I, L, (kM R)) (0, 0) (fun z => ∃ (I1 : sm_I) (L2 : sm_L) (R3 : sm_R), z = (none, (xLay, I1, L2, (kM R3))) ∧ sm_wp sm_P S (d + 1) 119 1 [.ref 107, .int (x1 + x3)] [] (xLay, I1, L2, (kM R3)) (0, 0) Φ)) : ∀ (m i : Nat) (x6 x7 : Int32), x7.toInt = i → i + m = 15 → mt_ky y m i x6 = kd → sm_wp sm_P S (d + 1) 119 20 [.ref 107, .int x1, .int x3, .long y, .int x6, .int x7] [] (xLay, I, L, kM R) (0, 0) Φ := by
  have c15 : (15 : Int32).toInt = 15 := by decide
  intro m
  induction m with
  | zero =>
    intro i x6 x7 hx hm he
    have he : x6 = kd := he
    subst he
    refine u_X12_cut_20 ⟨fun _ => h, fun a => ?_⟩
    have := kl_nle a
    omega
  | succ m ih =>
    intro i x6 x7 hx hm he
    have np := tk_nat hx
    have s := ml_in1 (x := x7) (by omega)
    have e7 : x7 = Int32.ofNat i := en_ofI (by rw [hx, Int32.toInt_ofNat_of_lt (by omega)])
    have he : mt_ky y m (i + 1) (if pk_key.getD i 0 = y then (20 : Int32) + Int32.ofNat i else x6) = kd := he
    refine u_X12_cut_20 ⟨fun a => ?_, fun _ => ⟨kl_in (by omega) (by omega), fun e => ?_, fun e => ?_⟩⟩
    · have := kl_le.mp a
      omega
    · have e := tk_lg.mp e
      rw [np, hk i (by omega)] at e
      rw [if_pos e, ← e7] at he
      exact ih (i + 1) _ _ (by omega) (by omega) he
    · have e : ¬ pk_key.getD i 0 = y := fun c => e (tk_lg.mpr (by rw [np, hk i (by omega)]; exact c))
      rw [if_neg e] at he
      exact ih (i + 1) _ _ (by omega) (by omega) he
end
section
/-! the reference's cut, exact: runs and all TOKENS -/
theorem tk_add {x y : Int32} {p k : Nat} (hx : x.toInt = p) (hy : y.toInt = k) (h : p + k ≤ 4000) : (x + y).toInt = ((p + k : Nat) : Int) := by
  rw [kl_add (by omega) (by omega), hx, hy]; omega
theorem mt_by_t {b : Nat → Int32} {n p : Nat} {f : Int32 → Bool} (hB : mt_B b) (hn : n ≤ 2000) (f0 : f 0 = false) (hf : ∀ x : Int32, -128 ≤ x.toInt → x.toInt ≤ 127 → f (x &&& 255) = f x) : f (mt_by b n p) = true ↔ (p < n ∧ f (b p) = true) := by
  unfold mt_by
  by_cases c : p < n
  · rw [if_pos c, hf _ (hB p (by omega)).1 (hB p (by omega)).2]
    exact ⟨fun h => ⟨c, h⟩, fun h => h.2⟩
  · rw [if_neg c, f0]
    exact ⟨fun h => (by cases h), fun h => absurd h.1 c⟩
theorem mt_by_e {b : Nat → Int32} {n p : Nat} (hB : mt_B b) (hn : n ≤ 2000) (c : p < n) (h : 0 ≤ (b p).toInt) : mt_by b n p = b p := by
  unfold mt_by
  rw [if_pos c]; exact (mt_bt (hB p (by omega)).1 (hB p (by omega)).2).1 h
theorem tk_if1 (c : Bool) : (¬ (if c = true then (1 : Int32) else 0) = 0) ↔ c = true := by cases c <;> decide
theorem tk_le_r {x : Int32} (h : tk_le x = true) : 97 ≤ x.toInt ∧ x.toInt ≤ 122 := by
  unfold tk_le at h; simpa using h
theorem tk_di_r {x : Int32} (h : tk_di x = true) : 48 ≤ x.toInt ∧ x.toInt ≤ 57 := by
  unfold tk_di at h; simpa using h
theorem mt_let {S : sm_C} {d : Nat} {Φ : sm_Z → Prop} {I : sm_I} {L : sm_L} {R : sm_R} {x1 : Int32} {b : Nat → Int32} {n p e c : Nat} (hk : pk_ok L) (hB : mt_B b) (hb : I 109 = b) (hz : (I 107 4).toInt = n) (hn : n ≤ 2000) (hp : x1.toInt = p) (hc : (I 107 10).toInt = c) (c5 : c ≤ 502) (e2 : e ≤ n) (h : ∀ (x : Int32) (J : sm_I) (K : sm_L), x.toInt = e → J = sm_up (sm_up (sm_up (sm_up I 110 c (if e - p ≤ 8 then (if e - p ≤ 7 then mt_ky (tk_cd mt_f27 b p (e - p)) 15 0 1 else 1) else 3)) 111 c x1) 112 c 0) 107 10 (I 107 10 + 1) → K = sm_up L 113 c (tk_cd mt_f27 b p (min (e - p) 8)) → sm_wp sm_P S (d + 1) 119 1 [.ref 107, .int x] [] (xLay, J, K, kM R) (0, 0) Φ) : ∀ (m k : Nat) (x3 : Int32) (y4 : Int64), x3.toInt = k → y4 = tk_cd mt_f27 b p (min k 8) → p + k ≤ e → tk_end tk_le b n (p + k) = e → e - (p + k) < m → sm_wp sm_P S (d + 1) 119 11 [.ref 107, .int x1, .int x3, .long y4] [] (xLay, I, L, kM R) (0, 0) Φ := by
  have c8 : (8 : Int32).toInt = 8 := by decide
  have c7 : (7 : Int32).toInt = 7 := by decide
  intro m
  induction m with
  | zero => intro k x3 y4 _ _ _ _ hM; omega
  | succ m ih =>
    intro k x3 y4 hx hy hk2 he hM
    have sx := tk_add hp hx (by omega)
    have fl := mt_by_t (b := b) (n := n) (p := p + k) (f := tk_le) hB hn (by decide) (fun x => mt_le)
    refine u_X12_cut_11 (mt_byteAt hz hn sx ⟨_, I, L, R, rfl, mt_isLetter ⟨_, I, L, R, rfl, fun a => ?_, fun a => ?_⟩⟩)
    · rw [hb] at a
      have a := (tk_if _).mp a
      have en : ¬ (p + k < n ∧ tk_le (b (p + k)) = true) := fun q => by rw [fl.mpr q] at a; cases a
      rw [tk_end_n en] at he
      have ek : k = e - p := by omega
      subst ek
      have tok : ∀ kd : Int32, kd = (if e - p ≤ 8 then (if e - p ≤ 7 then mt_ky (tk_cd mt_f27 b p (e - p)) 15 0 1 else 1) else 3) → sm_wp sm_P S d 204 0 [.ref 107, .int kd, .int x1, .int (0 : Int32), .long y4] [] (xLay, I, L, (kM R)) (0, 0) (fun z => ∃ (I1 : sm_I) (L2 : sm_L) (R3 : sm_R), z = (none, (xLay, I1, L2, (kM R3))) ∧ sm_wp sm_P S (d + 1) 119 1 [.ref 107, .int (x1 + x3)] [] (xLay, I1, L2, (kM R3)) (0, 0) Φ) := fun kd ekd => mt_token hc c5 (fun J K eJ eK => ⟨J, K, R, rfl, h _ J K (by rw [sx]; omega) (by rw [eJ, ekd]) (by rw [eK, hy])⟩)
      refine ⟨fun g => ⟨fun g7 => tok 1 ?_, fun g7 => ?_⟩, fun g => ⟨fun g7 => tok 3 ?_, fun g7 => ?_⟩⟩
      · have g := kl_le.mp g
        rw [kl_lt] at g7
        rw [if_pos (by omega), if_neg (by omega)]
      · have g7 := kl_nlt g7
        refine mt_key hk (tok _ rfl) 15 0 1 0 (by decide) (by decide) ?_
        rw [if_pos (by omega), if_pos (by omega), hy, Nat.min_eq_left (by omega)]
      · have g := kl_nle g
        rw [if_neg (by omega)]
      · have g := kl_nle g
        have g7 := kl_nlt g7
        omega
    · rw [hb] at a
      have a := fl.mp ((tk_if1 _).mp a)
      have r := tk_le_r a.2
      have se := tk_end_s a.1 a.2
      rw [se] at he
      have hle : p + k + 1 ≤ e := by rw [← he]; exact tk_end_le
      have s := ml_in1 (x := x3) (by omega)
      refine ⟨fun g => ?_, fun g => ?_⟩
      · have g := kl_le.mp g
        exact ih (k + 1) _ _ (by omega) (by rw [hy, Nat.min_eq_right (by omega), Nat.min_eq_right (by omega)]) (by omega) he (by omega)
      · have g := kl_nle g
        have eb : mt_by b n (p + k) = b (p + k) := mt_by_e hB hn a.1 (by omega)
        refine mt_byteAt hz hn sx ⟨_, I, L, R, rfl, u_X12_appends_0 ⟨fun z => ?_, fun _ => ⟨_, I, L, R, rfl, ?_⟩⟩⟩
        · rw [hb, eb] at z
          rw [z] at r
          have z0 : (0 : Int32).toInt = 0 := by decide
          omega
        · rw [hb, eb]
          refine ih (k + 1) _ _ (by omega) ?_ (by omega) he (by omega)
          rw [hy, Nat.min_eq_left (by omega), Nat.min_eq_left (by omega)]
          rfl
theorem mt_dig {S : sm_C} {d : Nat} {Φ : sm_Z → Prop} {I : sm_I} {L : sm_L} {R : sm_R} {x1 : Int32} {b : Nat → Int32} {n p e c : Nat} (hB : mt_B b) (hb : I 109 = b) (hz : (I 107 4).toInt = n) (hn : n ≤ 2000) (hp : x1.toInt = p) (hc : (I 107 10).toInt = c) (c5 : c ≤ 502) (e2 : e ≤ n) (h : ∀ (x : Int32) (J : sm_I) (K : sm_L), x.toInt = e → J = sm_up (sm_up (sm_up (sm_up I 110 c (if e - p ≤ 4 then 2 else 3)) 111 c x1) 112 c (mt_cd mt_f10 b p (min (e - p) 4))) 107 10 (I 107 10 + 1) → K = sm_up L 113 c 0 → sm_wp sm_P S (d + 1) 119 1 [.ref 107, .int x] [] (xLay, J, K, kM R) (0, 0) Φ) : ∀ (m k : Nat) (x3 : Int32) (x4 : Int32), x3.toInt = k → x4 = mt_cd mt_f10 b p (min k 4) → p + k ≤ e → tk_end tk_di b n (p + k) = e → e - (p + k) < m → sm_wp sm_P S (d + 1) 119 27 [.ref 107, .int x1, .int x3, .int x4] [] (xLay, I, L, kM R) (0, 0) Φ := by
  have c4 : (4 : Int32).toInt = 4 := by decide
  intro m
  induction m with
  | zero => intro k x3 x4 _ _ _ _ hM; omega
  | succ m ih =>
    intro k x3 x4 hx hy hk2 he hM
    have sx := tk_add hp hx (by omega)
    have fl := mt_by_t (b := b) (n := n) (p := p + k) (f := tk_di) hB hn (by decide) (fun x => mt_di)
    refine u_X12_cut_27 (mt_byteAt hz hn sx ⟨_, I, L, R, rfl, mt_isDigit ⟨_, I, L, R, rfl, fun a => ?_, fun a => ?_⟩⟩)
    · rw [hb] at a
      have a := (tk_if _).mp a
      have en : ¬ (p + k < n ∧ tk_di (b (p + k)) = true) := fun q => by rw [fl.mpr q] at a; cases a
      rw [tk_end_n en] at he
      have ek : k = e - p := by omega
      subst ek
      refine ⟨fun g => mt_token hc c5 (fun J K eJ eK => ⟨J, K, R, rfl, h _ J K (by rw [sx]; omega) ?_ eK⟩), fun g => mt_token hc c5 (fun J K eJ eK => ⟨J, K, R, rfl, h _ J K (by rw [sx]; omega) ?_ eK⟩)⟩
      · have g := kl_le.mp g
        rw [eJ, hy, if_pos (by omega)]
      · have g := kl_nle g
        rw [eJ, hy, if_neg (by omega)]
    · rw [hb] at a
      have a := fl.mp ((tk_if1 _).mp a)
      have r := tk_di_r a.2
      have se := tk_end_s a.1 a.2
      rw [se] at he
      have hle : p + k + 1 ≤ e := by rw [← he]; exact tk_end_le
      have s := ml_in1 (x := x3) (by omega)
      refine ⟨fun g => ?_, fun g => ?_⟩
      · have g := kl_le.mp g
        exact ih (k + 1) _ _ (by omega) (by rw [hy, Nat.min_eq_right (by omega), Nat.min_eq_right (by omega)]) (by omega) he (by omega)
      · have g := kl_nle g
        have eb : mt_by b n (p + k) = b (p + k) := mt_by_e hB hn a.1 (by omega)
        refine mt_byteAt hz hn sx ⟨_, I, L, R, rfl, fun n24 e24 => ?_⟩
        rw [hb, eb] at e24
        refine ih (k + 1) _ _ (by omega) ?_ (by omega) he (by omega)
        rw [e24, hy, Nat.min_eq_left (by omega), Nat.min_eq_left (by omega)]
        rfl
end
section
/-! the reference's cut, exact: all TOKENS -/
def mt_rows (b : Nat → Int32) (n c : Nat) (I : sm_I) (L : sm_L) : Prop := ∀ i, i < c → tk_at b n i < n ∧ I 110 i = mt_kd b n (tk_at b n i) ∧ (I 111 i).toInt = tk_at b n i ∧ I 112 i = mt_vl b n (tk_at b n i) ∧ L 113 i = mt_nm b n (tk_at b n i)
def mt_fr (I J : sm_I) (L K : sm_L) : Prop := (∀ a j, a ≠ 110 → a ≠ 111 → a ≠ 112 → ¬ (a = 107 ∧ j = 10) → J a j = I a j) ∧ ∀ a j, a ≠ 113 → K a j = L a j
/-- the TOKENS are cut: 501 of them, or fewer and the end -/
def mt_fin (b : Nat → Int32) (n c : Nat) (J : sm_I) : Prop := (c = 501 ∧ (J 107 10).toInt = 501) ∨ (c ≤ 500 ∧ (J 107 10).toInt = c + 1 ∧ tk_at b n c = n ∧ J 110 c = 0 ∧ (J 111 c).toInt = n)
theorem mt_cut1 {S : sm_C} {d : Nat} {Φ : sm_Z → Prop} {I0 : sm_I} {L0 : sm_L} {R : sm_R} {b : Nat → Int32} {n : Nat} (hk : pk_ok L0) (hB : mt_B b) (hb : I0 109 = b) (hz : (I0 107 4).toInt = n) (hn : n ≤ 2000) (h : ∀ (c : Nat) (J : sm_I) (K : sm_L), c ≤ 501 → mt_rows b n c J K → mt_fin b n c J → mt_fr I0 J L0 K → Φ (none, (xLay, J, K, kM R))) : ∀ (m : Nat) (I : sm_I) (L : sm_L) (x1 : Int32) (p c : Nat), x1.toInt = p → p ≤ n → (I 107 10).toInt = c → c ≤ 501 → mt_rows b n c I L → tk_sk b n p = tk_at b n c → mt_fr I0 I L0 L → n - p < m → sm_wp sm_P S (d + 1) 119 1 [.ref 107, .int x1] [] (xLay, I, L, kM R) (0, 0) Φ := by
  have c500 : (500 : Int32).toInt = 500 := by decide
  intro m
  induction m with
  | zero => intro I L x1 p c _ _ _ _ _ _ _ hM; omega
  | succ m ih =>
    intro I L x1 p c hx pn hc c5 hr hs hf hM
    have rb : I 109 = b := by funext j; rw [hf.1 109 j (by decide) (by decide) (by decide) (by omega), hb]
    have rz : (I 107 4).toInt = n := by rw [hf.1 107 4 (by decide) (by decide) (by decide) (by omega), hz]
    have rk : pk_ok L := pk_cg (fun j => hf.2 114 j (by decide)) hk
    have s1 := ml_in1 (x := x1) (by omega)
    refine u_X12_cut_1 ⟨fun a => ?_, fun a => ?_⟩
    · rw [kl_lt, c500] at a
      have : c = 501 := by omega
      exact h c I L c5 hr (Or.inl ⟨this, by omega⟩) hf
    · have a := kl_nlt a
      refine mt_byteAt rz hn hx ⟨_, I, L, R, rfl, fun g => ?_, fun g => ?_⟩
      · rw [kl_lt] at g
        have pn : p < n := by omega
        have eb : mt_by (I 109) n p = b p &&& 255 := by unfold mt_by; rw [if_pos pn, rb]
        rw [eb]
        have bl : ∀ c : Int32, 0 ≤ c.toInt → c.toInt ≤ 127 → (b p &&& 255 = c ↔ b p = c) := fun c c0 c1 => mt_eq (hB p (by omega)).1 (hB p (by omega)).2 c0 c1
        have blank : tk_bl (b p) = true → sm_wp sm_P S (d + 1) 119 1 [.ref 107, .int (x1 + (1 : Int32))] [] (xLay, I, L, (kM R)) (0, 0) Φ := fun z => by
          refine ih I L _ (p + 1) c (by omega) (by omega) hc c5 hr ?_ hf (by omega)
          rw [← hs]; unfold tk_sk; exact (tk_end_s pn z).symm
        refine ⟨fun z => blank ?_, fun z1 => ⟨fun z => blank ?_, fun z2 => ⟨fun z => blank ?_, fun z3 => ⟨fun z => blank ?_, fun z4 => ?_⟩⟩⟩⟩
        · have := (bl 9 (by decide) (by decide)).mp z
          unfold tk_bl; rw [this]; decide
        · have := (bl 10 (by decide) (by decide)).mp z
          unfold tk_bl; rw [this]; decide
        · have := (bl 13 (by decide) (by decide)).mp z
          unfold tk_bl; rw [this]; decide
        · have := (bl 32 (by decide) (by decide)).mp z
          unfold tk_bl; rw [this]; decide
        · have nb : tk_bl (b p) = false := by
            unfold tk_bl
            rw [show decide (b p = 9) = false from decide_eq_false (fun q => z1 ((bl 9 (by decide) (by decide)).mpr q)), show decide (b p = 10) = false from decide_eq_false (fun q => z2 ((bl 10 (by decide) (by decide)).mpr q)), show decide (b p = 13) = false from decide_eq_false (fun q => z3 ((bl 13 (by decide) (by decide)).mpr q)), show decide (b p = 32) = false from decide_eq_false (fun q => z4 ((bl 32 (by decide) (by decide)).mpr q))]
            rfl
          have sp : tk_at b n c = p := by
            rw [← hs]; unfold tk_sk; exact tk_end_n (by rw [nb]; simp)
          have nx := tk_nx_gt (b := b) (n := n) (p := p) pn
          have s := ml_in1 (x := I 107 10) (by omega)
          have go : ∀ (x : Int32) (J : sm_I) (K : sm_L), x.toInt = tk_nx b n p → J = sm_up (sm_up (sm_up (sm_up I 110 c (mt_kd b n p)) 111 c x1) 112 c (mt_vl b n p)) 107 10 (I 107 10 + 1) → K = sm_up L 113 c (mt_nm b n p) → sm_wp sm_P S (d + 1) 119 1 [.ref 107, .int x] [] (xLay, J, K, kM R) (0, 0) Φ := by
            intro x J K ex eJ eK
            refine ih J K x (tk_nx b n p) (c + 1) ex nx.2 ?_ (by omega) (fun i hi => ?_) ?_ ⟨fun a j a1 a2 a3 a4 => ?_, fun a j a1 => ?_⟩ (by omega)
            · rw [eJ, en_up_eq, s]; omega
            · by_cases e : i = c
              · subst e
                rw [sp, eJ, eK, en_up_ne _ _ _ _ (by omega), en_up_ne _ _ _ _ (by omega), en_up_ne _ _ _ _ (by omega), en_up_eq, en_up_ne _ _ _ _ (by omega), en_up_ne _ _ _ _ (by omega), en_up_eq, en_up_ne _ _ _ _ (by omega), en_up_eq, en_up_eq]
                exact ⟨pn, rfl, hx, rfl, rfl⟩
              · have q := hr i (by omega)
                refine ⟨q.1, ?_, ?_, ?_, ?_⟩
                · rw [eJ, en_up_ne _ _ _ _ (by omega), en_up_ne _ _ _ _ (by omega), en_up_ne _ _ _ _ (by omega), en_up_ne _ _ _ _ (by omega)]; exact q.2.1
                · rw [eJ, en_up_ne _ _ _ _ (by omega), en_up_ne _ _ _ _ (by omega), en_up_ne _ _ _ _ (by omega), en_up_ne _ _ _ _ (by omega)]; exact q.2.2.1
                · rw [eJ, en_up_ne _ _ _ _ (by omega), en_up_ne _ _ _ _ (by omega), en_up_ne _ _ _ _ (by omega), en_up_ne _ _ _ _ (by omega)]; exact q.2.2.2.1
                · rw [eK, en_up_ne _ _ _ _ (by omega)]; exact q.2.2.2.2
            · show tk_sk b n (tk_nx b n p) = (if tk_at b n c < n then tk_sk b n (tk_nx b n (tk_at b n c)) else n)
              rw [sp, if_pos pn]
            · rw [eJ, en_up_ne _ _ _ _ (by omega), en_up_ne _ _ _ _ (by omega), en_up_ne _ _ _ _ (by omega), en_up_ne _ _ _ _ (by omega)]; exact hf.1 a j a1 a2 a3 a4
            · rw [eK, en_up_ne _ _ _ _ (by omega)]; exact hf.2 a j a1
          refine mt_isLetter ⟨_, I, L, R, rfl, fun y => ?_, fun y => ?_⟩
          · have y := (tk_if _).mp y
            rw [mt_le (hB p (by omega)).1 (hB p (by omega)).2] at y
            have ny : ¬ tk_le (b p) = true := by rw [y]; decide
            refine mt_isDigit ⟨_, I, L, R, rfl, fun u => ?_, fun u => ?_⟩
            · have u := (tk_if _).mp u
              rw [mt_di (hB p (by omega)).1 (hB p (by omega)).2] at u
              have nu : ¬ tk_di (b p) = true := by rw [u]; decide
              refine mt_sign ⟨_, I, L, R, rfl, mt_token hc (by omega) (fun J K eJ eK => ⟨J, K, R, rfl, go _ J K ?_ ?_ ?_⟩)⟩
              · unfold tk_nx; rw [if_neg ny, if_neg nu]; omega
              · have e1 : mt_kd b n p = mt_sg (b p &&& 255) := by
                  unfold mt_kd; rw [if_neg ny, if_neg nu]
                  unfold mt_sg
                  simp only [bl 59 (by decide) (by decide), bl 58 (by decide) (by decide), bl 45 (by decide) (by decide)]
                have e2 : mt_vl b n p = 0 := by unfold mt_vl; rw [if_neg ny, if_neg nu]
                rw [eJ, e1, e2]
              · have e3 : mt_nm b n p = 0 := by unfold mt_nm; rw [if_neg ny]
                rw [eK, e3]
            · have u := (tk_if1 _).mp u
              rw [mt_di (hB p (by omega)).1 (hB p (by omega)).2] at u
              refine mt_dig (b := b) (n := n) (p := p) (c := c) (e := tk_end tk_di b n p) hB rb rz hn hx hc (by omega) (tk_end_n2 (by omega)) (fun x J K ex eJ eK => go x J K ?_ ?_ ?_) (tk_end tk_di b n p - p + 1) 0 0 0 (by decide) (by rfl) tk_end_le rfl (by omega)
              · unfold tk_nx; rw [if_neg ny, if_pos u]; exact ex
              · unfold mt_kd mt_vl; rw [if_neg ny, if_neg ny, if_pos u, if_pos u]; exact eJ
              · unfold mt_nm; rw [if_neg ny]; exact eK
          · have y := (tk_if1 _).mp y
            rw [mt_le (hB p (by omega)).1 (hB p (by omega)).2] at y
            refine mt_let (b := b) (n := n) (p := p) (c := c) (e := tk_end tk_le b n p) rk hB rb rz hn hx hc (by omega) (tk_end_n2 (by omega)) (fun x J K ex eJ eK => go x J K ?_ ?_ ?_) (tk_end tk_le b n p - p + 1) 0 0 0 (by decide) (by rfl) tk_end_le rfl (by omega)
            · unfold tk_nx; rw [if_pos y]; exact ex
            · unfold mt_kd mt_vl; rw [if_pos y, if_pos y]; exact eJ
            · unfold mt_nm; rw [if_pos y]; exact eK
      · have g := kl_nlt g
        have e : p = n := by omega
        have an : tk_at b n c = n := by rw [← hs, e]; unfold tk_sk; exact tk_end_n (by omega)
        have s := ml_in1 (x := I 107 10) (by omega)
        refine mt_token hc (by omega) (fun J K eJ eK => ⟨J, K, R, rfl, h c J K c5 (fun i hi => ?_) (Or.inr ⟨by omega, ?_, an, ?_, ?_⟩) ⟨fun a j a1 a2 a3 a4 => ?_, fun a j a1 => ?_⟩⟩)
        · have q := hr i hi
          refine ⟨q.1, ?_, ?_, ?_, ?_⟩
          · rw [eJ, en_up_ne _ _ _ _ (by omega), en_up_ne _ _ _ _ (by omega), en_up_ne _ _ _ _ (by omega), en_up_ne _ _ _ _ (by omega)]; exact q.2.1
          · rw [eJ, en_up_ne _ _ _ _ (by omega), en_up_ne _ _ _ _ (by omega), en_up_ne _ _ _ _ (by omega), en_up_ne _ _ _ _ (by omega)]; exact q.2.2.1
          · rw [eJ, en_up_ne _ _ _ _ (by omega), en_up_ne _ _ _ _ (by omega), en_up_ne _ _ _ _ (by omega), en_up_ne _ _ _ _ (by omega)]; exact q.2.2.2.1
          · rw [eK, en_up_ne _ _ _ _ (by omega)]; exact q.2.2.2.2
        · rw [eJ, en_up_eq, s]; omega
        · rw [eJ, en_up_ne _ _ _ _ (by omega), en_up_ne _ _ _ _ (by omega), en_up_ne _ _ _ _ (by omega), en_up_eq]
        · rw [eJ, en_up_ne _ _ _ _ (by omega), en_up_ne _ _ _ _ (by omega), en_up_eq]; exact rz
        · rw [eJ, en_up_ne _ _ _ _ (by omega), en_up_ne _ _ _ _ (by omega), en_up_ne _ _ _ _ (by omega), en_up_ne _ _ _ _ (by omega)]; exact hf.1 a j a1 a2 a3 a4
        · rw [eK, en_up_ne _ _ _ _ (by omega)]; exact hf.2 a j a1
theorem mt_cut {S : sm_C} {d : Nat} {Φ : sm_Z → Prop} {I : sm_I} {L : sm_L} {R : sm_R} {n : Nat} (hk : pk_ok L) (hB : mt_B (I 109)) (hz : (I 107 4).toInt = n) (hn : n ≤ 2000) (h : ∀ (c : Nat) (J : sm_I) (K : sm_L), c ≤ 501 → mt_rows (I 109) n c J K → mt_fin (I 109) n c J → mt_fr I J L K → Φ (none, (xLay, J, K, kM R))) : sm_wp sm_P S (d + 1) 119 0 [.ref 107] [] (xLay, I, L, kM R) (0, 0) Φ := by
  refine u_X12_cut_0 (mt_cut1 (I0 := I) (L0 := L) (b := I 109) hk hB rfl hz hn h (n + 1) _ L 0 0 0 (by decide) (by omega) (by rw [en_up_eq]; decide) (by omega) (fun i hi => absurd hi (Nat.not_lt_zero i)) rfl ⟨fun a j a1 a2 a3 a4 => ?_, fun _ _ _ => rfl⟩ (by omega))
  rw [en_up_ne _ _ _ _ (by omega)]
end
section
/-! names: both codings tell the same names apart -/
def nc (B : Nat) (g : Int32 → Nat) (b : Nat → Int32) (p : Nat) : Nat → Nat
  | 0 => 0
  | k + 1 => B * nc B g b p k + g (b (p + k))
theorem nc_inj {B : Nat} {g : Int32 → Nat} {b b' : Nat → Int32} {p p' : Nat} : ∀ (k k' : Nat), (∀ i, i < k → 1 ≤ g (b (p + i)) ∧ g (b (p + i)) < B) → (∀ i, i < k' → 1 ≤ g (b' (p' + i)) ∧ g (b' (p' + i)) < B) → nc B g b p k = nc B g b' p' k' → k = k' ∧ ∀ i, i < k → g (b (p + i)) = g (b' (p' + i)) := by
  intro k
  induction k with
  | zero =>
    intro k' _ h2 h
    cases k' with
    | zero => exact ⟨rfl, fun i hi => absurd hi (Nat.not_lt_zero i)⟩
    | succ k' =>
      have h : 0 = B * nc B g b' p' k' + g (b' (p' + k')) := h
      have := h2 k' (Nat.lt_succ_self _)
      omega
  | succ k ih =>
    intro k' h1 h2 h
    cases k' with
    | zero =>
      have h : B * nc B g b p k + g (b (p + k)) = 0 := h
      have := h1 k (Nat.lt_succ_self _)
      omega
    | succ k' =>
      have h : B * nc B g b p k + g (b (p + k)) = B * nc B g b' p' k' + g (b' (p' + k')) := h
      have a := h1 k (Nat.lt_succ_self _)
      have a' := h2 k' (Nat.lt_succ_self _)
      have m1 : (B * nc B g b p k + g (b (p + k))) % B = g (b (p + k)) := by rw [Nat.mul_add_mod, Nat.mod_eq_of_lt a.2]
      have m2 : (B * nc B g b' p' k' + g (b' (p' + k'))) % B = g (b' (p' + k')) := by rw [Nat.mul_add_mod, Nat.mod_eq_of_lt a'.2]
      have d1 : (B * nc B g b p k + g (b (p + k))) / B = nc B g b p k := by rw [Nat.mul_add_div (by omega), Nat.div_eq_of_lt a.2]; rfl
      have d2 : (B * nc B g b' p' k' + g (b' (p' + k'))) / B = nc B g b' p' k' := by rw [Nat.mul_add_div (by omega), Nat.div_eq_of_lt a'.2]; rfl
      have e : g (b (p + k)) = g (b' (p' + k')) := by rw [← m1, ← m2, h]
      have e2 : nc B g b p k = nc B g b' p' k' := by rw [← d1, ← d2, h]
      obtain ⟨q1, q2⟩ := ih k' (fun i hi => h1 i (by omega)) (fun i hi => h2 i (by omega)) e2
      subst q1
      refine ⟨rfl, fun i hi => ?_⟩
      by_cases c : i = k
      · subst c; exact e
      · exact q2 i (by omega)
theorem nc_lt {B D : Nat} {g : Int32 → Nat} {b : Nat → Int32} {p : Nat} (hD : D ≤ B) : ∀ k : Nat, (∀ i, i < k + 1 → g (b (p + i)) < D) → nc B g b p (k + 1) < D * B ^ k := by
  intro k
  induction k with
  | zero =>
    intro h
    have := h 0 (by omega)
    show B * 0 + g (b (p + 0)) < D * B ^ 0
    rw [Nat.pow_zero]; omega
  | succ k ih =>
    intro h
    have q := ih (fun i hi => h i (by omega))
    have r := h (k + 1) (by omega)
    show B * nc B g b p (k + 1) + g (b (p + (k + 1))) < D * B ^ (k + 1)
    have e : D * B ^ (k + 1) = B * (D * B ^ k) := by rw [Nat.pow_succ]; rw [← Nat.mul_assoc, Nat.mul_comm]
    rw [e]
    have z : B * (nc B g b p (k + 1) + 1) ≤ B * (D * B ^ k) := Nat.mul_le_mul_left B q
    rw [Nat.mul_add] at z
    omega
theorem tk_cd_cg {f : Int64 → Int32 → Int64} {b b' : Nat → Int32} {p p' : Nat} : ∀ k : Nat, (∀ i, i < k → b (p + i) = b' (p' + i)) → tk_cd f b p k = tk_cd f b' p' k := by
  intro k
  induction k with
  | zero => intro _; rfl
  | succ k ih =>
    intro h
    show f (tk_cd f b p k) (b (p + k)) = f (tk_cd f b' p' k) (b' (p' + k))
    rw [ih (fun i hi => h i (by omega)), h k (by omega)]
/-- k letters from p on -/
def nm_L (b : Nat → Int32) (p k : Nat) : Prop := ∀ i, i < k → 97 ≤ (b (p + i)).toInt ∧ (b (p + i)).toInt ≤ 122
def nm_g8 (x : Int32) : Nat := x.toInt.toNat
def nm_g27 (x : Int32) : Nat := x.toInt.toNat - 96
theorem nm_up {x y : Int32} (hx : 97 ≤ x.toInt) (hy : 97 ≤ y.toInt) (h : nm_g8 x = nm_g8 y ∨ nm_g27 x = nm_g27 y) : x = y := by
  unfold nm_g8 nm_g27 at h
  exact en_ofI (by omega)
theorem l64 {x y : Int64} (h1 : -9223372036854775808 ≤ x.toInt + y.toInt) (h2 : x.toInt + y.toInt ≤ 9223372036854775807) : (x + y).toInt = x.toInt + y.toInt := by
  rw [Int64.toInt_add, Int.bmod_eq_of_le] <;> omega
theorem l64m {x y : Int64} (h1 : -9223372036854775808 ≤ x.toInt * y.toInt) (h2 : x.toInt * y.toInt ≤ 9223372036854775807) : (x * y).toInt = x.toInt * y.toInt := by
  rw [Int64.toInt_mul, Int.bmod_eq_of_le] <;> omega
theorem nm_27 {b : Nat → Int32} {p : Nat} : ∀ k : Nat, k ≤ 8 → nm_L b p k → (tk_cd mt_f27 b p k).toInt = (nc 27 nm_g27 b p k : Nat) := by
  intro k
  induction k with
  | zero => intro _ _; rfl
  | succ k ih =>
    intro h8 hL
    have q := ih (by omega) (fun i hi => hL i (by omega))
    have r := hL k (by omega)
    have lt : nc 27 nm_g27 b p k < 27 ^ 8 := by
      cases k with
      | zero => show 0 < 27 ^ 8; decide
      | succ k =>
        have := nc_lt (B := 27) (D := 27) (g := nm_g27) (b := b) (p := p) (Nat.le_refl _) k (fun i hi => by have := hL i (by omega); unfold nm_g27; omega)
        have w : 27 * 27 ^ k ≤ 27 ^ 8 := by rw [← Nat.pow_succ']; exact Nat.pow_le_pow_right (by decide) (by omega)
        omega
    have p8 : (27 : Nat) ^ 8 = 282429536481 := by decide
    rw [p8] at lt
    have c97 : (97 : Int32).toInt = 97 := by decide
    have c1 : (1 : Int32).toInt = 1 := by decide
    have d1 : (b (p + k) - 97).toInt = (b (p + k)).toInt - 97 := by
      rw [Int32.toInt_sub, c97]; exact en_bmod (by omega) (by omega) (Or.inl rfl)
    have d2 : ((b (p + k) - 97) + 1).toInt = (b (p + k)).toInt - 96 := by
      rw [kl_add (by rw [d1, c1]; omega) (by rw [d1, c1]; omega), d1, c1]; omega
    have d3 : (((b (p + k) - 97) + 1).toInt64).toInt = (b (p + k)).toInt - 96 := by rw [Int32.toInt_toInt64, d2]
    have c27 : (27 : Int64).toInt = 27 := by decide
    have m : ((27 : Int64) * tk_cd mt_f27 b p k).toInt = 27 * (nc 27 nm_g27 b p k : Nat) := by
      rw [l64m (by rw [c27, q]; omega) (by rw [c27, q]; omega), c27, q]
    show (((27 : Int64) * tk_cd mt_f27 b p k) + ((b (p + k) - 97) + 1).toInt64).toInt = ((27 * nc 27 nm_g27 b p k + nm_g27 (b (p + k)) : Nat) : Int)
    rw [l64 (by rw [m, d3]; omega) (by rw [m, d3]; omega), m, d3]
    unfold nm_g27
    omega
end
section
/-! the class's code of a name -/
theorem i64_nat {s : Int64} {N : Nat} (h : s.toInt = N) : s.toBitVec.toNat = N := by
  have h : s.toBitVec.toInt = N := h
  rw [BitVec.toInt_eq_toNat_cond] at h
  have := s.toBitVec.isLt
  split at h <;> omega
theorem i64_of {s : Int64} {N : Nat} (hN : N < 2 ^ 63) (h : s.toBitVec.toNat = N) : s.toInt = N := by
  show s.toBitVec.toInt = N
  rw [BitVec.toInt_eq_toNat_cond, h, if_pos (by omega)]
theorem nm_sh {s : Int64} {x : Int32} {N X : Nat} (hs : s.toInt = N) (hN : N < 2 ^ 55) (hx : x.toInt = X) (hX : X < 128) (hb : 256 * N + X < 2 ^ 63) : (tk_f8 s x).toInt = ((256 * N + X : Nat) : Int) := by
  apply i64_of hb
  have e1 := i64_nat hs
  have e2 : (x.toInt64).toBitVec.toNat = X := i64_nat (by rw [Int32.toInt_toInt64]; exact hx)
  have e : (tk_f8 s x).toBitVec = (s.toBitVec <<< (8 : Nat)) ||| (x.toInt64).toBitVec := rfl
  rw [e, BitVec.toNat_or, BitVec.toNat_shiftLeft, e1, e2, Nat.mod_eq_of_lt (by rw [Nat.shiftLeft_eq]; omega), ← Nat.shiftLeft_add_eq_or_of_lt (by omega), Nat.shiftLeft_eq]
  omega
theorem nm_8 {b : Nat → Int32} {p : Nat} : ∀ k : Nat, k ≤ 8 → nm_L b p k → (tk_cd tk_f8 b p k).toInt = (nc 256 nm_g8 b p k : Nat) := by
  intro k
  induction k with
  | zero => intro _ _; rfl
  | succ k ih =>
    intro h8 hL
    have q := ih (by omega) (fun i hi => hL i (by omega))
    have r := hL k (by omega)
    have hd : ∀ i, i < k + 1 → nm_g8 (b (p + i)) < 128 := fun i hi => by have := hL i (by omega); unfold nm_g8; omega
    have l2 := nc_lt (B := 256) (D := 128) (g := nm_g8) (b := b) (p := p) (by decide) k hd
    have w2 : 128 * 256 ^ k ≤ 128 * 256 ^ 7 := Nat.mul_le_mul_left _ (Nat.pow_le_pow_right (by decide) (by omega))
    have v2 : 128 * 256 ^ 7 = (2 : Nat) ^ 63 := by decide
    rw [v2] at w2
    have e : nc 256 nm_g8 b p (k + 1) = 256 * nc 256 nm_g8 b p k + nm_g8 (b (p + k)) := rfl
    rw [e] at l2 ⊢
    exact nm_sh q (by omega) (by unfold nm_g8; omega) (hd k (by omega)) (by omega)
/-- both codings tell the same names apart -/
theorem nm_iff {b b' : Nat → Int32} {p p' k k' : Nat} (hk : k ≤ 8) (hk' : k' ≤ 8) (h : nm_L b p k) (h' : nm_L b' p' k') : (tk_cd tk_f8 b p k = tk_cd tk_f8 b' p' k' ↔ tk_cd mt_f27 b p k = tk_cd mt_f27 b' p' k') ∧ (tk_cd tk_f8 b p k = tk_cd tk_f8 b' p' k' → k = k') := by
  have A : tk_cd tk_f8 b p k = tk_cd tk_f8 b' p' k' → k = k' ∧ ∀ i, i < k → b (p + i) = b' (p' + i) := fun e => by
    have e2 : nc 256 nm_g8 b p k = nc 256 nm_g8 b' p' k' := by
      have := nm_8 k hk h
      rw [e, nm_8 k' hk' h'] at this
      omega
    obtain ⟨q1, q2⟩ := nc_inj k k' (fun i hi => by have := h i hi; unfold nm_g8; omega) (fun i hi => by have := h' i hi; unfold nm_g8; omega) e2
    exact ⟨q1, fun i hi => nm_up (h i hi).1 (h' i (by omega)).1 (Or.inl (q2 i hi))⟩
  have B : tk_cd mt_f27 b p k = tk_cd mt_f27 b' p' k' → k = k' ∧ ∀ i, i < k → b (p + i) = b' (p' + i) := fun e => by
    have e2 : nc 27 nm_g27 b p k = nc 27 nm_g27 b' p' k' := by
      have := nm_27 k hk h
      rw [e, nm_27 k' hk' h'] at this
      omega
    obtain ⟨q1, q2⟩ := nc_inj k k' (fun i hi => by have := h i hi; unfold nm_g27; omega) (fun i hi => by have := h' i hi; unfold nm_g27; omega) e2
    exact ⟨q1, fun i hi => nm_up (h i hi).1 (h' i (by omega)).1 (Or.inr (q2 i hi))⟩
  refine ⟨⟨fun e => ?_, fun e => ?_⟩, fun e => (A e).1⟩
  · obtain ⟨q1, q2⟩ := A e
    subst q1
    exact tk_cd_cg k q2
  · obtain ⟨q1, q2⟩ := B e
    subst q1
    exact tk_cd_cg k q2
/-! the words -/
def wd_l : List (List Int32) := [[119, 104, 111], [112, 108, 97, 99, 101], [119, 97, 121], [116, 105, 109, 101], [111, 102], [105, 110], [115, 97, 121], [116, 114, 117, 115, 116], [115, 117, 114, 101], [111, 114], [111, 112, 101, 110], [98, 101, 104, 105, 110, 100], [97, 115, 107], [97, 110, 100], [97, 116]]
def wd_b (i j : Nat) : Int32 := (wd_l.getD i []).getD j 0
def wd_n (i : Nat) : Nat := (wd_l.getD i []).length
def wd_m : List Nat := [0, 1, 2, 3, 4, 5, 6, 14, 7, 8, 12, 11, 13, 9, 10]
theorem wd_8 : ∀ i, i < 15 → sm_words.getD i 0 = tk_cd tk_f8 (wd_b i) 0 (wd_n i) := by decide +kernel
theorem wd_27 : ∀ i, i < 15 → pk_key.getD (wd_m.getD i 0) 0 = tk_cd mt_f27 (wd_b i) 0 (wd_n i) := by decide +kernel
theorem wd_L : ∀ i, i < 15 → ∀ j, j < wd_n i → 97 ≤ (wd_b i (0 + j)).toInt ∧ (wd_b i (0 + j)).toInt ≤ 122 := by decide +kernel
theorem wd_n6 : ∀ i, i < 15 → wd_n i ≤ 6 := by decide
theorem wd_on : ∀ j, j < 15 → ∃ i, i < 15 ∧ wd_m.getD i 0 = j := by decide
theorem wd_c : ∀ i, i < 15 → tk_wd (sm_words.getD i 0) 15 0 = Int32.ofNat i ∧ mt_ky (pk_key.getD (wd_m.getD i 0) 0) 15 0 1 = 20 + Int32.ofNat (wd_m.getD i 0) := by decide +kernel
theorem tk_wd_no {y : Int64} : ∀ m i : Nat, (∀ j, i ≤ j → j < i + m → ¬ sm_words.getD j 0 = y) → tk_wd y m i = 15 := by
  intro m
  induction m with
  | zero => intro i _; rfl
  | succ m ih =>
    intro i h
    show (if sm_words.getD i 0 = y then Int32.ofNat i else tk_wd y m (i + 1)) = 15
    rw [if_neg (h i (Nat.le_refl _) (by omega))]
    exact ih (i + 1) (fun j a b => h j (by omega) (by omega))
theorem mt_ky_no {y : Int64} {c : Int32} : ∀ m i : Nat, (∀ j, i ≤ j → j < i + m → ¬ pk_key.getD j 0 = y) → mt_ky y m i c = c := by
  intro m
  induction m with
  | zero => intro i _; rfl
  | succ m ih =>
    intro i h
    show mt_ky y m (i + 1) (if pk_key.getD i 0 = y then (20 : Int32) + Int32.ofNat i else c) = c
    rw [if_neg (h i (Nat.le_refl _) (by omega))]
    exact ih (i + 1) (fun j a b => h j (by omega) (by omega))
/-- the kinds: the reference's of the class's -/
def kd_m : List Int32 := [20, 21, 22, 23, 24, 25, 26, 34, 27, 28, 32, 31, 33, 29, 30, 1, 2, 4, 5, 9, 3, 0]
theorem kd_w : ∀ i, i < 15 → kd_m.getD (Int32.ofNat i).toNatClampNeg 0 = 20 + Int32.ofNat (wd_m.getD i 0) := by decide +kernel
theorem tk_run_t {f : Int32 → Bool} {b : Nat → Int32} {n : Nat} : ∀ (k p i : Nat), p ≤ i → i < tk_run f b n k p → f (b i) = true := by
  intro k
  induction k with
  | zero => intro p i h1 h2; have h2 : i < p := h2; omega
  | succ k ih =>
    intro p i h1 h2
    have h2 : i < (if p < n ∧ f (b p) = true then tk_run f b n k (p + 1) else p) := h2
    by_cases c : p < n ∧ f (b p) = true
    · rw [if_pos c] at h2
      by_cases e : i = p
      · subst e; exact c.2
      · exact ih (p + 1) i (by omega) h2
    · rw [if_neg c] at h2; omega
theorem nm_Lof {b : Nat → Int32} {n p : Nat} : nm_L b p (tk_end tk_le b n p - p) := fun i hi => tk_le_r (tk_run_t (n := n) (n - p) p (p + i) (by omega) (by unfold tk_end at hi; omega))
theorem kd_eq {b : Nat → Int32} {n p : Nat} : mt_kd b n p = kd_m.getD (tk_kd b n p).toNatClampNeg 0 := by
  unfold mt_kd tk_kd
  by_cases c : tk_le (b p) = true
  · rw [if_pos c, if_pos c]
    have hL := nm_Lof (b := b) (n := n) (p := p)
    generalize tk_end tk_le b n p - p = k at hL ⊢
    by_cases c8 : k ≤ 8
    · rw [if_pos c8, if_pos c8]
      have w : ∀ i, i < 15 → _ := fun i hi => nm_iff c8 (Nat.le_trans (wd_n6 i hi) (by decide)) hL (wd_L i hi)
      by_cases e : ∃ i, i < 15 ∧ tk_cd tk_f8 b p k = sm_words.getD i 0
      · obtain ⟨i, hi, e⟩ := e
        have e' := e
        rw [wd_8 i hi] at e'
        have k7 : k ≤ 7 := by have := (w i hi).2 e'; have := wd_n6 i hi; omega
        have e27 := (w i hi).1.mp e'
        rw [← wd_27 i hi] at e27
        rw [if_pos k7, e, e27, (wd_c i hi).1, (wd_c i hi).2, kd_w i hi]
      · have no8 : ∀ j, 0 ≤ j → j < 0 + 15 → ¬ sm_words.getD j 0 = tk_cd tk_f8 b p k := fun j _ hj q => e ⟨j, by omega, q.symm⟩
        have no27 : ∀ j, 0 ≤ j → j < 0 + 15 → ¬ pk_key.getD j 0 = tk_cd mt_f27 b p k := fun j _ hj q => by
          obtain ⟨i, hi, ei⟩ := wd_on j (by omega)
          subst ei
          rw [wd_27 i hi] at q
          exact e ⟨i, hi, by rw [wd_8 i hi]; exact (w i hi).1.mpr q.symm⟩
        rw [tk_wd_no 15 0 no8, mt_ky_no 15 0 no27]
        by_cases c7 : k ≤ 7
        · rw [if_pos c7]; decide
        · rw [if_neg c7]; decide
    · rw [if_neg c8, if_neg c8]; decide
  · rw [if_neg c, if_neg c]
    by_cases c2 : tk_di (b p) = true
    · rw [if_pos c2, if_pos c2]
      by_cases c4 : tk_end tk_di b n p - p ≤ 4
      · rw [if_pos c4, if_pos c4]; decide
      · rw [if_neg c4, if_neg c4]; decide
    · rw [if_neg c2, if_neg c2]
      unfold mt_sg tk_sg
      have i45 : (45 : Int32).toInt = 45 := by decide
      have i58 : (58 : Int32).toInt = 58 := by decide
      have i59 : (59 : Int32).toInt = 59 := by decide
      by_cases e1 : b p = 59
      · rw [if_pos e1, if_neg (by rw [e1, i59]; decide), if_neg (by rw [e1, i59]; decide), if_pos (by rw [e1, i59])]; decide
      · rw [if_neg e1]
        by_cases e2 : b p = 58
        · rw [if_pos e2, if_neg (by rw [e2, i58]; decide), if_pos (by rw [e2, i58])]; decide
        · rw [if_neg e2]
          by_cases e3 : b p = 45
          · rw [if_pos e3, if_pos (by rw [e3, i45])]; decide
          · rw [if_neg e3, if_neg (fun q => e3 (en_ofI (by rw [q, i45]))), if_neg (fun q => e2 (en_ofI (by rw [q, i58]))), if_neg (fun q => e1 (en_ofI (by rw [q, i59])))]; decide
end
section
/-! INTs: the same number on both sides -/
def nm_D (b : Nat → Int32) (p k : Nat) : Prop := ∀ i, i < k → 48 ≤ (b (p + i)).toInt ∧ (b (p + i)).toInt ≤ 57
def nm_g10 (x : Int32) : Nat := x.toInt.toNat - 48
theorem nm_Dof {b : Nat → Int32} {n p : Nat} : nm_D b p (tk_end tk_di b n p - p) := fun i hi => tk_di_r (tk_run_t (n := n) (n - p) p (p + i) (by omega) (by unfold tk_end at hi; omega))
theorem nc10_lt {b : Nat → Int32} {p : Nat} : ∀ k : Nat, k ≤ 4 → nm_D b p k → nc 10 nm_g10 b p k < 10000 := by
  intro k h4 hD
  cases k with
  | zero => show 0 < 10000; decide
  | succ k =>
    have := nc_lt (B := 10) (D := 10) (g := nm_g10) (b := b) (p := p) (Nat.le_refl _) k (fun i hi => by have := hD i (by omega); unfold nm_g10; omega)
    have w : 10 * 10 ^ k ≤ 10 * 10 ^ 3 := Nat.mul_le_mul_left _ (Nat.pow_le_pow_right (by decide) (by omega))
    omega
theorem nm_10 {b : Nat → Int32} {p : Nat} : ∀ k : Nat, k ≤ 4 → nm_D b p k → (tk_cd tk_f10 b p k).toInt = (nc 10 nm_g10 b p k : Nat) ∧ (mt_cd mt_f10 b p k).toInt = (nc 10 nm_g10 b p k : Nat) := by
  intro k
  induction k with
  | zero => intro _ _; exact ⟨rfl, rfl⟩
  | succ k ih =>
    intro h4 hD
    have dk : nm_D b p k := fun i hi => hD i (by omega)
    obtain ⟨q1, q2⟩ := ih (by omega) dk
    have r := hD k (by omega)
    have lt := nc10_lt k (by omega) dk
    have e : nc 10 nm_g10 b p (k + 1) = 10 * nc 10 nm_g10 b p k + nm_g10 (b (p + k)) := rfl
    have ge : nm_g10 (b (p + k)) = ((b (p + k)).toInt.toNat - 48) := rfl
    have c10 : (10 : Int64).toInt = 10 := by decide
    have d10 : (10 : Int32).toInt = 10 := by decide
    have c48 : (48 : Int64).toInt = 48 := by decide
    have d48 : (48 : Int32).toInt = 48 := by decide
    refine ⟨?_, ?_⟩
    · have m : (tk_cd tk_f10 b p k * (10 : Int64)).toInt = (nc 10 nm_g10 b p k : Nat) * 10 := by
        rw [l64m (by rw [c10, q1]; omega) (by rw [c10, q1]; omega), c10, q1]
      have x : ((b (p + k)).toInt64).toInt = (b (p + k)).toInt := Int32.toInt_toInt64 _
      have s : (tk_cd tk_f10 b p k * (10 : Int64) + (b (p + k)).toInt64).toInt = (nc 10 nm_g10 b p k : Nat) * 10 + (b (p + k)).toInt := by
        rw [l64 (by rw [m, x]; omega) (by rw [m, x]; omega), m, x]
      show ((tk_cd tk_f10 b p k * (10 : Int64) + (b (p + k)).toInt64) - (48 : Int64)).toInt = _
      rw [Int64.toInt_sub, s, c48, Int.bmod_eq_of_le (by omega) (by omega), e, ge]
      omega
    · have m : ((10 : Int32) * mt_cd mt_f10 b p k).toInt = 10 * (nc 10 nm_g10 b p k : Nat) := by
        rw [kl_mul (by rw [d10, q2]; omega) (by rw [d10, q2]; omega), d10, q2]
      have s : ((10 : Int32) * mt_cd mt_f10 b p k + b (p + k)).toInt = 10 * (nc 10 nm_g10 b p k : Nat) + (b (p + k)).toInt := by
        rw [kl_add (by rw [m]; omega) (by rw [m]; omega), m]
      show (((10 : Int32) * mt_cd mt_f10 b p k + b (p + k)) - (48 : Int32)).toInt = _
      rw [Int32.toInt_sub, s, d48, en_bmod (by omega) (by omega) (Or.inl rfl), e, ge]
      omega
/-- an INT's number -/
theorem in_eq {b : Nat → Int32} {n p : Nat} (h : tk_kd b n p = 16) : ∃ v : Nat, v < 10000 ∧ (tk_vl b n p).toInt = v ∧ (mt_vl b n p).toInt = v := by
  unfold tk_kd at h
  unfold tk_vl mt_vl
  by_cases c : tk_le (b p) = true
  · exfalso
    rw [if_pos c] at h
    by_cases c8 : tk_end tk_le b n p - p ≤ 8
    · rw [if_pos c8] at h
      by_cases e : ∃ i, i < 15 ∧ sm_words.getD i 0 = tk_cd tk_f8 b p (tk_end tk_le b n p - p)
      · obtain ⟨i, hi, e⟩ := e
        rw [← e, (wd_c i hi).1] at h
        have h := congrArg Int32.toInt h
        rw [Int32.toInt_ofNat_of_lt (by omega)] at h
        have c16 : (16 : Int32).toInt = 16 := by decide
        omega
      · rw [tk_wd_no 15 0 (fun j _ hj q => e ⟨j, by omega, q⟩)] at h
        exact absurd h (by decide)
    · rw [if_neg c8] at h; exact absurd h (by decide)
  · rw [if_neg c] at h
    rw [if_neg c, if_neg c]
    by_cases c2 : tk_di (b p) = true
    · rw [if_pos c2] at h
      rw [if_pos c2, if_pos c2]
      by_cases c4 : tk_end tk_di b n p - p ≤ 4
      · have q := nm_10 _ c4 (nm_Dof (b := b) (n := n) (p := p))
        rw [Nat.min_eq_left c4]
        exact ⟨_, nc10_lt _ c4 nm_Dof, q.1, q.2⟩
      · rw [if_neg c4] at h; exact absurd h (by decide)
    · exfalso
      rw [if_neg c2] at h
      unfold tk_sg at h
      by_cases e1 : (b p).toInt = 45
      · rw [if_pos e1] at h; exact absurd h (by decide)
      · rw [if_neg e1] at h
        by_cases e2 : (b p).toInt = 58
        · rw [if_pos e2] at h; exact absurd h (by decide)
        · rw [if_neg e2] at h
          by_cases e3 : (b p).toInt = 59
          · rw [if_pos e3] at h; exact absurd h (by decide)
          · rw [if_neg e3] at h; exact absurd h (by decide)
/-- names: the same on one side, the same on the other -/
theorem na_eq {b : Nat → Int32} {n p p' : Nat} (h : tk_kd b n p = 15) (h' : tk_kd b n p' = 15) : tk_vl b n p = tk_vl b n p' ↔ mt_nm b n p = mt_nm b n p' := by
  have is : ∀ p, tk_kd b n p = 15 → tk_le (b p) = true ∧ tk_end tk_le b n p - p ≤ 8 := fun p h => by
    unfold tk_kd at h
    by_cases c : tk_le (b p) = true
    · rw [if_pos c] at h
      by_cases c8 : tk_end tk_le b n p - p ≤ 8
      · exact ⟨c, c8⟩
      · rw [if_neg c8] at h; exact absurd h (by decide)
    · exfalso
      rw [if_neg c] at h
      by_cases c2 : tk_di (b p) = true
      · rw [if_pos c2] at h
        by_cases c4 : tk_end tk_di b n p - p ≤ 4
        · rw [if_pos c4] at h; exact absurd h (by decide)
        · rw [if_neg c4] at h; exact absurd h (by decide)
      · rw [if_neg c2] at h
        unfold tk_sg at h
        by_cases e1 : (b p).toInt = 45
        · rw [if_pos e1] at h; exact absurd h (by decide)
        · rw [if_neg e1] at h
          by_cases e2 : (b p).toInt = 58
          · rw [if_pos e2] at h; exact absurd h (by decide)
          · rw [if_neg e2] at h
            by_cases e3 : (b p).toInt = 59
            · rw [if_pos e3] at h; exact absurd h (by decide)
            · rw [if_neg e3] at h; exact absurd h (by decide)
  obtain ⟨a, a8⟩ := is p h
  obtain ⟨a', a8'⟩ := is p' h'
  unfold tk_vl mt_nm
  rw [if_pos a, if_pos a', if_pos a, if_pos a', Nat.min_eq_left a8, Nat.min_eq_left a8']
  exact (nm_iff a8 a8' nm_Lof nm_Lof).1
end
section
/-! THE GRAMMAR: what follows what -/
def fwl : List Int32 → Int32 → Int32 → Int32
  | a :: b :: c :: r, s, k => if a = s then (if b = k then c else fwl r s k) else fwl r s k
  | _, _, _ => -1
def fw (s k : Int32) : Int32 := fwl sm_steps s k
theorem dr3 {l : List Int32} {j : Nat} (h : j + 2 < l.length) : l.drop j = l.getD j 0 :: l.getD (j + 1) 0 :: l.getD (j + 2) 0 :: l.drop (j + 3) := by
  have g : ∀ i, i < l.length → l.drop i = l.getD i 0 :: l.drop (i + 1) := fun i hi => by
    rw [List.drop_eq_getElem_cons hi, List.getD_eq_getElem?_getD, List.getElem?_eq_getElem hi]; rfl
  rw [g j (by omega), g (j + 1) (by omega), g (j + 2) (by omega)]
theorem st_len : sm_steps.length = 138 := by decide +kernel
theorem ks_follow1 {S : sm_C} {d q : Nat} {Φ : sm_Z → Prop} {I : sm_I} {L : sm_L} {R : sm_R} {x0 x1 : Int32} : ∀ (m i : Nat) (x2 : Int32), x2.toInt = i → i + 3 * m = 138 → Φ (some (.int (fwl (sm_steps.drop i) x0 x1)), (xLay, I, L, kT q R)) → sm_wp sm_P S d 241 1 [.int x0, .int x1, .int x2] [] (xLay, I, L, kT q R) (0, 0) Φ := by
  have l : (Int32.ofNat sm_steps.length).toInt = 138 := by rw [st_len]; decide
  have c1 : (1 : Int32).toInt = (1 : Nat) := by decide
  have c2 : (2 : Int32).toInt = (2 : Nat) := by decide
  have c3 : (3 : Int32).toInt = (3 : Nat) := by decide
  intro m
  induction m with
  | zero =>
    intro i x2 hx hm h
    have s2 := tk_add hx c2 (by omega)
    refine t_X3_follow_1 ⟨fun _ => ?_, fun a => ?_⟩
    · rw [List.drop_eq_nil_of_le (by rw [st_len]; omega)] at h; exact h
    · have := kl_nle a
      omega
  | succ m ih =>
    intro i x2 hx hm h
    have s1 := tk_add hx c1 (by omega)
    have s2 := tk_add hx c2 (by omega)
    have s3 := tk_add hx c3 (by omega)
    have n0 := tk_nat hx
    have n1 := tk_nat s1
    have n2 := tk_nat s2
    rw [dr3 (by rw [st_len]; omega)] at h
    have h : Φ (some (.int (if sm_steps.getD i 0 = x0 then (if sm_steps.getD (i + 1) 0 = x1 then sm_steps.getD (i + 2) 0 else fwl (sm_steps.drop (i + 3)) x0 x1) else fwl (sm_steps.drop (i + 3)) x0 x1)), (xLay, I, L, kT q R)) := h
    have v0 : vp_in x2 sm_steps.length := kl_in (by omega) (by rw [st_len]; omega)
    have v1 : vp_in (x2 + 1) sm_steps.length := kl_in (by omega) (by rw [st_len]; omega)
    have v2 : vp_in (x2 + 2) sm_steps.length := kl_in (by omega) (by rw [st_len]; omega)
    refine t_X3_follow_1 ⟨fun a => ?_, fun a => ⟨v0, fun e => ⟨v1, fun e1 => ⟨v2, ?_⟩, fun e1 => ?_⟩, fun e => ?_⟩⟩
    · have := kl_le.mp a
      omega
    · rw [n0] at e
      rw [n1] at e1
      rw [if_pos e, if_pos e1] at h
      rw [n2]; exact h
    · rw [n0] at e
      rw [n1] at e1
      rw [if_pos e, if_neg e1] at h
      exact ih (i + 3) _ s3 (by omega) h
    · rw [n0] at e
      rw [if_neg e] at h
      exact ih (i + 3) _ s3 (by omega) h
theorem ks_follow {S : sm_C} {d q : Nat} {Φ : sm_Z → Prop} {I : sm_I} {L : sm_L} {R : sm_R} {x0 x1 : Int32} (h : Φ (some (.int (fw x0 x1)), (xLay, I, L, kT q R))) : sm_wp sm_P S d 241 0 [.int x0, .int x1] [] (xLay, I, L, kT q R) (0, 0) Φ := t_X3_follow_0 (ks_follow1 46 0 0 (by decide) (by decide) h)
/-- what is counted while a text is read: its tell, alls, parts, tells of each word -/
abbrev gc : Type := Int32 × Nat × Nat × (Nat → Nat)
abbrev gc.tell (g : gc) : Int32 := g.1
abbrev gc.alls (g : gc) : Nat := g.2.1
abbrev gc.parts (g : gc) : Nat := g.2.2.1
abbrev gc.tells (g : gc) : Nat → Nat := g.2.2.2
def gc0 : gc := ⟨0, 0, 0, fun _ => 0⟩
/-- the word that is counted for a tell -/
def gw (k : Int32) : Nat := if k = 8 then 6 else k.toNatClampNeg
def gc_st (s k : Int32) (g : gc) : gc := if s = 0 ∧ k.toInt < 15 then ⟨k, 1, 1, fun j => if j = gw k then g.tells j + 1 else g.tells j⟩ else if k = 9 then ⟨g.tell, g.alls + 1, 1, g.tells⟩ else if k = 13 then ⟨g.tell, g.alls, g.parts + 1, g.tells⟩ else g
def gc_ok (s k : Int32) (g : gc) : Bool := if s = 0 ∧ k.toInt < 15 then decide ((g.tells (gw k) : Int) + 1 ≤ (sm_room.getD (gw k) 0).toInt) else decide ((gc_st s k g).alls ≤ 4) && decide ((gc_st s k g).parts ≤ 3)
/-- SYNTAX (1), ROOM (2) or 0 of the TOKEN t -/
def gf (s k : Int32) (t : Nat) (g : gc) : Int32 := if fw s k = -1 ∨ ((k = 9 ∨ k = 13) ∧ g.tell = 12) then 1 else if k = 21 then 0 else if 500 ≤ t then 2 else if gc_ok s k g = true then 0 else 2
/-- the first fault of the grammar, from the TOKEN t on -/
def SY (K : Nat → Int32) : Nat → Nat → Int32 → gc → Option (Int32 × Nat)
  | 0, _, _, _ => none
  | m + 1, t, s, g => if gf s (K t) t g = 0 then (if K t = 21 then none else SY K m (t + 1) (fw s (K t)) (gc_st s (K t) g)) else some (gf s (K t) t g, t)
/-- the class's counts -/
def gr (s : Int32) (I : sm_I) (g : gc) : Prop := I 7 1 = g.tell ∧ (∀ j, j < 15 → (I 8 j).toInt = g.tells j ∧ g.tells j ≤ 20) ∧ (s ≠ 0 → (I 7 2).toInt = g.alls ∧ (I 7 3).toInt = g.parts ∧ g.alls ≤ 4 ∧ g.parts ≤ 3)
end
