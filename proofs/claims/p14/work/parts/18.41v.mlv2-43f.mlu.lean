section
/-! conditions of the reference, further -/
theorem u_X12_tellAll_1 {S : sm_C} {d : Nat} {Φ : sm_Z → Prop} {I : sm_I} {L : sm_L} {R : sm_R} {x1 : Int32} {x2 : Int32} (h : ((x2 = 0 → Φ (none, (xLay, I, L, (kM R)))) ∧ (¬ x2 = 0 → (((I 107 13) = 0 → (vp_in x1 80) ∧ ∀ n1 : Int32, n1 = (((3 : Int32) * x1) + (I 129 x1.toNatClampNeg)) → sm_wp sm_P S d 201 0 [.ref 107, .int n1] [] (xLay, I, L, (kM R)) (0, 0) (fun z => ∃ (I2 : sm_I) (L3 : sm_L) (R4 : sm_R), z = (none, (xLay, I2, L3, (kM R4))) ∧ (((I2 107 13) ≤ 0 → (vp_in x1 80) ∧ ∀ n6 : Int32, n6 = ((I2 129 x1.toNatClampNeg) + (1 : Int32)) → (vp_in x1 80) ∧ ∀ I7 : sm_I, I7 = (sm_up I2 129 x1.toNatClampNeg n6) → sm_wp sm_P S d 143 0 [.ref 107, .int (29 : Int32)] [] (xLay, I7, L3, (kM R4)) (0, 0) (fun z => ∃ (r11 : Int32) (I8 : sm_I) (L9 : sm_L) (R10 : sm_R), z = (some (.int r11), (xLay, I8, L9, (kM R10))) ∧ ((r11 = 0 → ((r11 = 0 → sm_wp sm_P S (d + 1) 196 1 [.ref 107, .int x1, .int r11] [] (xLay, I8, L9, (kM R10)) (0, 0) Φ) ∧ (¬ r11 = 0 → sm_wp sm_P S d 136 0 [.ref 107] [] (xLay, I8, L9, (kM R10)) (0, 0) (fun z => ∃ (I12 : sm_I) (L13 : sm_L) (R14 : sm_R), z = (none, (xLay, I12, L13, (kM R14))) ∧ sm_wp sm_P S (d + 1) 196 1 [.ref 107, .int x1, .int r11] [] (xLay, I12, L13, (kM R14)) (0, 0) Φ)))) ∧ (¬ r11 = 0 → (vp_in x1 80) ∧ (((I8 129 x1.toNatClampNeg) = (3 : Int32) → sm_wp sm_P S d 123 0 [.ref 107, .int (2 : Int32)] [] (xLay, I8, L9, (kM R10)) (0, 0) (fun z => ∃ (I24 : sm_I) (L25 : sm_L) (R26 : sm_R), z = (none, (xLay, I24, L25, (kM R26))) ∧ ((r11 = 0 → sm_wp sm_P S (d + 1) 196 1 [.ref 107, .int x1, .int r11] [] (xLay, I24, L25, (kM R26)) (0, 0) Φ) ∧ (¬ r11 = 0 → sm_wp sm_P S d 136 0 [.ref 107] [] (xLay, I24, L25, (kM R26)) (0, 0) (fun z => ∃ (I28 : sm_I) (L29 : sm_L) (R30 : sm_R), z = (none, (xLay, I28, L29, (kM R30))) ∧ sm_wp sm_P S (d + 1) 196 1 [.ref 107, .int x1, .int r11] [] (xLay, I28, L29, (kM R30)) (0, 0) Φ))))) ∧ (¬ (I8 129 x1.toNatClampNeg) = (3 : Int32) → ((r11 = 0 → sm_wp sm_P S (d + 1) 196 1 [.ref 107, .int x1, .int r11] [] (xLay, I8, L9, (kM R10)) (0, 0) Φ) ∧ (¬ r11 = 0 → sm_wp sm_P S d 136 0 [.ref 107] [] (xLay, I8, L9, (kM R10)) (0, 0) (fun z => ∃ (I18 : sm_I) (L19 : sm_L) (R20 : sm_R), z = (none, (xLay, I18, L19, (kM R20))) ∧ sm_wp sm_P S (d + 1) 196 1 [.ref 107, .int x1, .int r11] [] (xLay, I18, L19, (kM R20)) (0, 0) Φ))))))))) ∧ (¬ (I2 107 13) ≤ 0 → Φ (none, (xLay, I2, L3, (kM R4))))))) ∧ (¬ (I 107 13) = 0 → Φ (none, (xLay, I, L, (kM R)))))))) : sm_wp sm_P S (d + 1) 196 1 [.ref 107, .int x1, .int x2] [] (xLay, I, L, (kM R)) (0, 0) Φ := sm_wp_step (⟨fun q41 => ((h).1 q41), fun q41 => ⟨fun q40 => ⟨(((((h).2 q41)).1 q40)).1, sm_cvR (((((((h).2 q41)).1 q40)).2 _ rfl)) (fun I2 L3 R4 q39 => ⟨fun q38 => ⟨(((q39).1 q38)).1, ⟨(((((q39).1 q38)).2 _ rfl)).1, sm_ciR (((((((q39).1 q38)).2 _ rfl)).2 _ rfl)) (fun r11 I8 L9 R10 q37 => ⟨fun q36 => ⟨fun q17 => ((((q37).1 q36)).1 q17), fun q17 => sm_cvR (((((q37).1 q36)).2 q17)) (fun I12 L13 R14 q16 => q16)⟩, fun q36 => ⟨(((q37).2 q36)).1, ⟨fun q35 => sm_cvR ((((((q37).2 q36)).2).1 q35)) (fun I24 L25 R26 q34 => ⟨fun q33 => ((q34).1 q33), fun q33 => sm_cvR (((q34).2 q33)) (fun I28 L29 R30 q32 => q32)⟩), fun q35 => ⟨fun q23 => (((((((q37).2 q36)).2).2 q35)).1 q23), fun q23 => sm_cvR ((((((((q37).2 q36)).2).2 q35)).2 q23)) (fun I18 L19 R20 q22 => q22)⟩⟩⟩⟩)⟩⟩, fun q38 => ((q39).2 q38)⟩)⟩, fun q40 => ((((h).2 q41)).2 q40)⟩⟩)
theorem u_X12_tellOpen_0 {S : sm_C} {d : Nat} {Φ : sm_Z → Prop} {I : sm_I} {L : sm_L} {R : sm_R} (h : sm_wp sm_P S d 136 0 [.ref 107] [] (xLay, I, L, (kM R)) (0, 0) (fun z => ∃ (I1 : sm_I) (L2 : sm_L) (R3 : sm_R), z = (none, (xLay, I1, L2, (kM R3))) ∧ sm_wp sm_P S d 154 0 [.ref 107, .int (2 : Int32)] [] (xLay, I1, L2, (kM R3)) (0, 0) (fun z => ∃ (r8 : Int32) (I5 : sm_I) (L6 : sm_L) (R7 : sm_R), z = (some (.int r8), (xLay, I5, L6, (kM R7))) ∧ sm_wp sm_P S d 165 0 [.ref 107, .int (31 : Int32)] [] (xLay, I5, L6, (kM R7)) (0, 0) (fun z => ∃ (I9 : sm_I) (L10 : sm_L) (R11 : sm_R), z = (none, (xLay, I9, L10, (kM R11))) ∧ (((I9 107 13) ≤ 0 → sm_wp sm_P S d 154 0 [.ref 107, .int (2 : Int32)] [] (xLay, I9, L10, (kM R11)) (0, 0) (fun z => ∃ (r16 : Int32) (I13 : sm_I) (L14 : sm_L) (R15 : sm_R), z = (some (.int r16), (xLay, I13, L14, (kM R15))) ∧ (vp_in (I13 107 19) 2) ∧ ∀ n17 : Int32, n17 = (((240 : Int32) + ((4 : Int32) * (I13 107 19))) + (I13 134 (I13 107 19).toNatClampNeg)) → (((I13 107 13) = 0 → ((r8 = (-1 : Int32) → sm_wp sm_P S (d + 1) 198 7 [.ref 107, .int r8, .int (I9 107 11), .int r16, .int n17] [] (xLay, I13, L14, (kM R15)) (0, 0) Φ) ∧ (¬ r8 = (-1 : Int32) → ∀ n18 : Int32, n18 = (((10 : Int32) * (I13 107 19)) + r8) → (vp_in n18 20) ∧ (((I13 135 n18.toNatClampNeg) = (-1 : Int32) → sm_wp sm_P S (d + 1) 198 7 [.ref 107, .int r8, .int (I9 107 11), .int r16, .int n17] [] (xLay, I13, L14, (kM R15)) (0, 0) Φ) ∧ (¬ (I13 135 n18.toNatClampNeg) = (-1 : Int32) → sm_wp sm_P S d 213 0 [.ref 107, .int (5 : Int32), .int (I1 107 11)] [] (xLay, I13, L14, (kM R15)) (0, 0) (fun z => ∃ (I19 : sm_I) (L20 : sm_L) (R21 : sm_R), z = (none, (xLay, I19, L20, (kM R21))) ∧ sm_wp sm_P S (d + 1) 198 7 [.ref 107, .int r8, .int (I9 107 11), .int r16, .int n17] [] (xLay, I19, L20, (kM R21)) (0, 0) Φ)))))) ∧ (¬ (I13 107 13) = 0 → sm_wp sm_P S (d + 1) 198 7 [.ref 107, .int r8, .int (I9 107 11), .int r16, .int n17] [] (xLay, I13, L14, (kM R15)) (0, 0) Φ)))) ∧ (¬ (I9 107 13) ≤ 0 → (vp_in (I9 107 19) 2) ∧ ∀ n28 : Int32, n28 = (((240 : Int32) + ((4 : Int32) * (I9 107 19))) + (I9 134 (I9 107 19).toNatClampNeg)) → (((I9 107 13) = 0 → ((r8 = (-1 : Int32) → sm_wp sm_P S (d + 1) 198 7 [.ref 107, .int r8, .int (I9 107 11), .int (0 : Int32), .int n28] [] (xLay, I9, L10, (kM R11)) (0, 0) Φ) ∧ (¬ r8 = (-1 : Int32) → ∀ n29 : Int32, n29 = (((10 : Int32) * (I9 107 19)) + r8) → (vp_in n29 20) ∧ (((I9 135 n29.toNatClampNeg) = (-1 : Int32) → sm_wp sm_P S (d + 1) 198 7 [.ref 107, .int r8, .int (I9 107 11), .int (0 : Int32), .int n28] [] (xLay, I9, L10, (kM R11)) (0, 0) Φ) ∧ (¬ (I9 135 n29.toNatClampNeg) = (-1 : Int32) → sm_wp sm_P S d 213 0 [.ref 107, .int (5 : Int32), .int (I1 107 11)] [] (xLay, I9, L10, (kM R11)) (0, 0) (fun z => ∃ (I30 : sm_I) (L31 : sm_L) (R32 : sm_R), z = (none, (xLay, I30, L31, (kM R32))) ∧ sm_wp sm_P S (d + 1) 198 7 [.ref 107, .int r8, .int (I9 107 11), .int (0 : Int32), .int n28] [] (xLay, I30, L31, (kM R32)) (0, 0) Φ)))))) ∧ (¬ (I9 107 13) = 0 → sm_wp sm_P S (d + 1) 198 7 [.ref 107, .int r8, .int (I9 107 11), .int (0 : Int32), .int n28] [] (xLay, I9, L10, (kM R11)) (0, 0) Φ)))))))) : sm_wp sm_P S (d + 1) 198 0 [.ref 107] [] (xLay, I, L, (kM R)) (0, 0) Φ := sm_wp_step (sm_cvR (h) (fun I1 L2 R3 q41 => sm_ciR (q41) (fun r8 I5 L6 R7 q40 => sm_cvR (q40) (fun I9 L10 R11 q39 => ⟨fun q38 => sm_ciR (((q39).1 q38)) (fun r16 I13 L14 R15 q27 => ⟨(q27).1, ⟨fun q26 => ⟨fun q25 => ((((((q27).2 _ rfl)).1 q26)).1 q25), fun q25 => ⟨((((((((q27).2 _ rfl)).1 q26)).2 q25) _ rfl)).1, ⟨fun q24 => ((((((((((q27).2 _ rfl)).1 q26)).2 q25) _ rfl)).2).1 q24), fun q24 => sm_cvR (((((((((((q27).2 _ rfl)).1 q26)).2 q25) _ rfl)).2).2 q24)) (fun I19 L20 R21 q23 => q23)⟩⟩⟩, fun q26 => ((((q27).2 _ rfl)).2 q26)⟩⟩), fun q38 => ⟨(((q39).2 q38)).1, ⟨fun q37 => ⟨fun q36 => ((((((((q39).2 q38)).2 _ rfl)).1 q37)).1 q36), fun q36 => ⟨((((((((((q39).2 q38)).2 _ rfl)).1 q37)).2 q36) _ rfl)).1, ⟨fun q35 => ((((((((((((q39).2 q38)).2 _ rfl)).1 q37)).2 q36) _ rfl)).2).1 q35), fun q35 => sm_cvR (((((((((((((q39).2 q38)).2 _ rfl)).1 q37)).2 q36) _ rfl)).2).2 q35)) (fun I30 L31 R32 q34 => q34)⟩⟩⟩, fun q37 => ((((((q39).2 q38)).2 _ rfl)).2 q37)⟩⟩⟩))))
theorem u_X12_tellOpen_7 {S : sm_C} {d : Nat} {Φ : sm_Z → Prop} {I : sm_I} {L : sm_L} {R : sm_R} {x2 : Int32} {x3 : Int32} {x4 : Int32} {x5 : Int32} (h : (((I 107 13) = 0 → ((x4 = (-1 : Int32) → sm_wp sm_P S (d + 1) 198 12 [.ref 107, .int x2, .int x3, .int x4, .int x5] [] (xLay, I, L, (kM R)) (0, 0) Φ) ∧ (¬ x4 = (-1 : Int32) → ((x4 = x2 → sm_wp sm_P S d 213 0 [.ref 107, .int (5 : Int32), .int x3] [] (xLay, I, L, (kM R)) (0, 0) (fun z => ∃ (I1 : sm_I) (L2 : sm_L) (R3 : sm_R), z = (none, (xLay, I1, L2, (kM R3))) ∧ sm_wp sm_P S (d + 1) 198 12 [.ref 107, .int x2, .int x3, .int x4, .int x5] [] (xLay, I1, L2, (kM R3)) (0, 0) Φ)) ∧ (¬ x4 = x2 → ∀ n6 : Int32, n6 = (((10 : Int32) * (I 107 19)) + x4) → (vp_in n6 20) ∧ (((I 135 n6.toNatClampNeg) = (-1 : Int32) → sm_wp sm_P S (d + 1) 198 12 [.ref 107, .int x2, .int x3, .int x4, .int x5] [] (xLay, I, L, (kM R)) (0, 0) Φ) ∧ (¬ (I 135 n6.toNatClampNeg) = (-1 : Int32) → sm_wp sm_P S d 213 0 [.ref 107, .int (5 : Int32), .int x3] [] (xLay, I, L, (kM R)) (0, 0) (fun z => ∃ (I7 : sm_I) (L8 : sm_L) (R9 : sm_R), z = (none, (xLay, I7, L8, (kM R9))) ∧ sm_wp sm_P S (d + 1) 198 12 [.ref 107, .int x2, .int x3, .int x4, .int x5] [] (xLay, I7, L8, (kM R9)) (0, 0) Φ)))))))) ∧ (¬ (I 107 13) = 0 → sm_wp sm_P S (d + 1) 198 12 [.ref 107, .int x2, .int x3, .int x4, .int x5] [] (xLay, I, L, (kM R)) (0, 0) Φ))) : sm_wp sm_P S (d + 1) 198 7 [.ref 107, .int x2, .int x3, .int x4, .int x5] [] (xLay, I, L, (kM R)) (0, 0) Φ := sm_wp_step (⟨fun q15 => ⟨fun q14 => ((((h).1 q15)).1 q14), fun q14 => ⟨fun q13 => sm_cvR (((((((h).1 q15)).2 q14)).1 q13)) (fun I1 L2 R3 q5 => q5), fun q13 => ⟨((((((((h).1 q15)).2 q14)).2 q13) _ rfl)).1, ⟨fun q12 => ((((((((((h).1 q15)).2 q14)).2 q13) _ rfl)).2).1 q12), fun q12 => sm_cvR (((((((((((h).1 q15)).2 q14)).2 q13) _ rfl)).2).2 q12)) (fun I7 L8 R9 q11 => q11)⟩⟩⟩⟩, fun q15 => ((h).2 q15)⟩)
theorem u_X12_tellOpen_12 {S : sm_C} {d : Nat} {Φ : sm_Z → Prop} {I : sm_I} {L : sm_L} {R : sm_R} {x2 : Int32} {x3 : Int32} {x4 : Int32} {x5 : Int32} (h : ∀ n1 : Int32, n1 = ((240 : Int32) + ((4 : Int32) * (I 107 19))) → sm_wp sm_P S (d + 1) 198 13 [.ref 107, .int x2, .int x3, .int x4, .int x5, .int n1] [] (xLay, I, L, (kM R)) (0, 0) Φ) : sm_wp sm_P S (d + 1) 198 12 [.ref 107, .int x2, .int x3, .int x4, .int x5] [] (xLay, I, L, (kM R)) (0, 0) Φ := sm_wp_step ((h _ rfl))
theorem u_X12_tellOpen_13 {S : sm_C} {d : Nat} {Φ : sm_Z → Prop} {I : sm_I} {L : sm_L} {R : sm_R} {x2 : Int32} {x3 : Int32} {x4 : Int32} {x5 : Int32} {x6 : Int32} (h : ((x5 ≤ x6 → (vp_in x5 260) ∧ ∀ I1 : sm_I, I1 = (sm_up I 130 x5.toNatClampNeg x2) → (vp_in x5 260) ∧ ∀ I2 : sm_I, I2 = (sm_up I1 131 x5.toNatClampNeg x4) → sm_wp sm_P S d 169 0 [.ref 107, .int (0 : Int32)] [] (xLay, I2, L, (kM R)) (0, 0) (fun z => ∃ (r6 : Int32) (I3 : sm_I) (L4 : sm_L) (R5 : sm_R), z = (some (.int r6), (xLay, I3, L4, (kM R5))) ∧ (vp_in x5 260) ∧ ∀ I7 : sm_I, I7 = (sm_up I3 132 x5.toNatClampNeg r6) → sm_wp sm_P S d 169 0 [.ref 107, .int (0 : Int32)] [] (xLay, I7, L4, (kM R5)) (0, 0) (fun z => ∃ (r11 : Int32) (I8 : sm_I) (L9 : sm_L) (R10 : sm_R), z = (some (.int r11), (xLay, I8, L9, (kM R10))) ∧ (vp_in x5 260) ∧ ∀ I12 : sm_I, I12 = (sm_up I8 133 x5.toNatClampNeg r11) → sm_wp sm_P S d 165 0 [.ref 107, .int (4 : Int32)] [] (xLay, I12, L9, (kM R10)) (0, 0) (fun z => ∃ (I13 : sm_I) (L14 : sm_L) (R15 : sm_R), z = (none, (xLay, I13, L14, (kM R15))) ∧ (((I13 107 13) ≤ 0 → ((x2 = (-1 : Int32) → (vp_in (I13 107 19) 2) ∧ ∀ n17 : Int32, n17 = ((I13 134 (I13 107 19).toNatClampNeg) + (1 : Int32)) → (vp_in (I13 107 19) 2) ∧ ∀ I18 : sm_I, I18 = (sm_up I13 134 (I13 107 19).toNatClampNeg n17) → Φ (none, (xLay, I18, L14, (kM R15)))) ∧ (¬ x2 = (-1 : Int32) → ∀ n19 : Int32, n19 = (((10 : Int32) * (I13 107 19)) + x2) → (vp_in n19 20) ∧ ∀ I20 : sm_I, I20 = (sm_up I13 135 n19.toNatClampNeg x5) → (vp_in (I20 107 19) 2) ∧ ∀ n21 : Int32, n21 = ((I20 134 (I20 107 19).toNatClampNeg) + (1 : Int32)) → (vp_in (I20 107 19) 2) ∧ ∀ I22 : sm_I, I22 = (sm_up I20 134 (I20 107 19).toNatClampNeg n21) → Φ (none, (xLay, I22, L14, (kM R15)))))) ∧ (¬ (I13 107 13) ≤ 0 → Φ (none, (xLay, I13, L14, (kM R15))))))))) ∧ (¬ x5 ≤ x6 → (((I 107 13) = 0 → ((x2 = (-1 : Int32) → (vp_in x5 260) ∧ ∀ I55 : sm_I, I55 = (sm_up I 130 x5.toNatClampNeg x2) → (vp_in x5 260) ∧ ∀ I56 : sm_I, I56 = (sm_up I55 131 x5.toNatClampNeg x4) → sm_wp sm_P S d 169 0 [.ref 107, .int (0 : Int32)] [] (xLay, I56, L, (kM R)) (0, 0) (fun z => ∃ (r60 : Int32) (I57 : sm_I) (L58 : sm_L) (R59 : sm_R), z = (some (.int r60), (xLay, I57, L58, (kM R59))) ∧ (vp_in x5 260) ∧ ∀ I61 : sm_I, I61 = (sm_up I57 132 x5.toNatClampNeg r60) → sm_wp sm_P S d 169 0 [.ref 107, .int (0 : Int32)] [] (xLay, I61, L58, (kM R59)) (0, 0) (fun z => ∃ (r65 : Int32) (I62 : sm_I) (L63 : sm_L) (R64 : sm_R), z = (some (.int r65), (xLay, I62, L63, (kM R64))) ∧ (vp_in x5 260) ∧ ∀ I66 : sm_I, I66 = (sm_up I62 133 x5.toNatClampNeg r65) → sm_wp sm_P S d 165 0 [.ref 107, .int (4 : Int32)] [] (xLay, I66, L63, (kM R64)) (0, 0) (fun z => ∃ (I67 : sm_I) (L68 : sm_L) (R69 : sm_R), z = (none, (xLay, I67, L68, (kM R69))) ∧ (((I67 107 13) ≤ 0 → ((x2 = (-1 : Int32) → (vp_in (I67 107 19) 2) ∧ ∀ n71 : Int32, n71 = ((I67 134 (I67 107 19).toNatClampNeg) + (1 : Int32)) → (vp_in (I67 107 19) 2) ∧ ∀ I72 : sm_I, I72 = (sm_up I67 134 (I67 107 19).toNatClampNeg n71) → Φ (none, (xLay, I72, L68, (kM R69)))) ∧ (¬ x2 = (-1 : Int32) → ∀ n73 : Int32, n73 = (((10 : Int32) * (I67 107 19)) + x2) → (vp_in n73 20) ∧ ∀ I74 : sm_I, I74 = (sm_up I67 135 n73.toNatClampNeg x5) → (vp_in (I74 107 19) 2) ∧ ∀ n75 : Int32, n75 = ((I74 134 (I74 107 19).toNatClampNeg) + (1 : Int32)) → (vp_in (I74 107 19) 2) ∧ ∀ I76 : sm_I, I76 = (sm_up I74 134 (I74 107 19).toNatClampNeg n75) → Φ (none, (xLay, I76, L68, (kM R69)))))) ∧ (¬ (I67 107 13) ≤ 0 → Φ (none, (xLay, I67, L68, (kM R69))))))))) ∧ (¬ x2 = (-1 : Int32) → (vp_in x6 260) ∧ (((I 131 x6.toNatClampNeg) = x2 → sm_wp sm_P S d 213 0 [.ref 107, .int (5 : Int32), .int x3] [] (xLay, I, L, (kM R)) (0, 0) (fun z => ∃ (I82 : sm_I) (L83 : sm_L) (R84 : sm_R), z = (none, (xLay, I82, L83, (kM R84))) ∧ sm_wp sm_P S (d + 1) 198 13 [.ref 107, .int x2, .int x3, .int x4, .int x5, .int (x6 + (1 : Int32))] [] (xLay, I82, L83, (kM R84)) (0, 0) Φ)) ∧ (¬ (I 131 x6.toNatClampNeg) = x2 → sm_wp sm_P S (d + 1) 198 13 [.ref 107, .int x2, .int x3, .int x4, .int x5, .int (x6 + (1 : Int32))] [] (xLay, I, L, (kM R)) (0, 0) Φ))))) ∧ (¬ (I 107 13) = 0 → (vp_in x5 260) ∧ ∀ I28 : sm_I, I28 = (sm_up I 130 x5.toNatClampNeg x2) → (vp_in x5 260) ∧ ∀ I29 : sm_I, I29 = (sm_up I28 131 x5.toNatClampNeg x4) → sm_wp sm_P S d 169 0 [.ref 107, .int (0 : Int32)] [] (xLay, I29, L, (kM R)) (0, 0) (fun z => ∃ (r33 : Int32) (I30 : sm_I) (L31 : sm_L) (R32 : sm_R), z = (some (.int r33), (xLay, I30, L31, (kM R32))) ∧ (vp_in x5 260) ∧ ∀ I34 : sm_I, I34 = (sm_up I30 132 x5.toNatClampNeg r33) → sm_wp sm_P S d 169 0 [.ref 107, .int (0 : Int32)] [] (xLay, I34, L31, (kM R32)) (0, 0) (fun z => ∃ (r38 : Int32) (I35 : sm_I) (L36 : sm_L) (R37 : sm_R), z = (some (.int r38), (xLay, I35, L36, (kM R37))) ∧ (vp_in x5 260) ∧ ∀ I39 : sm_I, I39 = (sm_up I35 133 x5.toNatClampNeg r38) → sm_wp sm_P S d 165 0 [.ref 107, .int (4 : Int32)] [] (xLay, I39, L36, (kM R37)) (0, 0) (fun z => ∃ (I40 : sm_I) (L41 : sm_L) (R42 : sm_R), z = (none, (xLay, I40, L41, (kM R42))) ∧ (((I40 107 13) ≤ 0 → ((x2 = (-1 : Int32) → (vp_in (I40 107 19) 2) ∧ ∀ n44 : Int32, n44 = ((I40 134 (I40 107 19).toNatClampNeg) + (1 : Int32)) → (vp_in (I40 107 19) 2) ∧ ∀ I45 : sm_I, I45 = (sm_up I40 134 (I40 107 19).toNatClampNeg n44) → Φ (none, (xLay, I45, L41, (kM R42)))) ∧ (¬ x2 = (-1 : Int32) → ∀ n46 : Int32, n46 = (((10 : Int32) * (I40 107 19)) + x2) → (vp_in n46 20) ∧ ∀ I47 : sm_I, I47 = (sm_up I40 135 n46.toNatClampNeg x5) → (vp_in (I47 107 19) 2) ∧ ∀ n48 : Int32, n48 = ((I47 134 (I47 107 19).toNatClampNeg) + (1 : Int32)) → (vp_in (I47 107 19) 2) ∧ ∀ I49 : sm_I, I49 = (sm_up I47 134 (I47 107 19).toNatClampNeg n48) → Φ (none, (xLay, I49, L41, (kM R42)))))) ∧ (¬ (I40 107 13) ≤ 0 → Φ (none, (xLay, I40, L41, (kM R42))))))))))))) : sm_wp sm_P S (d + 1) 198 13 [.ref 107, .int x2, .int x3, .int x4, .int x5, .int x6] [] (xLay, I, L, (kM R)) (0, 0) Φ := sm_wp_step (⟨fun q90 => ⟨(((h).1 q90)).1, ⟨(((((h).1 q90)).2 _ rfl)).1, sm_ciR (((((((h).1 q90)).2 _ rfl)).2 _ rfl)) (fun r6 I3 L4 R5 q27 => ⟨(q27).1, sm_ciR (((q27).2 _ rfl)) (fun r11 I8 L9 R10 q26 => ⟨(q26).1, sm_cvR (((q26).2 _ rfl)) (fun I13 L14 R15 q25 => ⟨fun q24 => ⟨fun q23 => ⟨(((((q25).1 q24)).1 q23)).1, ⟨(((((((q25).1 q24)).1 q23)).2 _ rfl)).1, ((((((((q25).1 q24)).1 q23)).2 _ rfl)).2 _ rfl)⟩⟩, fun q23 => ⟨((((((q25).1 q24)).2 q23) _ rfl)).1, ⟨((((((((q25).1 q24)).2 q23) _ rfl)).2 _ rfl)).1, ⟨((((((((((q25).1 q24)).2 q23) _ rfl)).2 _ rfl)).2 _ rfl)).1, (((((((((((q25).1 q24)).2 q23) _ rfl)).2 _ rfl)).2 _ rfl)).2 _ rfl)⟩⟩⟩⟩, fun q24 => ((q25).2 q24)⟩)⟩)⟩)⟩⟩, fun q90 => ⟨fun q89 => ⟨fun q88 => ⟨(((((((h).2 q90)).1 q89)).1 q88)).1, ⟨(((((((((h).2 q90)).1 q89)).1 q88)).2 _ rfl)).1, sm_ciR (((((((((((h).2 q90)).1 q89)).1 q88)).2 _ rfl)).2 _ rfl)) (fun r60 I57 L58 R59 q81 => ⟨(q81).1, sm_ciR (((q81).2 _ rfl)) (fun r65 I62 L63 R64 q80 => ⟨(q80).1, sm_cvR (((q80).2 _ rfl)) (fun I67 L68 R69 q79 => ⟨fun q78 => ⟨fun q77 => ⟨(((((q79).1 q78)).1 q77)).1, ⟨(((((((q79).1 q78)).1 q77)).2 _ rfl)).1, ((((((((q79).1 q78)).1 q77)).2 _ rfl)).2 _ rfl)⟩⟩, fun q77 => ⟨((((((q79).1 q78)).2 q77) _ rfl)).1, ⟨((((((((q79).1 q78)).2 q77) _ rfl)).2 _ rfl)).1, ⟨((((((((((q79).1 q78)).2 q77) _ rfl)).2 _ rfl)).2 _ rfl)).1, (((((((((((q79).1 q78)).2 q77) _ rfl)).2 _ rfl)).2 _ rfl)).2 _ rfl)⟩⟩⟩⟩, fun q78 => ((q79).2 q78)⟩)⟩)⟩)⟩⟩, fun q88 => ⟨(((((((h).2 q90)).1 q89)).2 q88)).1, ⟨fun q87 => sm_cvR ((((((((((h).2 q90)).1 q89)).2 q88)).2).1 q87)) (fun I82 L83 R84 q86 => q86), fun q87 => (((((((((h).2 q90)).1 q89)).2 q88)).2).2 q87)⟩⟩⟩, fun q89 => ⟨(((((h).2 q90)).2 q89)).1, ⟨(((((((h).2 q90)).2 q89)).2 _ rfl)).1, sm_ciR (((((((((h).2 q90)).2 q89)).2 _ rfl)).2 _ rfl)) (fun r33 I30 L31 R32 q54 => ⟨(q54).1, sm_ciR (((q54).2 _ rfl)) (fun r38 I35 L36 R37 q53 => ⟨(q53).1, sm_cvR (((q53).2 _ rfl)) (fun I40 L41 R42 q52 => ⟨fun q51 => ⟨fun q50 => ⟨(((((q52).1 q51)).1 q50)).1, ⟨(((((((q52).1 q51)).1 q50)).2 _ rfl)).1, ((((((((q52).1 q51)).1 q50)).2 _ rfl)).2 _ rfl)⟩⟩, fun q50 => ⟨((((((q52).1 q51)).2 q50) _ rfl)).1, ⟨((((((((q52).1 q51)).2 q50) _ rfl)).2 _ rfl)).1, ⟨((((((((((q52).1 q51)).2 q50) _ rfl)).2 _ rfl)).2 _ rfl)).1, (((((((((((q52).1 q51)).2 q50) _ rfl)).2 _ rfl)).2 _ rfl)).2 _ rfl)⟩⟩⟩⟩, fun q51 => ((q52).2 q51)⟩)⟩)⟩)⟩⟩⟩⟩)
theorem u_X12_tellQuestion_0 {S : sm_C} {d : Nat} {Φ : sm_Z → Prop} {I : sm_I} {L : sm_L} {R : sm_R} (h : sm_wp sm_P S d 136 0 [.ref 107] [] (xLay, I, L, (kM R)) (0, 0) (fun z => ∃ (I1 : sm_I) (L2 : sm_L) (R3 : sm_R), z = (none, (xLay, I1, L2, (kM R3))) ∧ sm_wp sm_P S d 166 0 [.ref 107] [] (xLay, I1, L2, (kM R3)) (0, 0) (fun z => ∃ (r8 : Int32) (I5 : sm_I) (L6 : sm_L) (R7 : sm_R), z = (some (.int r8), (xLay, I5, L6, (kM R7))) ∧ sm_wp sm_P S d 165 0 [.ref 107, .int (5 : Int32)] [] (xLay, I5, L6, (kM R7)) (0, 0) (fun z => ∃ (I9 : sm_I) (L10 : sm_L) (R11 : sm_R), z = (none, (xLay, I9, L10, (kM R11))) ∧ (((I9 107 13) = 0 → (vp_in (I9 107 19) 2) ∧ ∀ n27 : Int32, n27 = (((248 : Int32) + ((6 : Int32) * (I9 107 19))) + (I9 136 (I9 107 19).toNatClampNeg)) → sm_wp sm_P S d 201 0 [.ref 107, .int n27] [] (xLay, I9, L10, (kM R11)) (0, 0) (fun z => ∃ (I28 : sm_I) (L29 : sm_L) (R30 : sm_R), z = (none, (xLay, I28, L29, (kM R30))) ∧ sm_wp sm_P S d 165 0 [.ref 107, .int (4 : Int32)] [] (xLay, I28, L29, (kM R30)) (0, 0) (fun z => ∃ (I32 : sm_I) (L33 : sm_L) (R34 : sm_R), z = (none, (xLay, I32, L33, (kM R34))) ∧ (((I32 107 13) ≤ 0 → (vp_in (I32 107 19) 2) ∧ ∀ n36 : Int32, n36 = (I32 136 (I32 107 19).toNatClampNeg) → sm_wp sm_P S d 155 0 [.ref 107, .int r8, .int (4 : Int32), .int n36] [] (xLay, I32, L33, (kM R34)) (0, 0) (fun z => ∃ (I37 : sm_I) (L38 : sm_L) (R39 : sm_R), z = (none, (xLay, I37, L38, (kM R39))) ∧ (vp_in (I37 107 19) 2) ∧ ∀ n41 : Int32, n41 = ((I37 136 (I37 107 19).toNatClampNeg) + (1 : Int32)) → (vp_in (I37 107 19) 2) ∧ ∀ I42 : sm_I, I42 = (sm_up I37 136 (I37 107 19).toNatClampNeg n41) → Φ (none, (xLay, I42, L38, (kM R39))))) ∧ (¬ (I32 107 13) ≤ 0 → Φ (none, (xLay, I32, L33, (kM R34)))))))) ∧ (¬ (I9 107 13) = 0 → sm_wp sm_P S d 165 0 [.ref 107, .int (4 : Int32)] [] (xLay, I9, L10, (kM R11)) (0, 0) (fun z => ∃ (I13 : sm_I) (L14 : sm_L) (R15 : sm_R), z = (none, (xLay, I13, L14, (kM R15))) ∧ (((I13 107 13) ≤ 0 → (vp_in (I13 107 19) 2) ∧ ∀ n17 : Int32, n17 = (I13 136 (I13 107 19).toNatClampNeg) → sm_wp sm_P S d 155 0 [.ref 107, .int r8, .int (4 : Int32), .int n17] [] (xLay, I13, L14, (kM R15)) (0, 0) (fun z => ∃ (I18 : sm_I) (L19 : sm_L) (R20 : sm_R), z = (none, (xLay, I18, L19, (kM R20))) ∧ (vp_in (I18 107 19) 2) ∧ ∀ n22 : Int32, n22 = ((I18 136 (I18 107 19).toNatClampNeg) + (1 : Int32)) → (vp_in (I18 107 19) 2) ∧ ∀ I23 : sm_I, I23 = (sm_up I18 136 (I18 107 19).toNatClampNeg n22) → Φ (none, (xLay, I23, L19, (kM R20))))) ∧ (¬ (I13 107 13) ≤ 0 → Φ (none, (xLay, I13, L14, (kM R15)))))))))))) : sm_wp sm_P S (d + 1) 199 0 [.ref 107] [] (xLay, I, L, (kM R)) (0, 0) Φ := sm_wp_step (sm_cvR (h) (fun I1 L2 R3 q50 => sm_ciR (q50) (fun r8 I5 L6 R7 q49 => sm_cvR (q49) (fun I9 L10 R11 q48 => ⟨fun q47 => ⟨(((q48).1 q47)).1, sm_cvR (((((q48).1 q47)).2 _ rfl)) (fun I28 L29 R30 q46 => sm_cvR (q46) (fun I32 L33 R34 q45 => ⟨fun q44 => ⟨(((q45).1 q44)).1, sm_cvR (((((q45).1 q44)).2 _ rfl)) (fun I37 L38 R39 q43 => ⟨(q43).1, ⟨(((q43).2 _ rfl)).1, ((((q43).2 _ rfl)).2 _ rfl)⟩⟩)⟩, fun q44 => ((q45).2 q44)⟩))⟩, fun q47 => sm_cvR (((q48).2 q47)) (fun I13 L14 R15 q26 => ⟨fun q25 => ⟨(((q26).1 q25)).1, sm_cvR (((((q26).1 q25)).2 _ rfl)) (fun I18 L19 R20 q24 => ⟨(q24).1, ⟨(((q24).2 _ rfl)).1, ((((q24).2 _ rfl)).2 _ rfl)⟩⟩)⟩, fun q25 => ((q26).2 q25)⟩)⟩))))
theorem u_X12_named_0 {S : sm_C} {d : Nat} {Φ : sm_Z → Prop} {I : sm_I} {L : sm_L} {R : sm_R} (h : sm_wp sm_P S d 165 0 [.ref 107, .int (1 : Int32)] [] (xLay, I, L, (kM R)) (0, 0) (fun z => ∃ (I1 : sm_I) (L2 : sm_L) (R3 : sm_R), z = (none, (xLay, I1, L2, (kM R3))) ∧ sm_wp sm_P S (d + 1) 166 1 [.ref 107, .int (I 107 11), .int (0 : Int32)] [] (xLay, I1, L2, (kM R3)) (0, 0) Φ)) : sm_wp sm_P S (d + 1) 166 0 [.ref 107] [] (xLay, I, L, (kM R)) (0, 0) Φ := sm_wp_step (sm_cvR (h) (fun I1 L2 R3 q5 => q5))
theorem u_X12_named_1 {S : sm_C} {d : Nat} {Φ : sm_Z → Prop} {I : sm_I} {L : sm_L} {R : sm_R} {x1 : Int32} {x2 : Int32} (h : (((I 107 20) ≤ x2 → Φ (some (.int x1), (xLay, I, L, (kM R)))) ∧ (¬ (I 107 20) ≤ x2 → (((I 107 13) = 0 → (vp_in x2 50) ∧ (vp_in x1 503) ∧ (((lg_cmp (L 115 x2.toNatClampNeg) (L 113 x1.toNatClampNeg)) = 0 → sm_wp sm_P S d 213 0 [.ref 107, .int (3 : Int32), .int x1] [] (xLay, I, L, (kM R)) (0, 0) (fun z => ∃ (I1 : sm_I) (L2 : sm_L) (R3 : sm_R), z = (none, (xLay, I1, L2, (kM R3))) ∧ sm_wp sm_P S (d + 1) 166 1 [.ref 107, .int x1, .int (x2 + (1 : Int32))] [] (xLay, I1, L2, (kM R3)) (0, 0) Φ)) ∧ (¬ (lg_cmp (L 115 x2.toNatClampNeg) (L 113 x1.toNatClampNeg)) = 0 → sm_wp sm_P S (d + 1) 166 1 [.ref 107, .int x1, .int (x2 + (1 : Int32))] [] (xLay, I, L, (kM R)) (0, 0) Φ))) ∧ (¬ (I 107 13) = 0 → Φ (some (.int x1), (xLay, I, L, (kM R)))))))) : sm_wp sm_P S (d + 1) 166 1 [.ref 107, .int x1, .int x2] [] (xLay, I, L, (kM R)) (0, 0) Φ := sm_wp_step (⟨fun q8 => ((h).1 q8), fun q8 => ⟨fun q7 => ⟨(((((h).2 q8)).1 q7)).1, ⟨((((((h).2 q8)).1 q7)).2).1, ⟨fun q6 => sm_cvR (((((((((h).2 q8)).1 q7)).2).2).1 q6)) (fun I1 L2 R3 q5 => q5), fun q6 => ((((((((h).2 q8)).1 q7)).2).2).2 q6)⟩⟩⟩, fun q7 => ((((h).2 q8)).2 q7)⟩⟩)
theorem u_X12_known_0 {S : sm_C} {d : Nat} {Φ : sm_Z → Prop} {I : sm_I} {L : sm_L} {R : sm_R} {x1 : Int32} (h : sm_wp sm_P S d 165 0 [.ref 107, .int (1 : Int32)] [] (xLay, I, L, (kM R)) (0, 0) (fun z => ∃ (I1 : sm_I) (L2 : sm_L) (R3 : sm_R), z = (none, (xLay, I1, L2, (kM R3))) ∧ (((I1 107 13) ≤ 0 → sm_wp sm_P S (d + 1) 154 3 [.ref 107, .int x1, .int (I 107 11), .int (-1 : Int32), .int (0 : Int32)] [] (xLay, I1, L2, (kM R3)) (0, 0) Φ) ∧ (¬ (I1 107 13) ≤ 0 → Φ (some (.int (0 : Int32)), (xLay, I1, L2, (kM R3))))))) : sm_wp sm_P S (d + 1) 154 0 [.ref 107, .int x1] [] (xLay, I, L, (kM R)) (0, 0) Φ := sm_wp_step (sm_cvR (h) (fun I1 L2 R3 q6 => ⟨fun q5 => ((q6).1 q5), fun q5 => ((q6).2 q5)⟩))
theorem u_X12_known_3 {S : sm_C} {d : Nat} {Φ : sm_Z → Prop} {I : sm_I} {L : sm_L} {R : sm_R} {x1 : Int32} {x2 : Int32} {x3 : Int32} {x4 : Int32} (h : (((I 107 20) ≤ x4 → ((x3 = (-1 : Int32) → sm_wp sm_P S d 213 0 [.ref 107, .int (4 : Int32), .int x2] [] (xLay, I, L, (kM R)) (0, 0) (fun z => ∃ (I1 : sm_I) (L2 : sm_L) (R3 : sm_R), z = (none, (xLay, I1, L2, (kM R3))) ∧ Φ (some (.int x3), (xLay, I1, L2, (kM R3))))) ∧ (¬ x3 = (-1 : Int32) → Φ (some (.int x3), (xLay, I, L, (kM R)))))) ∧ (¬ (I 107 20) ≤ x4 → ((x3 = (-1 : Int32) → (vp_in x4 50) ∧ (vp_in x2 503) ∧ (((lg_cmp (L 115 x4.toNatClampNeg) (L 113 x2.toNatClampNeg)) = 0 → (vp_in x4 50) ∧ (((I 116 x4.toNatClampNeg) = x1 → (vp_in x4 50) ∧ sm_wp sm_P S (d + 1) 154 3 [.ref 107, .int x1, .int x2, .int (I 117 x4.toNatClampNeg), .int (x4 + (1 : Int32))] [] (xLay, I, L, (kM R)) (0, 0) Φ) ∧ (¬ (I 116 x4.toNatClampNeg) = x1 → sm_wp sm_P S (d + 1) 154 3 [.ref 107, .int x1, .int x2, .int x3, .int (x4 + (1 : Int32))] [] (xLay, I, L, (kM R)) (0, 0) Φ))) ∧ (¬ (lg_cmp (L 115 x4.toNatClampNeg) (L 113 x2.toNatClampNeg)) = 0 → sm_wp sm_P S (d + 1) 154 3 [.ref 107, .int x1, .int x2, .int x3, .int (x4 + (1 : Int32))] [] (xLay, I, L, (kM R)) (0, 0) Φ))) ∧ (¬ x3 = (-1 : Int32) → sm_wp sm_P S (d + 1) 154 3 [.ref 107, .int x1, .int x2, .int x3, .int (x4 + (1 : Int32))] [] (xLay, I, L, (kM R)) (0, 0) Φ))))) : sm_wp sm_P S (d + 1) 154 3 [.ref 107, .int x1, .int x2, .int x3, .int x4] [] (xLay, I, L, (kM R)) (0, 0) Φ := sm_wp_step (⟨fun q10 => ⟨fun q6 => sm_cvR (((((h).1 q10)).1 q6)) (fun I1 L2 R3 q5 => q5), fun q6 => ((((h).1 q10)).2 q6)⟩, fun q10 => ⟨fun q9 => ⟨(((((h).2 q10)).1 q9)).1, ⟨((((((h).2 q10)).1 q9)).2).1, ⟨fun q8 => ⟨(((((((((h).2 q10)).1 q9)).2).2).1 q8)).1, ⟨fun q7 => ⟨((((((((((((h).2 q10)).1 q9)).2).2).1 q8)).2).1 q7)).1, ((((((((((((h).2 q10)).1 q9)).2).2).1 q8)).2).1 q7)).2⟩, fun q7 => (((((((((((h).2 q10)).1 q9)).2).2).1 q8)).2).2 q7)⟩⟩, fun q8 => ((((((((h).2 q10)).1 q9)).2).2).2 q8)⟩⟩⟩, fun q9 => ((((h).2 q10)).2 q9)⟩⟩)
theorem u_X12_number_0 {S : sm_C} {d : Nat} {Φ : sm_Z → Prop} {I : sm_I} {L : sm_L} {R : sm_R} {x1 : Int32} (h : ((x1 = 0 → ((x1 = 0 → sm_wp sm_P S (d + 1) 169 7 [.ref 107, .int (1 : Int32)] [] (xLay, I, L, (kM R)) (0, 0) Φ) ∧ (¬ x1 = 0 → sm_wp sm_P S d 143 0 [.ref 107, .int (9 : Int32)] [] (xLay, I, L, (kM R)) (0, 0) (fun z => ∃ (r4 : Int32) (I1 : sm_I) (L2 : sm_L) (R3 : sm_R), z = (some (.int r4), (xLay, I1, L2, (kM R3))) ∧ ((r4 = 0 → sm_wp sm_P S (d + 1) 169 7 [.ref 107, .int (1 : Int32)] [] (xLay, I1, L2, (kM R3)) (0, 0) Φ) ∧ (¬ r4 = 0 → sm_wp sm_P S d 136 0 [.ref 107] [] (xLay, I1, L2, (kM R3)) (0, 0) (fun z => ∃ (I5 : sm_I) (L6 : sm_L) (R7 : sm_R), z = (none, (xLay, I5, L6, (kM R7))) ∧ sm_wp sm_P S (d + 1) 169 7 [.ref 107, .int (1 : Int32)] [] (xLay, I5, L6, (kM R7)) (0, 0) Φ))))))) ∧ (¬ x1 = 0 → sm_wp sm_P S d 143 0 [.ref 107, .int (9 : Int32)] [] (xLay, I, L, (kM R)) (0, 0) (fun z => ∃ (r16 : Int32) (I13 : sm_I) (L14 : sm_L) (R15 : sm_R), z = (some (.int r16), (xLay, I13, L14, (kM R15))) ∧ ((r16 = 0 → ((x1 = 0 → sm_wp sm_P S (d + 1) 169 7 [.ref 107, .int (1 : Int32)] [] (xLay, I13, L14, (kM R15)) (0, 0) Φ) ∧ (¬ x1 = 0 → sm_wp sm_P S d 143 0 [.ref 107, .int (9 : Int32)] [] (xLay, I13, L14, (kM R15)) (0, 0) (fun z => ∃ (r20 : Int32) (I17 : sm_I) (L18 : sm_L) (R19 : sm_R), z = (some (.int r20), (xLay, I17, L18, (kM R19))) ∧ ((r20 = 0 → sm_wp sm_P S (d + 1) 169 7 [.ref 107, .int (1 : Int32)] [] (xLay, I17, L18, (kM R19)) (0, 0) Φ) ∧ (¬ r20 = 0 → sm_wp sm_P S d 136 0 [.ref 107] [] (xLay, I17, L18, (kM R19)) (0, 0) (fun z => ∃ (I21 : sm_I) (L22 : sm_L) (R23 : sm_R), z = (none, (xLay, I21, L22, (kM R23))) ∧ sm_wp sm_P S (d + 1) 169 7 [.ref 107, .int (1 : Int32)] [] (xLay, I21, L22, (kM R23)) (0, 0) Φ))))))) ∧ (¬ r16 = 0 → ((x1 = 0 → sm_wp sm_P S (d + 1) 169 7 [.ref 107, .int (-1 : Int32)] [] (xLay, I13, L14, (kM R15)) (0, 0) Φ) ∧ (¬ x1 = 0 → sm_wp sm_P S d 143 0 [.ref 107, .int (9 : Int32)] [] (xLay, I13, L14, (kM R15)) (0, 0) (fun z => ∃ (r32 : Int32) (I29 : sm_I) (L30 : sm_L) (R31 : sm_R), z = (some (.int r32), (xLay, I29, L30, (kM R31))) ∧ ((r32 = 0 → sm_wp sm_P S (d + 1) 169 7 [.ref 107, .int (-1 : Int32)] [] (xLay, I29, L30, (kM R31)) (0, 0) Φ) ∧ (¬ r32 = 0 → sm_wp sm_P S d 136 0 [.ref 107] [] (xLay, I29, L30, (kM R31)) (0, 0) (fun z => ∃ (I33 : sm_I) (L34 : sm_L) (R35 : sm_R), z = (none, (xLay, I33, L34, (kM R35))) ∧ sm_wp sm_P S (d + 1) 169 7 [.ref 107, .int (-1 : Int32)] [] (xLay, I33, L34, (kM R35)) (0, 0) Φ)))))))))))) : sm_wp sm_P S (d + 1) 169 0 [.ref 107, .int x1] [] (xLay, I, L, (kM R)) (0, 0) Φ := sm_wp_step (⟨fun q43 => ⟨fun q12 => ((((h).1 q43)).1 q12), fun q12 => sm_ciR (((((h).1 q43)).2 q12)) (fun r4 I1 L2 R3 q11 => ⟨fun q10 => ((q11).1 q10), fun q10 => sm_cvR (((q11).2 q10)) (fun I5 L6 R7 q9 => q9)⟩)⟩, fun q43 => sm_ciR (((h).2 q43)) (fun r16 I13 L14 R15 q42 => ⟨fun q41 => ⟨fun q28 => ((((q42).1 q41)).1 q28), fun q28 => sm_ciR (((((q42).1 q41)).2 q28)) (fun r20 I17 L18 R19 q27 => ⟨fun q26 => ((q27).1 q26), fun q26 => sm_cvR (((q27).2 q26)) (fun I21 L22 R23 q25 => q25)⟩)⟩, fun q41 => ⟨fun q40 => ((((q42).2 q41)).1 q40), fun q40 => sm_ciR (((((q42).2 q41)).2 q40)) (fun r32 I29 L30 R31 q39 => ⟨fun q38 => ((q39).1 q38), fun q38 => sm_cvR (((q39).2 q38)) (fun I33 L34 R35 q37 => q37)⟩)⟩⟩)⟩)
theorem u_X12_number_7 {S : sm_C} {d : Nat} {Φ : sm_Z → Prop} {I : sm_I} {L : sm_L} {R : sm_R} {x2 : Int32} (h : sm_wp sm_P S d 143 0 [.ref 107, .int (2 : Int32)] [] (xLay, I, L, (kM R)) (0, 0) (fun z => ∃ (r4 : Int32) (I1 : sm_I) (L2 : sm_L) (R3 : sm_R), z = (some (.int r4), (xLay, I1, L2, (kM R3))) ∧ ((r4 = 0 → sm_wp sm_P S (d + 1) 169 10 [.ref 107, .int x2, .int (I 107 11)] [.int (0 : Int32)] (xLay, I1, L2, (kM R3)) (0, 0) Φ) ∧ (¬ r4 = 0 → (vp_in (I1 107 11) 503) ∧ sm_wp sm_P S (d + 1) 169 10 [.ref 107, .int x2, .int (I 107 11)] [.int (I1 112 (I1 107 11).toNatClampNeg)] (xLay, I1, L2, (kM R3)) (0, 0) Φ)))) : sm_wp sm_P S (d + 1) 169 7 [.ref 107, .int x2] [] (xLay, I, L, (kM R)) (0, 0) Φ := sm_wp_step (sm_ciR (h) (fun r4 I1 L2 R3 q6 => ⟨fun q5 => ((q6).1 q5), fun q5 => ⟨(((q6).2 q5)).1, (((q6).2 q5)).2⟩⟩))
theorem u_X12_number_10 {S : sm_C} {d : Nat} {Φ : sm_Z → Prop} {I : sm_I} {L : sm_L} {R : sm_R} {x2 : Int32} {x3 : Int32} {s0 : Int32} (h : sm_wp sm_P S d 165 0 [.ref 107, .int (2 : Int32)] [] (xLay, I, L, (kM R)) (0, 0) (fun z => ∃ (I1 : sm_I) (L2 : sm_L) (R3 : sm_R), z = (none, (xLay, I1, L2, (kM R3))) ∧ (((I1 107 13) = 0 → ((s0 ≤ (1440 : Int32) → sm_wp sm_P S (d + 1) 169 13 [.int x2, .int s0] [] (xLay, I1, L2, (kM R3)) (0, 0) Φ) ∧ (¬ s0 ≤ (1440 : Int32) → sm_wp sm_P S d 213 0 [.ref 107, .int (5 : Int32), .int x3] [] (xLay, I1, L2, (kM R3)) (0, 0) (fun z => ∃ (I5 : sm_I) (L6 : sm_L) (R7 : sm_R), z = (none, (xLay, I5, L6, (kM R7))) ∧ sm_wp sm_P S (d + 1) 169 13 [.int x2, .int s0] [] (xLay, I5, L6, (kM R7)) (0, 0) Φ)))) ∧ (¬ (I1 107 13) = 0 → sm_wp sm_P S (d + 1) 169 13 [.int x2, .int s0] [] (xLay, I1, L2, (kM R3)) (0, 0) Φ)))) : sm_wp sm_P S (d + 1) 169 10 [.ref 107, .int x2, .int x3] [.int s0] (xLay, I, L, (kM R)) (0, 0) Φ := sm_wp_step (sm_cvR (h) (fun I1 L2 R3 q12 => ⟨fun q11 => ⟨fun q10 => ((((q12).1 q11)).1 q10), fun q10 => sm_cvR (((((q12).1 q11)).2 q10)) (fun I5 L6 R7 q9 => q9)⟩, fun q11 => ((q12).2 q11)⟩))
theorem u_X12_number_13 {S : sm_C} {d : Nat} {Φ : sm_Z → Prop} {I : sm_I} {L : sm_L} {R : sm_R} {x2 : Int32} {x4 : Int32} (h : Φ (some (.int (x2 * x4)), (xLay, I, L, (kM R)))) : sm_wp sm_P S (d + 1) 169 13 [.int x2, .int x4] [] (xLay, I, L, (kM R)) (0, 0) Φ := sm_wp_step (h)
theorem u_X12_knows_0 {S : sm_C} {d : Nat} {Φ : sm_Z → Prop} {I : sm_I} {L : sm_L} {R : sm_R} {x1 : Int32} {x2 : Int32} {x3 : Int32} (h : (vp_in x1 503) ∧ (vp_in (I 107 20) 50) ∧ ∀ L1 : sm_L, L1 = (sm_up L 115 (I 107 20).toNatClampNeg (L 113 x1.toNatClampNeg)) → (vp_in (I 107 20) 50) ∧ ∀ I2 : sm_I, I2 = (sm_up I 116 (I 107 20).toNatClampNeg x2) → (vp_in (I2 107 20) 50) ∧ ∀ I3 : sm_I, I3 = (sm_up I2 117 (I2 107 20).toNatClampNeg x3) → ∀ I4 : sm_I, I4 = (sm_up I3 107 20 ((I3 107 20) + (1 : Int32))) → Φ (none, (xLay, I4, L1, (kM R)))) : sm_wp sm_P S d 155 0 [.ref 107, .int x1, .int x2, .int x3] [] (xLay, I, L, (kM R)) (0, 0) Φ := sm_wp_step (⟨(h).1, ⟨((h).2).1, ⟨((((h).2).2 _ rfl)).1, ⟨((((((h).2).2 _ rfl)).2 _ rfl)).1, ((((((((h).2).2 _ rfl)).2 _ rfl)).2 _ rfl) _ rfl)⟩⟩⟩⟩)
theorem u_X12_is_0 {S : sm_C} {d : Nat} {Φ : sm_Z → Prop} {I : sm_I} {L : sm_L} {R : sm_R} {x1 : Int32} (h : (((I 107 13) = 0 → (vp_in (I 107 11) 503) ∧ (((I 110 (I 107 11).toNatClampNeg) = x1 → Φ (some (.int (1 : Int32)), (xLay, I, L, (kM R)))) ∧ (¬ (I 110 (I 107 11).toNatClampNeg) = x1 → Φ (some (.int (0 : Int32)), (xLay, I, L, (kM R)))))) ∧ (¬ (I 107 13) = 0 → Φ (some (.int (0 : Int32)), (xLay, I, L, (kM R)))))) : sm_wp sm_P S d 143 0 [.ref 107, .int x1] [] (xLay, I, L, (kM R)) (0, 0) Φ := sm_wp_step (⟨fun q2 => ⟨(((h).1 q2)).1, ⟨fun q1 => ⟨Or.inr rfl, (((((h).1 q2)).2).1 q1)⟩, fun q1 => ⟨Or.inl rfl, (((((h).1 q2)).2).2 q1)⟩⟩⟩, fun q2 => ⟨Or.inl rfl, ((h).2 q2)⟩⟩)
theorem u_X12_fail_0 {S : sm_C} {d : Nat} {Φ : sm_Z → Prop} {I : sm_I} {L : sm_L} {R : sm_R} {x1 : Int32} (h : (((I 107 13) ≤ 0 → (vp_in ((sm_up I 107 13 x1) 107 11) 503) ∧ ∀ n1 : Int32, n1 = ((sm_up I 107 13 x1) 111 ((sm_up I 107 13 x1) 107 11).toNatClampNeg) → ∀ I2 : sm_I, I2 = (sm_up (sm_up I 107 13 x1) 107 14 n1) → Φ (none, (xLay, I2, L, (kM R)))) ∧ (¬ (I 107 13) ≤ 0 → Φ (none, (xLay, I, L, (kM R)))))) : sm_wp sm_P S d 123 0 [.ref 107, .int x1] [] (xLay, I, L, (kM R)) (0, 0) Φ := sm_wp_step (⟨fun q3 => ⟨(((h).1 q3)).1, (((((h).1 q3)).2 _ rfl) _ rfl)⟩, fun q3 => ((h).2 q3)⟩)
theorem u_X12_wrong_0 {S : sm_C} {d : Nat} {Φ : sm_Z → Prop} {I : sm_I} {L : sm_L} {R : sm_R} {x1 : Int32} {x2 : Int32} (h : (vp_in x2 503) ∧ ((0 < (I 107 13) → Φ (none, (xLay, I, L, (kM R)))) ∧ (¬ 0 < (I 107 13) → (((I 107 15) = 0 → ∀ I1 : sm_I, I1 = (sm_up (sm_up I 107 15 x1) 107 16 (I 111 x2.toNatClampNeg)) → Φ (none, (xLay, I1, L, (kM R)))) ∧ (¬ (I 107 15) = 0 → (((I 107 16) < (I 111 x2.toNatClampNeg) → Φ (none, (xLay, I, L, (kM R)))) ∧ (¬ (I 107 16) < (I 111 x2.toNatClampNeg) → (((I 111 x2.toNatClampNeg) = (I 107 16) → ((x1 < (I 107 15) → ∀ I3 : sm_I, I3 = (sm_up (sm_up I 107 15 x1) 107 16 (I 111 x2.toNatClampNeg)) → Φ (none, (xLay, I3, L, (kM R)))) ∧ (¬ x1 < (I 107 15) → Φ (none, (xLay, I, L, (kM R)))))) ∧ (¬ (I 111 x2.toNatClampNeg) = (I 107 16) → ∀ I2 : sm_I, I2 = (sm_up (sm_up I 107 15 x1) 107 16 (I 111 x2.toNatClampNeg)) → Φ (none, (xLay, I2, L, (kM R)))))))))))) : sm_wp sm_P S d 213 0 [.ref 107, .int x1, .int x2] [] (xLay, I, L, (kM R)) (0, 0) Φ := sm_wp_step (⟨(h).1, ⟨fun q8 => (((h).2).1 q8), fun q8 => ⟨fun q7 => ((((((h).2).2 q8)).1 q7) _ rfl), fun q7 => ⟨fun q6 => (((((((h).2).2 q8)).2 q7)).1 q6), fun q6 => ⟨fun q5 => ⟨fun q4 => ((((((((((((h).2).2 q8)).2 q7)).2 q6)).1 q5)).1 q4) _ rfl), fun q4 => (((((((((((h).2).2 q8)).2 q7)).2 q6)).1 q5)).2 q4)⟩, fun q5 => ((((((((((h).2).2 q8)).2 q7)).2 q6)).2 q5) _ rfl)⟩⟩⟩⟩⟩)
theorem u_X12_goesOn_0 {S : sm_C} {d : Nat} {Φ : sm_Z → Prop} {I : sm_I} {L : sm_L} {R : sm_R} (h : (((I 107 11) = (500 : Int32) → sm_wp sm_P S d 123 0 [.ref 107, .int (2 : Int32)] [] (xLay, I, L, (kM R)) (0, 0) (fun z => ∃ (I2 : sm_I) (L3 : sm_L) (R4 : sm_R), z = (none, (xLay, I2, L3, (kM R4))) ∧ Φ (none, (xLay, I2, L3, (kM R4))))) ∧ (¬ (I 107 11) = (500 : Int32) → ∀ I1 : sm_I, I1 = (sm_up I 107 11 ((I 107 11) + (1 : Int32))) → Φ (none, (xLay, I1, L, (kM R)))))) : sm_wp sm_P S (d + 1) 136 0 [.ref 107] [] (xLay, I, L, (kM R)) (0, 0) Φ := sm_wp_step (⟨fun q7 => sm_cvR (((h).1 q7)) (fun I2 L3 R4 q6 => q6), fun q7 => (((h).2 q7) _ rfl)⟩)
theorem u_X12_must_0 {S : sm_C} {d : Nat} {Φ : sm_Z → Prop} {I : sm_I} {L : sm_L} {R : sm_R} {x1 : Int32} (h : sm_wp sm_P S d 143 0 [.ref 107, .int x1] [] (xLay, I, L, (kM R)) (0, 0) (fun z => ∃ (r4 : Int32) (I1 : sm_I) (L2 : sm_L) (R3 : sm_R), z = (some (.int r4), (xLay, I1, L2, (kM R3))) ∧ ((r4 = 0 → sm_wp sm_P S d 123 0 [.ref 107, .int (1 : Int32)] [] (xLay, I1, L2, (kM R3)) (0, 0) (fun z => ∃ (I5 : sm_I) (L6 : sm_L) (R7 : sm_R), z = (none, (xLay, I5, L6, (kM R7))) ∧ Φ (none, (xLay, I5, L6, (kM R7))))) ∧ (¬ r4 = 0 → sm_wp sm_P S d 136 0 [.ref 107] [] (xLay, I1, L2, (kM R3)) (0, 0) (fun z => ∃ (I10 : sm_I) (L11 : sm_L) (R12 : sm_R), z = (none, (xLay, I10, L11, (kM R12))) ∧ Φ (none, (xLay, I10, L11, (kM R12)))))))) : sm_wp sm_P S (d + 1) 165 0 [.ref 107, .int x1] [] (xLay, I, L, (kM R)) (0, 0) Φ := sm_wp_step (sm_ciR (h) (fun r4 I1 L2 R3 q16 => ⟨fun q15 => sm_cvR (((q16).1 q15)) (fun I5 L6 R7 q9 => q9), fun q15 => sm_cvR (((q16).2 q15)) (fun I10 L11 R12 q14 => q14)⟩))
theorem u_X12_token_0 {S : sm_C} {d : Nat} {Φ : sm_Z → Prop} {I : sm_I} {L : sm_L} {R : sm_R} {x1 : Int32} {x2 : Int32} {x3 : Int32} {y4 : Int64} (h : (vp_in (I 107 10) 503) ∧ ∀ I1 : sm_I, I1 = (sm_up I 110 (I 107 10).toNatClampNeg x1) → (vp_in (I1 107 10) 503) ∧ ∀ I2 : sm_I, I2 = (sm_up I1 111 (I1 107 10).toNatClampNeg x2) → (vp_in (I2 107 10) 503) ∧ ∀ I3 : sm_I, I3 = (sm_up I2 112 (I2 107 10).toNatClampNeg x3) → (vp_in (I3 107 10) 503) ∧ ∀ L4 : sm_L, L4 = (sm_up L 113 (I3 107 10).toNatClampNeg y4) → ∀ I5 : sm_I, I5 = (sm_up I3 107 10 ((I3 107 10) + (1 : Int32))) → Φ (none, (xLay, I5, L4, (kM R)))) : sm_wp sm_P S d 204 0 [.ref 107, .int x1, .int x2, .int x3, .long y4] [] (xLay, I, L, (kM R)) (0, 0) Φ := sm_wp_step (⟨(h).1, ⟨(((h).2 _ rfl)).1, ⟨(((((h).2 _ rfl)).2 _ rfl)).1, ⟨(((((((h).2 _ rfl)).2 _ rfl)).2 _ rfl)).1, (((((((((h).2 _ rfl)).2 _ rfl)).2 _ rfl)).2 _ rfl) _ rfl)⟩⟩⟩⟩)
theorem u_X12_byteAt_0 {S : sm_C} {d : Nat} {Φ : sm_Z → Prop} {I : sm_I} {L : sm_L} {R : sm_R} {x1 : Int32} (h : (((I 107 4) ≤ x1 → Φ (some (.int (0 : Int32)), (xLay, I, L, (kM R)))) ∧ (¬ (I 107 4) ≤ x1 → (vp_in x1 2000) ∧ Φ (some (.int ((I 109 x1.toNatClampNeg) &&& (255 : Int32))), (xLay, I, L, (kM R)))))) : sm_wp sm_P S d 108 0 [.ref 107, .int x1] [] (xLay, I, L, (kM R)) (0, 0) Φ := sm_wp_step (⟨fun q1 => ((h).1 q1), fun q1 => ⟨(((h).2 q1)).1, (((h).2 q1)).2⟩⟩)
theorem u_X12_isLetter_0 {S : sm_C} {d : Nat} {Φ : sm_Z → Prop} {I : sm_I} {L : sm_L} {R : sm_R} {x0 : Int32} (h : ((x0 < (97 : Int32) → Φ (some (.int (0 : Int32)), (xLay, I, L, (kM R)))) ∧ (¬ x0 < (97 : Int32) → (((122 : Int32) < x0 → Φ (some (.int (0 : Int32)), (xLay, I, L, (kM R)))) ∧ (¬ (122 : Int32) < x0 → Φ (some (.int (1 : Int32)), (xLay, I, L, (kM R)))))))) : sm_wp sm_P S d 146 0 [.int x0] [] (xLay, I, L, (kM R)) (0, 0) Φ := sm_wp_step (⟨fun q2 => ⟨Or.inl rfl, ((h).1 q2)⟩, fun q2 => ⟨fun q1 => ⟨Or.inl rfl, ((((h).2 q2)).1 q1)⟩, fun q1 => ⟨Or.inr rfl, ((((h).2 q2)).2 q1)⟩⟩⟩)
theorem u_X12_isDigit_0 {S : sm_C} {d : Nat} {Φ : sm_Z → Prop} {I : sm_I} {L : sm_L} {R : sm_R} {x0 : Int32} (h : ((x0 < (48 : Int32) → Φ (some (.int (0 : Int32)), (xLay, I, L, (kM R)))) ∧ (¬ x0 < (48 : Int32) → (((57 : Int32) < x0 → Φ (some (.int (0 : Int32)), (xLay, I, L, (kM R)))) ∧ (¬ (57 : Int32) < x0 → Φ (some (.int (1 : Int32)), (xLay, I, L, (kM R)))))))) : sm_wp sm_P S d 144 0 [.int x0] [] (xLay, I, L, (kM R)) (0, 0) Φ := sm_wp_step (⟨fun q2 => ⟨Or.inl rfl, ((h).1 q2)⟩, fun q2 => ⟨fun q1 => ⟨Or.inl rfl, ((((h).2 q2)).1 q1)⟩, fun q1 => ⟨Or.inr rfl, ((((h).2 q2)).2 q1)⟩⟩⟩)
theorem u_X12_sign_0 {S : sm_C} {d : Nat} {Φ : sm_Z → Prop} {I : sm_I} {L : sm_L} {R : sm_R} {x0 : Int32} (h : ((x0 = (59 : Int32) → Φ (some (.int (4 : Int32)), (xLay, I, L, (kM R)))) ∧ (¬ x0 = (59 : Int32) → ((x0 = (58 : Int32) → Φ (some (.int (5 : Int32)), (xLay, I, L, (kM R)))) ∧ (¬ x0 = (58 : Int32) → ((x0 = (45 : Int32) → Φ (some (.int (9 : Int32)), (xLay, I, L, (kM R)))) ∧ (¬ x0 = (45 : Int32) → Φ (some (.int (3 : Int32)), (xLay, I, L, (kM R)))))))))) : sm_wp sm_P S d 191 0 [.int x0] [] (xLay, I, L, (kM R)) (0, 0) Φ := sm_wp_step (⟨fun q3 => ((h).1 q3), fun q3 => ⟨fun q2 => ((((h).2 q3)).1 q2), fun q2 => ⟨fun q1 => ((((((h).2 q3)).2 q2)).1 q1), fun q1 => ((((((h).2 q3)).2 q2)).2 q1)⟩⟩⟩)
theorem u_X12_appends_0 {S : sm_C} {d : Nat} {Φ : sm_Z → Prop} {I : sm_I} {L : sm_L} {R : sm_R} {y0 : Int64} {x2 : Int32} (h : ((x2 = 0 → Φ (some (.long y0), (xLay, I, L, (kM R)))) ∧ (¬ x2 = 0 → Φ (some (.long (((27 : Int64) * y0) + (((x2 - (97 : Int32)) + (1 : Int32))).toInt64)), (xLay, I, L, (kM R)))))) : sm_wp sm_P S d 95 0 [.long y0, .int x2] [] (xLay, I, L, (kM R)) (0, 0) Φ := sm_wp_step (⟨fun q1 => ((h).1 q1), fun q1 => ((h).2 q1)⟩)
theorem u_X12_isPerson_0 {S : sm_C} {d : Nat} {Φ : sm_Z → Prop} {I : sm_I} {L : sm_L} {R : sm_R} {x1 : Int32} (h : (vp_in (I 107 18) 2) ∧ ∀ n1 : Int32, n1 = ((I 118 (I 107 18).toNatClampNeg) - (1 : Int32)) → sm_wp sm_P S d 141 0 [.int x1, .int (0 : Int32), .int n1] [] (xLay, I, L, (kM R)) (0, 0) (fun z => ∃ (r5 : Int32) (I2 : sm_I) (L3 : sm_L) (R4 : sm_R), z = (some (.int r5), (xLay, I2, L3, (kM R4))) ∧ (r5 = 0 ∨ r5 = 1) ∧ Φ (some (.int r5), (xLay, I2, L3, (kM R4))))) : sm_wp sm_P S (d + 1) 148 0 [.ref 107, .int x1] [] (xLay, I, L, (kM R)) (0, 0) Φ := sm_wp_step (⟨(h).1, sm_ciR (((h).2 _ rfl)) (fun r5 I2 L3 R4 q6 => ⟨(q6).1, (q6).2⟩)⟩)
theorem u_X12_isMinute_0 {S : sm_C} {d : Nat} {Φ : sm_Z → Prop} {I : sm_I} {L : sm_L} {R : sm_R} {x1 : Int32} (h : sm_wp sm_P S d 141 0 [.int x1, .int (0 : Int32), .int (1440 : Int32)] [] (xLay, I, L, (kM R)) (0, 0) (fun z => ∃ (r4 : Int32) (I1 : sm_I) (L2 : sm_L) (R3 : sm_R), z = (some (.int r4), (xLay, I1, L2, (kM R3))) ∧ (r4 = 0 ∨ r4 = 1) ∧ Φ (some (.int r4), (xLay, I1, L2, (kM R3))))) : sm_wp sm_P S (d + 1) 147 0 [.ref 107, .int x1] [] (xLay, I, L, (kM R)) (0, 0) Φ := sm_wp_step (sm_ciR (h) (fun r4 I1 L2 R3 q5 => ⟨(q5).1, (q5).2⟩))
theorem u_X12_gapNow_0 {S : sm_C} {d : Nat} {Φ : sm_Z → Prop} {I : sm_I} {L : sm_L} {R : sm_R} {x1 : Int32} {x2 : Int32} {x3 : Int32} (h : ((x3 = 0 → ∀ n1 : Int32, n1 = (((169 : Int32) + ((13 : Int32) * x1)) + x2) → (vp_in n1 12000) ∧ Φ (some (.int (-(I 143 n1.toNatClampNeg))), (xLay, I, L, (kM R)))) ∧ (¬ x3 = 0 → ∀ n2 : Int32, n2 = (((169 : Int32) + ((13 : Int32) * x2)) + x1) → (vp_in n2 12000) ∧ Φ (some (.int (I 143 n2.toNatClampNeg)), (xLay, I, L, (kM R)))))) : sm_wp sm_P S d 129 0 [.ref 107, .int x1, .int x2, .int x3] [] (xLay, I, L, (kM R)) (0, 0) Φ := sm_wp_step (⟨fun q3 => ⟨((((h).1 q3) _ rfl)).1, ((((h).1 q3) _ rfl)).2⟩, fun q3 => ⟨((((h).2 q3) _ rfl)).1, ((((h).2 q3) _ rfl)).2⟩⟩)
theorem u_X12_asks_0 {S : sm_C} {d : Nat} {Φ : sm_Z → Prop} {I : sm_I} {L : sm_L} {R : sm_R} {x1 : Int32} (h : ((0 ≤ x1 → sm_wp sm_P S d 135 0 [.ref 107] [] (xLay, I, L, (kM R)) (0, 0) (fun z => ∃ (I1 : sm_I) (L2 : sm_L) (R3 : sm_R), z = (none, (xLay, I1, L2, (kM R3))) ∧ (((I1 107 71) = 0 → (((I1 107 73) ≤ x1 → Φ (some (.int (-1 : Int32)), (xLay, I1, L2, (kM R3)))) ∧ (¬ (I1 107 73) ≤ x1 → Φ (some (.int (0 : Int32)), (xLay, I1, L2, (kM R3)))))) ∧ (¬ (I1 107 71) = 0 → Φ (some (.int (-3 : Int32)), (xLay, I1, L2, (kM R3))))))) ∧ (¬ 0 ≤ x1 → Φ (some (.int (-1 : Int32)), (xLay, I, L, (kM R)))))) : sm_wp sm_P S (d + 1) 97 0 [.ref 107, .int x1] [] (xLay, I, L, (kM R)) (0, 0) Φ := sm_wp_step (⟨fun q8 => sm_cvR (((h).1 q8)) (fun I1 L2 R3 q7 => ⟨fun q6 => ⟨fun q5 => ((((q7).1 q6)).1 q5), fun q5 => ((((q7).1 q6)).2 q5)⟩, fun q6 => ((q7).2 q6)⟩), fun q8 => ((h).2 q8)⟩)
theorem u_X12_changes_0 {S : sm_C} {d : Nat} {Φ : sm_Z → Prop} {I : sm_I} {L : sm_L} {R : sm_R} (h : ∀ I1 : sm_I, I1 = (sm_up (sm_up I 107 70 (0 : Int32)) 107 79 (0 : Int32)) → Φ (none, (xLay, I1, L, (kM R)))) : sm_wp sm_P S d 110 0 [.ref 107] [] (xLay, I, L, (kM R)) (0, 0) Φ := sm_wp_step (⟨Or.inl rfl, ⟨Or.inl rfl, (h _ rfl)⟩⟩)
theorem u_X12_been_0 {S : sm_C} {d : Nat} {Φ : sm_Z → Prop} {I : sm_I} {L : sm_L} {R : sm_R} {x1 : Int32} {x2 : Int32} {x3 : Int32} (h : sm_wp sm_P S d 148 0 [.ref 107, .int x1] [] (xLay, I, L, (kM R)) (0, 0) (fun z => ∃ (r4 : Int32) (I1 : sm_I) (L2 : sm_L) (R3 : sm_R), z = (some (.int r4), (xLay, I1, L2, (kM R3))) ∧ ((r4 = 0 → Φ (some (.int (-1 : Int32)), (xLay, I1, L2, (kM R3)))) ∧ (¬ r4 = 0 → (vp_in (I1 107 18) 2) ∧ ∀ n5 : Int32, n5 = ((I1 119 (I1 107 18).toNatClampNeg) - (1 : Int32)) → sm_wp sm_P S d 141 0 [.int x2, .int (0 : Int32), .int n5] [] (xLay, I1, L2, (kM R3)) (0, 0) (fun z => ∃ (r9 : Int32) (I6 : sm_I) (L7 : sm_L) (R8 : sm_R), z = (some (.int r9), (xLay, I6, L7, (kM R8))) ∧ ((r9 = 0 → Φ (some (.int (-1 : Int32)), (xLay, I6, L7, (kM R8)))) ∧ (¬ r9 = 0 → sm_wp sm_P S d 170 0 [.ref 107, .int x1, .int x2] [] (xLay, I6, L7, (kM R8)) (0, 0) (fun z => ∃ (I10 : sm_I) (L11 : sm_L) (R12 : sm_R), z = (none, (xLay, I10, L11, (kM R12))) ∧ ∀ I14 : sm_I, I14 = (sm_up I10 107 90 (0 : Int32)) → (vp_in (I14 107 18) 2) ∧ ∀ n15 : Int32, n15 = ((I14 122 (I14 107 18).toNatClampNeg) + (2 : Int32)) → sm_wp sm_P S d 103 0 [.ref 107, .int n15] [] (xLay, I14, L11, (kM R12)) (0, 0) (fun z => ∃ (r19 : Int32) (I16 : sm_I) (L17 : sm_L) (R18 : sm_R), z = (some (.int r19), (xLay, I16, L17, (kM R18))) ∧ ((r19 = 0 → (((I16 107 64) = 0 → (((I16 107 90) = 0 → Φ (some (.int (-2 : Int32)), (xLay, I16, L17, (kM R18)))) ∧ (¬ (I16 107 90) = 0 → ((x3 = 0 → Φ (some (.int (I16 107 91)), (xLay, I16, L17, (kM R18)))) ∧ (¬ x3 = 0 → Φ (some (.int (I16 107 92)), (xLay, I16, L17, (kM R18)))))))) ∧ (¬ (I16 107 64) = 0 → Φ (some (.int (-3 : Int32)), (xLay, I16, L17, (kM R18)))))) ∧ (¬ r19 = 0 → sm_wp sm_P S d 162 0 [.ref 107] [] (xLay, I16, L17, (kM R18)) (0, 0) (fun z => ∃ (I23 : sm_I) (L24 : sm_L) (R25 : sm_R), z = (none, (xLay, I23, L24, (kM R25))) ∧ (((I23 107 64) = 0 → (((I23 107 90) = 0 → Φ (some (.int (-2 : Int32)), (xLay, I23, L24, (kM R25)))) ∧ (¬ (I23 107 90) = 0 → ((x3 = 0 → Φ (some (.int (I23 107 91)), (xLay, I23, L24, (kM R25)))) ∧ (¬ x3 = 0 → Φ (some (.int (I23 107 92)), (xLay, I23, L24, (kM R25)))))))) ∧ (¬ (I23 107 64) = 0 → Φ (some (.int (-3 : Int32)), (xLay, I23, L24, (kM R25))))))))))))))))) : sm_wp sm_P S (d + 1) 102 0 [.ref 107, .int x1, .int x2, .int x3] [] (xLay, I, L, (kM R)) (0, 0) Φ := sm_wp_step (sm_ciR (h) (fun r4 I1 L2 R3 q37 => ⟨fun q36 => ((q37).1 q36), fun q36 => ⟨(((q37).2 q36)).1, sm_ciR (((((q37).2 q36)).2 _ rfl)) (fun r9 I6 L7 R8 q35 => ⟨fun q34 => ((q35).1 q34), fun q34 => sm_cvR (((q35).2 q34)) (fun I10 L11 R12 q33 => ⟨Or.inl rfl, ⟨((q33 _ rfl)).1, sm_ciR ((((q33 _ rfl)).2 _ rfl)) (fun r19 I16 L17 R18 q32 => ⟨fun q31 => ⟨fun q22 => ⟨fun q21 => ((((((q32).1 q31)).1 q22)).1 q21), fun q21 => ⟨fun q20 => ((((((((q32).1 q31)).1 q22)).2 q21)).1 q20), fun q20 => ((((((((q32).1 q31)).1 q22)).2 q21)).2 q20)⟩⟩, fun q22 => ((((q32).1 q31)).2 q22)⟩, fun q31 => sm_cvR (((q32).2 q31)) (fun I23 L24 R25 q30 => ⟨fun q29 => ⟨fun q28 => ((((q30).1 q29)).1 q28), fun q28 => ⟨fun q27 => ((((((q30).1 q29)).2 q28)).1 q27), fun q27 => ((((((q30).1 q29)).2 q28)).2 q27)⟩⟩, fun q29 => ((q30).2 q29)⟩)⟩)⟩⟩)⟩)⟩⟩))
end
section
/-! methods checked by the engine -/
def mlc_1 : en_Ct := (106, [(2, 107, 0), (0, 0, 11), (0, 0, 11), (0, -2147483648, 2147483647)], [], (0, 0, 1), [(143, [])], 0)
def mlu_1 : List en_Cu := [(5, [(2, 107, 0), (0, 0, 11), (0, 0, 11), (0, -2147483648, 1439), (0, 0, 11830), (0, 0, 13)], [], [], 419, [0, 0, 0, 0, 0, -30]),
  (7, [(2, 107, 0), (0, 0, 11), (0, 0, 11), (0, -2147483648, 1439), (0, 0, 11830), (0, 0, 12), (0, 0, 13)], [], [], 417, [0, 0, 0, 0, 0, -30, -2])]
/-! X12_bound -/
theorem mlh_1 {Sc : sm_C} : en_hold ml_tb mlX sm_P Sc mlc_1 := en_chk_ok mlX_ok (T := []) (cuts := mlu_1) (fun _ h => absurd h List.not_mem_nil) (by decide +kernel)
def mlc_2 : en_Ct := (98, [(2, 107, 0), (0, 0, 11), (0, 0, 11), (0, -2147483648, 2147483647)], [], (0, 0, 1), [(143, [])], 1)
def mlu_2 : List en_Cu := []
/-! X12_atMost -/
theorem mlh_2 {Sc : sm_C} : en_hold ml_tb mlX sm_P Sc mlc_2 := en_chk_ok mlX_ok (T := [mlc_1]) (cuts := mlu_2) (List.forall_mem_cons.mpr ⟨mlh_1, fun _ h => absurd h List.not_mem_nil⟩) (by decide +kernel)
def mlc_3 : en_Ct := (104, [(2, 107, 0), (0, 0, 11), (0, 0, 10), (0, -2147483648, 2147483647), (0, -2147483648, 2147483647)], [], (0, 0, 1), [(143, [])], 2)
def mlu_3 : List en_Cu := []
/-! X12_between -/
theorem mlh_3 {Sc : sm_C} : en_hold ml_tb mlX sm_P Sc mlc_3 := en_chk_ok mlX_ok (T := [mlc_2]) (cuts := mlu_3) (List.forall_mem_cons.mpr ⟨mlh_2, fun _ h => absurd h List.not_mem_nil⟩) (by decide +kernel)
def mlc_4 : en_Ct := (139, [(2, 107, 0), (0, 0, 248), (0, 0, 1441)], [], (0, 0, 1), [(143, [])], 3)
def mlu_4 : List en_Cu := []
/-! X12_holdsSpan -/
theorem mlh_4 {Sc : sm_C} : en_hold ml_tb mlX sm_P Sc mlc_4 := en_chk_ok mlX_ok (T := [mlc_3]) (cuts := mlu_4) (List.forall_mem_cons.mpr ⟨mlh_3, fun _ h => absurd h List.not_mem_nil⟩) (by decide +kernel)
def mlc_5 : en_Ct := (103, [(2, 107, 0), (0, 1, 12)], [], (0, 0, 1), [(107, [51, 52]), (143, [])], 4)
def mlu_5 : List en_Cu := [(1, [(2, 107, 0), (0, 0, 169)], [], [], 371, [0, -2]),
  (19, [(2, 107, 0), (0, 0, 1), (0, 0, 6)], [], [], 13, [0, 0, -2]),
  (8, [(2, 107, 0), (0, 0, 1), (0, 240, 248)], [], [], 511, [0, 0, -2])]
/-! X12_begins -/
theorem mlh_5 {Sc : sm_C} : en_hold ml_tb mlX sm_P Sc mlc_5 := en_chk_ok mlX_ok (T := [mlc_3, mlc_1, mlc_4]) (cuts := mlu_5) (List.forall_mem_cons.mpr ⟨mlh_3, List.forall_mem_cons.mpr ⟨mlh_1, List.forall_mem_cons.mpr ⟨mlh_4, fun _ h => absurd h List.not_mem_nil⟩⟩⟩) (by decide +kernel)
def mlc_6 : en_Ct := (115, [(2, 107, 0), (0, 0, 54), (0, 0, 3)], [], (0, 0, 1), [(143, [])], 4)
def mlu_6 : List en_Cu := [(5, [(2, 107, 0), (0, 0, 79), (0, 0, 1441), (0, 0, 240)], [], [], 481, [0, 0, 0, -2])]
/-! X12_chooses -/
theorem mlh_6 {Sc : sm_C} : en_hold ml_tb mlX sm_P Sc mlc_6 := en_chk_ok mlX_ok (T := [mlc_4, mlc_2]) (cuts := mlu_6) (List.forall_mem_cons.mpr ⟨mlh_4, List.forall_mem_cons.mpr ⟨mlh_2, fun _ h => absurd h List.not_mem_nil⟩⟩) (by decide +kernel)
def mlc_7 : en_Ct := (115, [(2, 107, 0), (0, 60, 69), (0, 0, 3)], [], (0, 0, 1), [(143, [])], 2)
def mlu_7 : List en_Cu := []
/-! X12_chooses -/
theorem mlh_7 {Sc : sm_C} : en_hold ml_tb mlX sm_P Sc mlc_7 := en_chk_ok mlX_ok (T := [mlc_2]) (cuts := mlu_7) (List.forall_mem_cons.mpr ⟨mlh_2, fun _ h => absurd h List.not_mem_nil⟩) (by decide +kernel)
def mlc_8 : en_Ct := (116, [(2, 107, 0), (0, 0, 69), (0, 1, 70)], [], (9, 0, 0), [(143, [])], 0)
def mlu_8 : List en_Cu := [(1, [(2, 107, 0), (0, 0, 69), (0, 1, 70), (0, 0, 169)], [], [], 339, [0, 0, 0, -2])]
/-! X12_copies -/
theorem mlh_8 {Sc : sm_C} : en_hold ml_tb mlX sm_P Sc mlc_8 := en_chk_ok mlX_ok (T := []) (cuts := mlu_8) (fun _ h => absurd h List.not_mem_nil) (by decide +kernel)
def mlc_10 : en_Ct := (208, [(2, 107, 0)], [], (0, 0, 1023), [], 0)
def mlu_10 : List en_Cu := [(1, [(2, 107, 0), (0, 0, 1023), (0, 0, 10)], [], [], 21, [0, 0, -2])]
/-! X12_undoubted -/
theorem mlh_10 {Sc : sm_C} : en_hold ml_tb mlX sm_P Sc mlc_10 := en_chk_ok mlX_ok (T := []) (cuts := mlu_10) (fun _ h => absurd h List.not_mem_nil) (by decide +kernel)
def mlc_12 : en_Ct := (187, [(2, 107, 0), (0, 0, 70)], [], (9, 0, 0), [(107, [90, 91, 92])], 0)
def mlu_12 : List en_Cu := []
/-! X12_sees -/
theorem mlh_12 {Sc : sm_C} : en_hold ml_tb mlX sm_P Sc mlc_12 := en_chk_ok mlX_ok (T := []) (cuts := mlu_12) (fun _ h => absurd h List.not_mem_nil) (by decide +kernel)
def mlc_14 : en_Ct := (107, [(2, 107, 0)], [], (0, -2, 44), [], 0)
def mlu_14 : List en_Cu := [(1, [(2, 107, 0), (0, 0, 45)], [], [], 91, [0, -2])]
/-! X12_breaks -/
theorem mlh_14 {Sc : sm_C} : en_hold ml_tb mlX sm_P Sc mlc_14 := en_chk_ok mlX_ok (T := []) (cuts := mlu_14) (fun _ h => absurd h List.not_mem_nil) (by decide +kernel)
def mlc_15 : en_Ct := (168, [(2, 107, 0), (0, 0, 69), (0, 0, 3), (0, 0, 1)], [(107, 63, 1, 1000)], (9, 0, 0), [(154, []), (155, []), (156, [])], 0)
def mlu_15 : List en_Cu := []
/-! X12_notes -/
theorem mlh_15 {Sc : sm_C} : en_hold ml_tb mlX sm_P Sc mlc_15 := en_chk_ok mlX_ok (T := []) (cuts := mlu_15) (fun _ h => absurd h List.not_mem_nil) (by decide +kernel)
def mlc_20 : en_Ct := (110, [(2, 107, 0)], [], (9, 0, 0), [(107, [70, 79])], 0)
def mlu_20 : List en_Cu := []
/-! X12_changes -/
theorem mlh_20 {Sc : sm_C} : en_hold ml_tb mlX sm_P Sc mlc_20 := en_chk_ok mlX_ok (T := []) (cuts := mlu_20) (fun _ h => absurd h List.not_mem_nil) (by decide +kernel)
def mlc_22 : en_Ct := (194, [(2, 107, 0)], [], (0, 0, 1023), [], 0)
def mlu_22 : List en_Cu := [(1, [(2, 107, 0), (0, 0, 1023), (0, 0, 10)], [], [], 21, [0, 0, -2])]
/-! X12_sureOnes -/
theorem mlh_22 {Sc : sm_C} : en_hold ml_tb mlX sm_P Sc mlc_22 := en_chk_ok mlX_ok (T := []) (cuts := mlu_22) (fun _ h => absurd h List.not_mem_nil) (by decide +kernel)
def mlc_24 : en_Ct := (207, [(2, 107, 0), (0, -1, 1023)], [], (0, -2147483648, 2147483647), [], 0)
def mlu_24 : List en_Cu := [(1, [(2, 107, 0), (0, -1, 1023), (0, -2147483648, 2147483647), (0, 0, 10)], [], [], 21, [0, 0, 0, -2])]
/-! X12_trustIn -/
theorem mlh_24 {Sc : sm_C} : en_hold ml_tb mlX sm_P Sc mlc_24 := en_chk_ok mlX_ok (T := []) (cuts := mlu_24) (fun _ h => absurd h List.not_mem_nil) (by decide +kernel)
def mlc_26 : en_Ct := (113, [(2, 107, 0), (0, 0, 999), (0, 0, 54)], [], (0, -1, 3), [], 0)
def mlu_26 : List en_Cu := [(1, [(2, 107, 0), (0, 0, 999), (0, 0, 54), (0, -1, 3), (0, 0, 70)], [], [], 141, [0, 0, 0, 0, -2])]
/-! X12_choiceOf -/
theorem mlh_26 {Sc : sm_C} : en_hold ml_tb mlX sm_P Sc mlc_26 := en_chk_ok mlX_ok (T := []) (cuts := mlu_26) (fun _ h => absurd h List.not_mem_nil) (by decide +kernel)
def mlc_30 : en_Ct := (120, [(2, 107, 0), (0, -2147483648, 2147483647), (0, 0, 1)], [], (0, 0, 1), [(107, [70, 79]), (137, []), (160, [])], 2)
def mlu_30 : List en_Cu := []
/-! X12_doubt -/
theorem mlh_30 {Sc : sm_C} : en_hold ml_tb mlX sm_P Sc mlc_30 := en_chk_ok mlX_ok (T := []) (cuts := mlu_30) (fun _ h => absurd h List.not_mem_nil) (by decide +kernel)
def mlc_34 : en_Ct := (125, [(2, 107, 0)], [], (0, -1, 5), [(107, [54, 70, 79])], 1)
def mlu_34 : List en_Cu := []
/-! X12_fewer -/
theorem mlh_34 {Sc : sm_C} : en_hold ml_tb mlX sm_P Sc mlc_34 := en_chk_ok mlX_ok (T := []) (cuts := mlu_34) (fun _ h => absurd h List.not_mem_nil) (by decide +kernel)
def mlc_35 : en_Ct := (94, [(2, 107, 0), (0, 0, 4), (0, 0, 2)], [], (0, 0, 1), [(143, [])], 3)
def mlu_35 : List en_Cu := []
/-! X12_answers -/
theorem mlh_35 {Sc : sm_C} : en_hold ml_tb mlX sm_P Sc mlc_35 := en_chk_ok mlX_ok (T := [mlc_3, mlc_1]) (cuts := mlu_35) (List.forall_mem_cons.mpr ⟨mlh_3, List.forall_mem_cons.mpr ⟨mlh_1, fun _ h => absurd h List.not_mem_nil⟩⟩) (by decide +kernel)
def mlc_36 : en_Ct := (145, [(2, 107, 0), (0, -2147483648, 2147483647), (0, -2147483648, 2147483647)], [], (0, 0, 1), [(107, [52]), (143, [])], 4)
def mlu_36 : List en_Cu := [(1, [(2, 107, 0), (0, -2147483648, 2147483647), (0, -2147483648, 2147483647), (0, 0, 35)], [], [], 503, [0, 0, 0, -14]),
  (5, [(2, 107, 0), (0, -2147483648, 2147483647), (0, -2147483648, 2147483647), (0, 0, 34), (0, 0, 1), (0, 0, 5)], [], [], 501, [0, 0, 0, -14, 0, -2])]
/-! X12_isLeft -/
theorem mlh_36 {Sc : sm_C} : en_hold ml_tb mlX sm_P Sc mlc_36 := en_chk_ok mlX_ok (T := [mlc_8, mlc_35]) (cuts := mlu_36) (List.forall_mem_cons.mpr ⟨mlh_8, List.forall_mem_cons.mpr ⟨mlh_35, fun _ h => absurd h List.not_mem_nil⟩⟩) (by decide +kernel)
def mlc_54 : en_Ct := (163, [(2, 107, 0), (0, -2147483648, 2147483647), (0, -2147483648, 2147483647), (0, -2147483648, 2147483647), (0, -2147483648, 2147483647)], [], (0, -1, 6), [(107, [54, 70, 79]), (144, []), (145, []), (146, []), (147, [])], 2)
def mlu_54 : List en_Cu := []
/-! X12_more -/
theorem mlh_54 {Sc : sm_C} : en_hold ml_tb mlX sm_P Sc mlc_54 := en_chk_ok mlX_ok (T := []) (cuts := mlu_54) (fun _ h => absurd h List.not_mem_nil) (by decide +kernel)
def mlc_55 : en_Ct := (164, [(2, 107, 0), (0, -2147483648, 2147483647), (0, -2147483648, 2147483647)], [], (0, -2147483648, 2147483647), [], 1)
def mlu_55 : List en_Cu := []
/-! X12_move -/
theorem mlh_55 {Sc : sm_C} : en_hold ml_tb mlX sm_P Sc mlc_55 := en_chk_ok mlX_ok (T := []) (cuts := mlu_55) (fun _ h => absurd h List.not_mem_nil) (by decide +kernel)
def mlc_57 : en_Ct := (172, [(2, 107, 0), (0, -2147483648, 2147483647), (0, -2147483648, 2147483647)], [], (0, 0, 1), [(160, [])], 3)
def mlu_57 : List en_Cu := []
/-! X12_pick -/
theorem mlh_57 {Sc : sm_C} : en_hold ml_tb mlX sm_P Sc mlc_57 := en_chk_ok mlX_ok (T := []) (cuts := mlu_57) (fun _ h => absurd h List.not_mem_nil) (by decide +kernel)
def mlc_58 : en_Ct := (173, [(2, 107, 0)], [], (0, 0, 1), [(107, [51, 52, 53, 68]), (143, [])], 5)
def mlu_58 : List en_Cu := [(3, [(2, 107, 0), (0, 0, 55)], [], [], 111, [0, -2])]
/-! X12_pickedStands -/
theorem mlh_58 {Sc : sm_C} : en_hold ml_tb mlX sm_P Sc mlc_58 := en_chk_ok mlX_ok (T := [mlc_5, mlc_6]) (cuts := mlu_58) (List.forall_mem_cons.mpr ⟨mlh_5, List.forall_mem_cons.mpr ⟨mlh_6, fun _ h => absurd h List.not_mem_nil⟩⟩) (by decide +kernel)
def mlc_59 : en_Ct := (174, [(2, 107, 0)], [], (0, -1, 2000), [], 0)
def mlu_59 : List en_Cu := []
/-! X12_place -/
theorem mlh_59 {Sc : sm_C} : en_hold ml_tb mlX sm_P Sc mlc_59 := en_chk_ok mlX_ok (T := []) (cuts := mlu_59) (fun _ h => absurd h List.not_mem_nil) (by decide +kernel)
def mlc_64 : en_Ct := (210, [(2, 107, 0)], [], (9, 0, 0), [(139, [])], 0)
def mlu_64 : List en_Cu := [(1, [(2, 107, 0), (0, 0, 36)], [], [], 605, [0, -2]),
  (4, [(2, 107, 0), (0, 0, 6)], [], [], 531, [0, -76]),
  (6, [(2, 107, 0), (0, 0, 5), (0, 0, 36)], [], [], 529, [0, -76, -2])]
/-! X12_walks -/
theorem mlh_64 {Sc : sm_C} : en_hold ml_tb mlX sm_P Sc mlc_64 := en_chk_ok mlX_ok (T := []) (cuts := mlu_64) (fun _ h => absurd h List.not_mem_nil) (by decide +kernel)
def mlc_66 : en_Ct := (193, [(2, 107, 0)], [], (0, 0, 1), [(107, [51, 52, 53, 68]), (143, []), (162, [])], 6)
def mlu_66 : List en_Cu := [(1, [(2, 107, 0), (0, 0, 60)], [], [], 121, [0, -2])]
/-! X12_stands -/
theorem mlh_66 {Sc : sm_C} : en_hold ml_tb mlX sm_P Sc mlc_66 := en_chk_ok mlX_ok (T := [mlc_58]) (cuts := mlu_66) (List.forall_mem_cons.mpr ⟨mlh_58, fun _ h => absurd h List.not_mem_nil⟩) (by decide +kernel)
def mlc_67 : en_Ct := (185, [(2, 107, 0)], [], (0, 0, 1), [(107, [51, 52, 53, 68, 87]), (143, []), (161, []), (162, [])], 7)
def mlu_67 : List en_Cu := [(3, [(2, 107, 0), (0, 0, 0)], [], [(107, 87, 0, 0)], 111, [0, -2]),
  (3, [(2, 107, 0), (0, 1, 1)], [], [(107, 87, 0, 1)], 111, [0, -2]),
  (3, [(2, 107, 0), (0, 10, 10)], [], [(107, 87, 0, 10)], 111, [0, -2]),
  (3, [(2, 107, 0), (0, 11, 11)], [], [(107, 87, 0, 11)], 111, [0, -2]),
  (3, [(2, 107, 0), (0, 12, 12)], [], [(107, 87, 0, 12)], 111, [0, -2]),
  (3, [(2, 107, 0), (0, 13, 13)], [], [(107, 87, 0, 13)], 111, [0, -2]),
  (3, [(2, 107, 0), (0, 14, 14)], [], [(107, 87, 0, 14)], 111, [0, -2]),
  (3, [(2, 107, 0), (0, 15, 15)], [], [(107, 87, 0, 15)], 111, [0, -2]),
  (3, [(2, 107, 0), (0, 16, 16)], [], [(107, 87, 0, 16)], 111, [0, -2]),
  (3, [(2, 107, 0), (0, 17, 17)], [], [(107, 87, 0, 17)], 111, [0, -2]),
  (3, [(2, 107, 0), (0, 18, 18)], [], [(107, 87, 0, 18)], 111, [0, -2]),
  (3, [(2, 107, 0), (0, 19, 19)], [], [(107, 87, 0, 19)], 111, [0, -2]),
  (3, [(2, 107, 0), (0, 2, 2)], [], [(107, 87, 0, 2)], 111, [0, -2]),
  (3, [(2, 107, 0), (0, 20, 20)], [], [(107, 87, 0, 20)], 111, [0, -2]),
  (3, [(2, 107, 0), (0, 21, 21)], [], [(107, 87, 0, 21)], 111, [0, -2]),
  (3, [(2, 107, 0), (0, 22, 22)], [], [(107, 87, 0, 22)], 111, [0, -2]),
  (3, [(2, 107, 0), (0, 23, 23)], [], [(107, 87, 0, 23)], 111, [0, -2]),
  (3, [(2, 107, 0), (0, 24, 24)], [], [(107, 87, 0, 24)], 111, [0, -2]),
  (3, [(2, 107, 0), (0, 25, 25)], [], [(107, 87, 0, 25)], 111, [0, -2]),
  (3, [(2, 107, 0), (0, 26, 26)], [], [(107, 87, 0, 26)], 111, [0, -2]),
  (3, [(2, 107, 0), (0, 27, 27)], [], [(107, 87, 0, 27)], 111, [0, -2]),
  (3, [(2, 107, 0), (0, 28, 28)], [], [(107, 87, 0, 28)], 111, [0, -2]),
  (3, [(2, 107, 0), (0, 29, 29)], [], [(107, 87, 0, 29)], 111, [0, -2]),
  (3, [(2, 107, 0), (0, 3, 3)], [], [(107, 87, 0, 3)], 111, [0, -2]),
  (3, [(2, 107, 0), (0, 30, 30)], [], [(107, 87, 0, 30)], 111, [0, -2]),
  (3, [(2, 107, 0), (0, 31, 31)], [], [(107, 87, 0, 31)], 111, [0, -2]),
  (3, [(2, 107, 0), (0, 32, 32)], [], [(107, 87, 0, 32)], 111, [0, -2]),
  (3, [(2, 107, 0), (0, 33, 33)], [], [(107, 87, 0, 33)], 111, [0, -2]),
  (3, [(2, 107, 0), (0, 34, 34)], [], [(107, 87, 0, 34)], 111, [0, -2]),
  (3, [(2, 107, 0), (0, 35, 35)], [], [(107, 87, 0, 35)], 111, [0, -2]),
  (3, [(2, 107, 0), (0, 36, 36)], [], [(107, 87, 0, 36)], 111, [0, -2]),
  (3, [(2, 107, 0), (0, 37, 37)], [], [(107, 87, 0, 37)], 111, [0, -2]),
  (3, [(2, 107, 0), (0, 38, 38)], [], [(107, 87, 0, 38)], 111, [0, -2]),
  (3, [(2, 107, 0), (0, 39, 39)], [], [(107, 87, 0, 39)], 111, [0, -2]),
  (3, [(2, 107, 0), (0, 4, 4)], [], [(107, 87, 0, 4)], 111, [0, -2]),
  (3, [(2, 107, 0), (0, 40, 40)], [], [(107, 87, 0, 40)], 111, [0, -2]),
  (3, [(2, 107, 0), (0, 41, 41)], [], [(107, 87, 0, 41)], 111, [0, -2]),
  (3, [(2, 107, 0), (0, 42, 42)], [], [(107, 87, 0, 42)], 111, [0, -2]),
  (3, [(2, 107, 0), (0, 43, 43)], [], [(107, 87, 0, 43)], 111, [0, -2]),
  (3, [(2, 107, 0), (0, 44, 44)], [], [(107, 87, 0, 44)], 111, [0, -2]),
  (3, [(2, 107, 0), (0, 45, 45)], [], [(107, 87, 0, 45)], 111, [0, -2]),
  (3, [(2, 107, 0), (0, 46, 46)], [], [(107, 87, 0, 46)], 111, [0, -2]),
  (3, [(2, 107, 0), (0, 47, 47)], [], [(107, 87, 0, 47)], 111, [0, -2]),
  (3, [(2, 107, 0), (0, 48, 48)], [], [(107, 87, 0, 48)], 111, [0, -2]),
  (3, [(2, 107, 0), (0, 49, 49)], [], [(107, 87, 0, 49)], 111, [0, -2]),
  (3, [(2, 107, 0), (0, 5, 5)], [], [(107, 87, 0, 5)], 111, [0, -2]),
  (3, [(2, 107, 0), (0, 50, 50)], [], [(107, 87, 0, 50)], 111, [0, -2]),
  (3, [(2, 107, 0), (0, 51, 51)], [], [(107, 87, 0, 51)], 111, [0, -2]),
  (3, [(2, 107, 0), (0, 52, 52)], [], [(107, 87, 0, 52)], 111, [0, -2]),
  (3, [(2, 107, 0), (0, 53, 53)], [], [(107, 87, 0, 53)], 111, [0, -2]),
  (3, [(2, 107, 0), (0, 54, 54)], [], [(107, 87, 0, 54)], 111, [0, -2]),
  (3, [(2, 107, 0), (0, 55, 55)], [], [(107, 87, 0, 55)], 111, [0, -2]),
  (3, [(2, 107, 0), (0, 6, 6)], [], [(107, 87, 0, 6)], 111, [0, -2]),
  (3, [(2, 107, 0), (0, 7, 7)], [], [(107, 87, 0, 7)], 111, [0, -2]),
  (3, [(2, 107, 0), (0, 8, 8)], [], [(107, 87, 0, 8)], 111, [0, -2]),
  (3, [(2, 107, 0), (0, 9, 9)], [], [(107, 87, 0, 9)], 111, [0, -2])]
/-! X12_rings -/
theorem mlh_67 {Sc : sm_C} : en_hold ml_tb mlX sm_P Sc mlc_67 := en_chk_ok mlX_ok (T := [mlc_58, mlc_66]) (cuts := mlu_67) (List.forall_mem_cons.mpr ⟨mlh_58, List.forall_mem_cons.mpr ⟨mlh_66, fun _ h => absurd h List.not_mem_nil⟩⟩) (by decide +kernel)
def mlc_68 : en_Ct := (183, [(2, 107, 0)], [], (0, -2, 60), [(107, [51, 52, 53, 68, 87]), (143, []), (161, []), (162, [])], 8)
def mlu_68 : List en_Cu := []
/-! X12_ring -/
theorem mlh_68 {Sc : sm_C} : en_hold ml_tb mlX sm_P Sc mlc_68 := en_chk_ok mlX_ok (T := [mlc_67]) (cuts := mlu_68) (List.forall_mem_cons.mpr ⟨mlh_67, fun _ h => absurd h List.not_mem_nil⟩) (by decide +kernel)
def mlc_69 : en_Ct := (184, [(2, 107, 0), (0, -2147483648, 2147483647)], [], (0, -1, 144), [(107, [51, 52, 53, 68, 87]), (143, []), (161, []), (162, [])], 8)
def mlu_69 : List en_Cu := []
/-! X12_ringAt -/
theorem mlh_69 {Sc : sm_C} : en_hold ml_tb mlX sm_P Sc mlc_69 := en_chk_ok mlX_ok (T := [mlc_67]) (cuts := mlu_69) (List.forall_mem_cons.mpr ⟨mlh_67, fun _ h => absurd h List.not_mem_nil⟩) (by decide +kernel)
def mlc_70 : en_Ct := (188, [(2, 107, 0), (0, -2147483648, 2147483647), (0, -2147483648, 2147483647)], [], (0, 0, 1), [(138, [])], 2)
def mlu_70 : List en_Cu := []
/-! X12_set -/
theorem mlh_70 {Sc : sm_C} : en_hold ml_tb mlX sm_P Sc mlc_70 := en_chk_ok mlX_ok (T := []) (cuts := mlu_70) (fun _ h => absurd h List.not_mem_nil) (by decide +kernel)
def mlc_74 : en_Ct := (209, [(2, 107, 0), (0, -2147483648, 2147483647), (0, -2147483648, 2147483647)], [], (0, -2147483648, 2147483647), [], 1)
def mlu_74 : List en_Cu := []
/-! X12_walk -/
theorem mlh_74 {Sc : sm_C} : en_hold ml_tb mlX sm_P Sc mlc_74 := en_chk_ok mlX_ok (T := []) (cuts := mlu_74) (fun _ h => absurd h List.not_mem_nil) (by decide +kernel)
end
section
/-! worlds of the reference -/
theorem ml_refs : ∀ j, j < 97 → (match kMl[j]? with
  | some (some q) => decide (en_refs ml_tb 107 j = [q])
  | _ => true) = true := by decide +kernel
theorem ml_R {w : sm_W} (hm : en_mem ml_tb mlX w) : kM w.2.2.2 = w.2.2.2 := kM_eq (fun j q hq => by
  have hj : j < 97 := by
    have : j < kMl.length := by
      rcases Nat.lt_or_ge j kMl.length with h | h
      · exact h
      · rw [List.getElem?_eq_none h] at hq; cases hq
    exact this
  have e := ml_refs j hj
  rw [hq] at e
  have e : en_refs ml_tb 107 j = [q] := of_decide_eq_true e
  obtain ⟨r, h1, h2⟩ := hm.2.2.1 107 j (by rw [e]; exact List.cons_ne_nil _ _)
  rw [e] at h1
  rw [h2, List.mem_singleton.mp h1])
theorem ml_wr {I : sm_I} {L : sm_L} {R : sm_R} {p j : Nat} {x : Int32} (hm : en_mem ml_tb mlX (xLay, I, L, R)) (hX : mlX (xLay, sm_up I p j x, L, R)) (hq : ∀ q, en_int ml_tb p j = some q → q.1 ≤ x.toInt ∧ x.toInt ≤ q.2) : en_mem ml_tb mlX (xLay, sm_up I p j x, L, R) := by
  refine ⟨hm.1, ?_, hm.2.2.1, hm.2.2.2.1, hX⟩
  intro a b q h
  show q.1 ≤ (sm_up I p j x a b).toInt ∧ (sm_up I p j x a b).toInt ≤ q.2
  by_cases c : a = p ∧ b = j
  · obtain ⟨c1, c2⟩ := c
    subst c1; subst c2
    rw [en_up_eq]; exact hq q h
  · rw [en_up_ne _ _ _ _ c]; exact hm.2.1 a b q h
/-- a field -/
theorem ml_wf {I : sm_I} {L : sm_L} {R : sm_R} {p j : Nat} {x : Int32} {q : Int × Int} (hm : en_mem ml_tb mlX (xLay, I, L, R)) (hf : en_fix ml_tb p j = false) (e : en_int ml_tb p j = some q) (hx : q.1 ≤ x.toInt ∧ x.toInt ≤ q.2) : en_mem ml_tb mlX (xLay, sm_up I p j x, L, R) := ml_wr hm (mlX_ok.1 _ (I, L, R) _ _ _ hf hm.2.2.2.2) (fun r hr => by rw [e] at hr; rw [← Option.some.inj hr]; exact hx)
/-- an element of a row -/
theorem ml_we {I : sm_I} {L : sm_L} {R : sm_R} {p j n : Nat} {x : Int32} {q : Int × Int} (hm : en_mem ml_tb mlX (xLay, I, L, R)) (hX : mlX (xLay, sm_up I p j x, L, R)) (e : en_int ml_tb p j = bif Nat.blt j n then some q else none) (hx : q.1 ≤ x.toInt ∧ x.toInt ≤ q.2) : en_mem ml_tb mlX (xLay, sm_up I p j x, L, R) := ml_wr hm hX (fun r hr => by
  rw [e] at hr
  cases c : Nat.blt j n with
  | true => rw [c] at hr; rw [← Option.some.inj hr]; exact hx
  | false => rw [c] at hr; cases hr)
theorem ml_fr {W : en_W} {w0 : sm_W} {lay : List (Nat × Nat)} {I : sm_I} {L : sm_L} {R : sm_R} {p j : Nat} {x : Int32} (h : en_fr W w0 (lay, I, L, R)) (hw : en_wok W p j = true) : en_fr W w0 (lay, sm_up I p j x, L, R) := by
  refine ⟨h.1, fun a b hab => ⟨?_, (h.2 a b hab).2⟩⟩
  show sm_up I p j x a b = w0.2.1 a b
  rw [en_up_ne _ _ _ _ (fun c => by rw [c.1, c.2, hw] at hab; cases hab)]
  exact (h.2 a b hab).1
theorem ml_byte (x : Int32) : -128 ≤ (vp_nar .byte x).toInt ∧ (vp_nar .byte x).toInt ≤ 127 := by
  show -128 ≤ (x.toInt8.toInt32).toInt ∧ (x.toInt8.toInt32).toInt ≤ 127
  rw [Int8.toInt_toInt32]
  exact ⟨Int8.le_toInt _, Int8.toInt_le _⟩
theorem ml_taped {w : sm_W} (hm : en_mem ml_tb mlX w) : 0 ≤ (w.2.1 107 2).toInt ∧ (w.2.1 107 2).toInt ≤ 2000 := hm.2.1 107 2 (0, 2000) (by decide +kernel)
end
section
/-! back, put, feed -/
theorem mx_back {S : sm_C} {d : Nat} {Φ : sm_Z → Prop} {I : sm_I} {L : sm_L} {R : sm_R} {x : Int32} (hm : en_mem ml_tb mlX (xLay, I, L, R)) (h0 : (x.toInt < 0 ∨ (I 107 2).toInt < x.toInt) → Φ (some (.int (-1)), (xLay, I, L, R))) (h1 : ∀ I' : sm_I, 0 ≤ x.toInt → x.toInt ≤ (I 107 2).toInt → I' = sm_up I 107 2 (I 107 2 - x) → (I 107 2 - x).toInt = (I 107 2).toInt - x.toInt → en_mem ml_tb mlX (xLay, I', L, R) → Φ (some (.int (I 107 2 - x)), (xLay, I', L, R))) : sm_wp sm_P S d 99 0 [.ref 107, .int x] [] (xLay, I, L, R) (0, 0) Φ := by
  have e : kM R = R := ml_R hm
  rw [← e]
  have b := ml_taped hm
  have b : 0 ≤ (I 107 2).toInt ∧ (I 107 2).toInt ≤ 2000 := b
  refine v_X12_back_0 ⟨fun a => ?_, fun a => ⟨fun c I1 e1 => ?_, fun c => ?_⟩⟩
  · rw [e]; rw [kl_lt, kl_0] at a; exact h0 (Or.inl a)
  · have a := kl_nlt0 a
    have c := kl_le.mp c
    have s : (I 107 2 - x).toInt = (I 107 2).toInt - x.toInt := by
      rw [Int32.toInt_sub]; exact en_bmod (by omega) (by omega) (Or.inl rfl)
    have g : I1 107 2 = I 107 2 - x := by rw [e1, en_up_eq]
    rw [e, g]
    refine h1 I1 a c e1 s ?_
    rw [e1]
    exact ml_wf hm (by decide +kernel) (q := (0, 2000)) (by decide +kernel) (by show 0 ≤ _ ∧ _ ≤ (2000 : Int); omega)
  · rw [e]; exact h0 (Or.inr (kl_nle c))
theorem mlh_78 {Sc : sm_C} : en_hold ml_tb mlX sm_P Sc mlc_78 := by
  intro d hd vs w hv hm _
  obtain ⟨lay, I, L, R⟩ := w
  obtain ⟨vs1, rfl, hv1⟩ := kl_vr (q := 107) rfl hv
  obtain ⟨x1, vs2, rfl, b1, hv2⟩ := kl_vi hv1
  obtain rfl := kl_v0 hv2
  obtain rfl : lay = xLay := hm.2.2.2.2.1
  have b : 0 ≤ (I 107 2).toInt ∧ (I 107 2).toInt ≤ 2000 := ml_taped hm
  refine mx_back hm (fun _ => ⟨Or.inl ⟨rfl, by decide, by decide⟩, hm, en_fr_rf⟩) (fun I' a c e s hm' => ⟨Or.inl ⟨rfl, ?_, ?_⟩, hm', ?_⟩)
  · show (-1 : Int) ≤ _
    omega
  · show _ ≤ (2000 : Int)
    omega
  · rw [e]; exact ml_fr en_fr_rf (by decide)
theorem mx_put {S : sm_C} {d : Nat} {Φ : sm_Z → Prop} {w0 : sm_W} {L : sm_L} {R : sm_R} {x1 : Int32} (n : Int) (hn : n ≤ 2000) : ∀ (k : Nat) (I : sm_I) (x2 : Int32), (k ≤ 4 ∧ x2.toInt = 8 * k - 8) → en_mem ml_tb mlX (xLay, I, L, R) → (I 107 2).toInt + k = n → en_fr [(107, [2]), (108, [])] w0 (xLay, I, L, R) → (∀ I' : sm_I, en_mem ml_tb mlX (xLay, I', L, R) → (I' 107 2).toInt = n → en_fr [(107, [2]), (108, [])] w0 (xLay, I', L, R) → Φ (none, (xLay, I', L, R))) → sm_wp sm_P S d 179 1 [.ref 107, .int x1, .int x2] [] (xLay, I, L, R) (0, 0) Φ := by
  intro k
  induction k with
  | zero =>
    intro I x2 hx hm hi hf h
    have e : kM R = R := ml_R hm
    rw [← e]
    refine v_X12_put_1 ⟨fun _ => ?_, fun a => ?_⟩
    · rw [e]; exact h I hm (by omega) hf
    · have := kl_nlt0 a
      omega
  | succ k ih =>
    intro I x2 hx hm hi hf h
    have e : kM R = R := ml_R hm
    have b : 0 ≤ (I 107 2).toInt ∧ (I 107 2).toInt ≤ 2000 := ml_taped hm
    rw [← e]
    refine v_X12_put_1 ⟨fun a => ?_, fun a n1 _ => ⟨kl_in b.1 (by omega), fun I2 e2 I3 e3 => ?_⟩⟩
    · rw [kl_lt, kl_0] at a; omega
    · rw [e]
      have m8 : (-8 : Int32).toInt = -8 := by decide
      have s : (x2 + (-8 : Int32)).toInt = x2.toInt - 8 := by rw [kl_add (by rw [m8]; omega) (by rw [m8]; omega), m8]; omega
      have hm2 : en_mem ml_tb mlX (xLay, I2, L, R) := by
        rw [e2]
        exact ml_we hm (mlX_ok.1 _ (I, L, R) _ _ _ rfl hm.2.2.2.2) (n := 2000) (q := (-128, 127)) rfl (ml_byte n1)
      have g2 : I2 107 2 = I 107 2 := by rw [e2, en_up_ne _ _ _ _ (fun c => absurd c.1 (by decide))]
      have s1 : (I 107 2 + 1).toInt = (I 107 2).toInt + 1 := by rw [kl_add (by rw [kl_1]; omega) (by rw [kl_1]; omega), kl_1]
      have hm3 : en_mem ml_tb mlX (xLay, I3, L, R) := by
        rw [e3, g2]
        exact ml_wf hm2 (by decide +kernel) (q := (0, 2000)) (by decide +kernel) (by show 0 ≤ _ ∧ _ ≤ (2000 : Int); omega)
      have g3 : I3 107 2 = I 107 2 + 1 := by rw [e3, g2, en_up_eq]
      refine ih I3 _ ⟨by omega, by omega⟩ hm3 (by rw [g3]; omega) ?_ h
      rw [e3]
      refine ml_fr ?_ (by decide)
      rw [e2]
      exact ml_fr hf rfl
theorem mx_feed {S : sm_C} {d : Nat} {Φ : sm_Z → Prop} {I : sm_I} {L : sm_L} {R : sm_R} {x1 x2 x3 x4 x5 : Int32} (hm : en_mem ml_tb mlX (xLay, I, L, R)) (h0 : 1980 < (I 107 2).toInt → Φ (some (.int (-1)), (xLay, I, L, R))) (h1 : ∀ I' : sm_I, (I 107 2).toInt ≤ 1980 → en_mem ml_tb mlX (xLay, I', L, R) → (I' 107 2).toInt = (I 107 2).toInt + 20 → en_fr [(107, [2]), (108, [])] (xLay, I, L, R) (xLay, I', L, R) → Φ (some (.int (I' 107 2)), (xLay, I', L, R))) : sm_wp sm_P S (d + 1) 124 0 [.ref 107, .int x1, .int x2, .int x3, .int x4, .int x5] [] (xLay, I, L, R) (0, 0) Φ := by
  have e : kM R = R := ml_R hm
  have b : 0 ≤ (I 107 2).toInt ∧ (I 107 2).toInt ≤ 2000 := ml_taped hm
  have c20 : (20 : Int32).toInt = 20 := by decide
  have c24 : (24 : Int32).toInt = 8 * (4 : Nat) - 8 := by decide
  have c2k : (2000 : Int32).toInt = 2000 := by decide
  have s : (I 107 2 + 20).toInt = (I 107 2).toInt + 20 := by rw [kl_add (by rw [c20]; omega) (by rw [c20]; omega), c20]
  rw [← e]
  refine v_X12_feed_0 ⟨fun a => ?_, fun a => ?_⟩
  · have a := kl_le.mp a
    rw [s, c2k] at a
    have p0 : ∀ {x : Int32} {Φ : sm_Z → Prop} {I1 : sm_I}, en_mem ml_tb mlX (xLay, I1, L, R) → (I1 107 2).toInt ≤ 1996 → en_fr [(107, [2]), (108, [])] (xLay, I, L, R) (xLay, I1, L, R) → (∀ I2 : sm_I, en_mem ml_tb mlX (xLay, I2, L, R) → (I2 107 2).toInt = (I1 107 2).toInt + 4 → en_fr [(107, [2]), (108, [])] (xLay, I, L, R) (xLay, I2, L, R) → Φ (none, (xLay, I2, L, kM R))) → sm_wp sm_P S d 179 0 [.ref 107, .int x] [] (xLay, I1, L, kM R) (0, 0) Φ := by
      intro x Φ I1 m1 n1 f1 k1
      refine v_X12_put_0 ?_
      rw [e] at k1 ⊢
      exact mx_put ((I1 107 2).toInt + 4) (by omega) 4 I1 24 ⟨by decide, c24⟩ m1 (by omega) f1 k1
    refine p0 hm (by omega) en_fr_rf (fun I1 m1 t1 f1 => ⟨I1, L, rfl, ?_⟩)
    refine p0 m1 (by omega) f1 (fun I2 m2 t2 f2 => ⟨I2, L, rfl, ?_⟩)
    refine p0 m2 (by omega) f2 (fun I3 m3 t3 f3 => ⟨I3, L, rfl, ?_⟩)
    refine p0 m3 (by omega) f3 (fun I4 m4 t4 f4 => ⟨I4, L, rfl, ?_⟩)
    refine p0 m4 (by omega) f4 (fun I5 m5 t5 f5 => ⟨I5, L, rfl, ?_⟩)
    rw [e]
    exact h1 I5 (by omega) m5 (by omega) f5
  · have a := kl_nle a
    rw [s, c2k] at a
    rw [e]
    exact h0 (by omega)
theorem mlh_33 {Sc : sm_C} : en_hold ml_tb mlX sm_P Sc mlc_33 := by
  intro d hd vs w hv hm _
  obtain ⟨lay, I, L, R⟩ := w
  obtain ⟨vs1, rfl, hv1⟩ := kl_vr (q := 107) rfl hv
  obtain ⟨x1, vs2, rfl, b1, hv2⟩ := kl_vi hv1
  obtain ⟨x2, vs3, rfl, b2, hv3⟩ := kl_vi hv2
  obtain ⟨x3, vs4, rfl, b3, hv4⟩ := kl_vi hv3
  obtain ⟨x4, vs5, rfl, b4, hv5⟩ := kl_vi hv4
  obtain ⟨x5, vs6, rfl, b5, hv6⟩ := kl_vi hv5
  obtain rfl := kl_v0 hv6
  obtain rfl : lay = xLay := hm.2.2.2.2.1
  obtain ⟨d, rfl⟩ : ∃ d', d = d' + 1 := ⟨d - 1, by have : 1 ≤ d := hd; omega⟩
  have b : 0 ≤ (I 107 2).toInt ∧ (I 107 2).toInt ≤ 2000 := ml_taped hm
  refine mx_feed hm (fun _ => ⟨Or.inl ⟨rfl, by decide, by decide⟩, hm, en_fr_rf⟩) (fun I' a hm' t hf => ⟨Or.inl ⟨rfl, ?_, ?_⟩, hm', hf⟩)
  · show (-1 : Int) ≤ _
    omega
  · show _ ≤ (2000 : Int)
    omega
end
section
/-! lists -/
def ml_L (I I' : sm_I) : Prop := ∀ c j, c ≠ 148 → ¬ (c = 107 ∧ j = 59) → I' c j = I c j
theorem ml_L_tr {I I1 I2 : sm_I} (h1 : ml_L I I1) (h2 : ml_L I1 I2) : ml_L I I2 := fun c j a b => (h2 c j a b).trans (h1 c j a b)
theorem ml_add {I I1 I2 : sm_I} {L : sm_L} {R : sm_R} {v : Int32} (hm : en_mem ml_tb mlX (xLay, I, L, R)) (hn : (I 107 59).toInt ≤ 69) (hv : 0 ≤ v.toInt ∧ v.toInt ≤ 69) (hh : v.toInt ≤ 54 ∨ 60 ≤ v.toInt) (e1 : I1 = sm_up I 148 (I 107 59).toNatClampNeg v) (e2 : I2 = sm_up I1 107 59 (I1 107 59 + 1)) : en_mem ml_tb mlX (xLay, I2, L, R) ∧ (I2 107 59).toInt = (I 107 59).toInt + 1 ∧ ml_L I I2 := by
  have b : 0 ≤ (I 107 59).toInt ∧ (I 107 59).toInt ≤ 70 := hm.2.1 107 59 (0, 70) (by decide +kernel)
  have g1 : I1 107 59 = I 107 59 := by rw [e1, en_up_ne _ _ _ _ (fun c => absurd c.1 (by decide))]
  have s1 : (I 107 59 + 1).toInt = (I 107 59).toInt + 1 := by rw [kl_add (by rw [kl_1]; omega) (by rw [kl_1]; omega), kl_1]
  have o1 : ∀ p, p ≠ 148 → ∀ j, I1 p j = I p j := fun p hp j => by rw [e1, en_up_ne _ _ _ _ (fun c => hp c.1)]
  have X1 : mlX (xLay, I1, L, R) := by
    have X := hm.2.2.2.2
    refine ⟨rfl, fun j hj => ?_, fun l hl => ?_, mlP_cg (o1 165 (by decide)) X.2.2.2.1, mlN_cg (o1 116 (by decide)) (o1 117 (by decide)) X.2.2.2.2.1, X.2.2.2.2.2⟩
    · show (I1 148 j).toInt ≤ 54 ∨ 60 ≤ (I1 148 j).toInt
      rw [e1]
      by_cases c : j = (I 107 59).toNatClampNeg
      · rw [c, en_up_eq]; exact hh
      · rw [en_up_ne _ _ _ _ (fun q => c q.2)]; exact X.2.1 j hj
    · have hl : (l : Int) = (I1 107 18).toInt := hl
      rw [o1 107 (by decide)] at hl
      exact mlV_cg (fun p hp => o1 p (by omega)) (X.2.2.1 l hl)
  have m1 : en_mem ml_tb mlX (xLay, I1, L, R) := by
    rw [e1] at X1 ⊢
    exact ml_we hm X1 (n := 70) (q := (0, 69)) rfl hv
  refine ⟨?_, ?_, ?_⟩
  · rw [e2, g1]
    exact ml_wf m1 (by decide +kernel) (q := (0, 70)) (by decide +kernel) (by show 0 ≤ _ ∧ _ ≤ (70 : Int); omega)
  · rw [e2, g1, en_up_eq]; exact s1
  · intro c j a b
    rw [e2, en_up_ne _ _ _ _ b, e1, en_up_ne _ _ _ _ (fun q => a q.1)]
theorem mx_lists10 {S : sm_C} {d : Nat} {Φ : sm_Z → Prop} {L : sm_L} {R : sm_R} : ∀ (k : Nat) (I : sm_I) (x2 : Int32), en_mem ml_tb mlX (xLay, I, L, R) → 0 ≤ x2.toInt → x2.toInt + k = 10 → (I 107 59).toInt ≤ 55 + x2.toInt → (∀ I' : sm_I, en_mem ml_tb mlX (xLay, I', L, R) → ml_L I I' → (I' 107 59).toInt ≤ 65 → Φ (none, (xLay, I', L, R))) → sm_wp sm_P S d 160 10 [.ref 107, .int x2] [] (xLay, I, L, R) (0, 0) Φ := by
  intro k
  induction k with
  | zero =>
    intro I x2 hm h0 hk hi h
    have e : kM R = R := ml_R hm
    have b : 0 ≤ (I 107 67).toInt ∧ (I 107 67).toInt ≤ 10 := hm.2.1 107 67 (0, 10) (by decide +kernel)
    rw [← e]
    refine v_X12_lists_10 ⟨fun _ => ?_, fun a => ?_⟩
    · rw [e]; exact h I hm (fun _ _ _ _ => rfl) (by omega)
    · have := kl_nle a; omega
  | succ k ih =>
    intro I x2 hm h0 hk hi h
    have e : kM R = R := ml_R hm
    have b : 0 ≤ (I 107 59).toInt ∧ (I 107 59).toInt ≤ 70 := hm.2.1 107 59 (0, 70) (by decide +kernel)
    rw [← e]
    refine v_X12_lists_10 ⟨fun _ => ?_, fun a => ⟨kl_in b.1 (by omega), fun I1 e1 I2 e2 => ?_⟩⟩
    · rw [e]; exact h I hm (fun _ _ _ _ => rfl) (by omega)
    · have c : (60 : Int32).toInt = 60 := by decide
      have s : ((60 : Int32) + x2).toInt = 60 + x2.toInt := by rw [kl_add (by rw [c]; omega) (by rw [c]; omega), c]
      have t : (x2 + 1).toInt = x2.toInt + 1 := by rw [kl_add (by rw [kl_1]; omega) (by rw [kl_1]; omega), kl_1]
      obtain ⟨q1, q2, q3⟩ := ml_add hm (by omega) (by rw [s]; omega) (by rw [s]; omega) e1 e2
      rw [e]
      exact ih I2 _ q1 (by omega) (by omega) (by omega) (fun I' m l n => h I' m (ml_L_tr q3 l) n)
theorem mx_lists7 {S : sm_C} {d : Nat} {Φ : sm_Z → Prop} {L : sm_L} {R : sm_R} : ∀ (k : Nat) (I : sm_I) (x2 : Int32), en_mem ml_tb mlX (xLay, I, L, R) → 0 ≤ x2.toInt → x2.toInt + k = 45 → (I 107 59).toInt ≤ 10 + x2.toInt → (∀ I' : sm_I, en_mem ml_tb mlX (xLay, I', L, R) → ml_L I I' → (I' 107 59).toInt ≤ 65 → Φ (none, (xLay, I', L, R))) → sm_wp sm_P S d 160 7 [.ref 107, .int x2] [] (xLay, I, L, R) (0, 0) Φ := by
  intro k
  induction k with
  | zero =>
    intro I x2 hm h0 hk hi h
    have e : kM R = R := ml_R hm
    have b : 0 ≤ (I 107 46).toInt ∧ (I 107 46).toInt ≤ 45 := hm.2.1 107 46 (0, 45) (by decide +kernel)
    rw [← e]
    refine v_X12_lists_7 ⟨fun _ => ?_, fun a => ?_⟩
    · rw [e]; exact mx_lists10 10 I 0 hm (by rw [kl_0]; omega) (by rw [kl_0]; omega) (by rw [kl_0]; omega) h
    · have := kl_nle a; omega
  | succ k ih =>
    intro I x2 hm h0 hk hi h
    have e : kM R = R := ml_R hm
    have b : 0 ≤ (I 107 59).toInt ∧ (I 107 59).toInt ≤ 70 := hm.2.1 107 59 (0, 70) (by decide +kernel)
    rw [← e]
    refine v_X12_lists_7 ⟨fun _ => ?_, fun a => ⟨kl_in b.1 (by omega), fun I1 e1 I2 e2 => ?_⟩⟩
    · rw [e]; exact mx_lists10 10 I 0 hm (by rw [kl_0]; omega) (by rw [kl_0]; omega) (by rw [kl_0]; omega) h
    · have c : (10 : Int32).toInt = 10 := by decide
      have s : ((10 : Int32) + x2).toInt = 10 + x2.toInt := by rw [kl_add (by rw [c]; omega) (by rw [c]; omega), c]
      have t : (x2 + 1).toInt = x2.toInt + 1 := by rw [kl_add (by rw [kl_1]; omega) (by rw [kl_1]; omega), kl_1]
      obtain ⟨q1, q2, q3⟩ := ml_add hm (by omega) (by rw [s]; omega) (by rw [s]; omega) e1 e2
      rw [e]
      exact ih I2 _ q1 (by omega) (by omega) (by omega) (fun I' m l n => h I' m (ml_L_tr q3 l) n)
theorem mx_lists1 {S : sm_C} {d : Nat} {Φ : sm_Z → Prop} {L : sm_L} {R : sm_R} {x1 : Int32} : ∀ (k : Nat) (I : sm_I) (x2 : Int32), en_mem ml_tb mlX (xLay, I, L, R) → 0 ≤ x2.toInt → x2.toInt + k = 10 → (I 107 59).toInt ≤ x2.toInt → (∀ I' : sm_I, en_mem ml_tb mlX (xLay, I', L, R) → ml_L I I' → (I' 107 59).toInt ≤ 65 → Φ (none, (xLay, I', L, R))) → sm_wp sm_P S d 160 1 [.ref 107, .int x1, .int x2] [] (xLay, I, L, R) (0, 0) Φ := by
  intro k
  induction k with
  | zero =>
    intro I x2 hm h0 hk hi h
    have e : kM R = R := ml_R hm
    have l : 0 ≤ (I 107 18).toInt ∧ (I 107 18).toInt ≤ 1 := hm.2.1 107 18 (0, 1) (by decide +kernel)
    have ln := kl_nat l.1
    have b : 0 ≤ (I 125 (I 107 18).toNatClampNeg).toInt ∧ (I 125 (I 107 18).toNatClampNeg).toInt ≤ 10 := hm.2.1 125 _ (0, 10) (by
      have : (I 107 18).toNatClampNeg = 0 ∨ (I 107 18).toNatClampNeg = 1 := by omega
      rcases this with q | q <;> rw [q] <;> decide +kernel)
    rw [← e]
    refine v_X12_lists_1 ⟨kl_in l.1 (by omega), fun _ => ?_, fun a => ?_⟩
    · rw [e]; exact mx_lists7 45 I 0 hm (by rw [kl_0]; omega) (by rw [kl_0]; omega) (by rw [kl_0]; omega) h
    · have := kl_nle a; omega
  | succ k ih =>
    intro I x2 hm h0 hk hi h
    have e : kM R = R := ml_R hm
    have l : 0 ≤ (I 107 18).toInt ∧ (I 107 18).toInt ≤ 1 := hm.2.1 107 18 (0, 1) (by decide +kernel)
    have b : 0 ≤ (I 107 59).toInt ∧ (I 107 59).toInt ≤ 70 := hm.2.1 107 59 (0, 70) (by decide +kernel)
    have t : (x2 + 1).toInt = x2.toInt + 1 := by rw [kl_add (by rw [kl_1]; omega) (by rw [kl_1]; omega), kl_1]
    rw [← e]
    refine v_X12_lists_1 ⟨kl_in l.1 (by omega), fun _ => ?_, fun a => ⟨fun _ => ?_, fun _ => ⟨kl_in b.1 (by omega), fun I1 e1 I2 e2 => ?_⟩⟩⟩
    · rw [e]; exact mx_lists7 45 I 0 hm (by rw [kl_0]; omega) (by rw [kl_0]; omega) (by rw [kl_0]; omega) h
    · rw [e]; exact ih I _ hm (by omega) (by omega) (by omega) h
    · obtain ⟨q1, q2, q3⟩ := ml_add hm (by omega) (by omega) (by omega) e1 e2
      rw [e]
      exact ih I2 _ q1 (by omega) (by omega) (by omega) (fun I' m l n => h I' m (ml_L_tr q3 l) n)
theorem mlh_9 {Sc : sm_C} : en_hold ml_tb mlX sm_P Sc mlc_9 := by
  intro d hd vs w hv hm _
  obtain ⟨lay, I, L, R⟩ := w
  obtain ⟨vs1, rfl, hv1⟩ := kl_vr (q := 107) rfl hv
  obtain ⟨x1, vs2, rfl, b1, hv2⟩ := kl_vi hv1
  obtain rfl := kl_v0 hv2
  obtain rfl : lay = xLay := hm.2.2.2.2.1
  have e : kM R = R := ml_R hm
  show sm_wp sm_P Sc d 160 0 _ [] (xLay, I, L, R) (0, 0) _
  rw [← e]
  refine v_X12_lists_0 ?_
  rw [e]
  have m0 : en_mem ml_tb mlX (xLay, sm_up I 107 59 0, L, R) := ml_wf hm (by decide +kernel) (q := (0, 70)) (by decide +kernel) (by decide)
  refine mx_lists1 10 _ 0 m0 (by rw [kl_0]; omega) (by rw [kl_0]; omega) (by rw [en_up_eq, kl_0]; omega) (fun I' m l _ => ⟨rfl, m, ⟨rfl, fun p j h => ⟨?_, rfl⟩⟩⟩)
  show I' p j = I p j
  have h59 : ¬ (p = 107 ∧ j = 59) := fun c => by
    obtain ⟨c1, c2⟩ := c
    subst c1; subst c2
    simp [en_wok, mlc_9] at h
  rw [l p j (fun c => by subst c; simp [en_wok, mlc_9] at h) h59, en_up_ne _ _ _ _ h59]
end
section
/-! bears -/
theorem mx_in {S : sm_C} {d : Nat} {Φ : sm_Z → Prop} {I : sm_I} {L : sm_L} {R : sm_R} {x a b : Int32} (h : ∀ r : Int32, (r = 0 ∨ r = 1) → (r = 0 ∨ (a.toInt ≤ x.toInt ∧ x.toInt ≤ b.toInt)) → Φ (some (.int r), (xLay, I, L, kM R))) : sm_wp sm_P S d 141 0 [.int x, .int a, .int b] [] (xLay, I, L, kM R) (0, 0) Φ := v_X12_in_0 ⟨fun _ => h 0 (Or.inl rfl) (Or.inl rfl), fun h1 => ⟨fun _ => h 0 (Or.inl rfl) (Or.inl rfl), fun h2 => h 1 (Or.inr rfl) (Or.inr ⟨kl_nlt h1, kl_nlt h2⟩)⟩⟩
theorem ml_live {w : sm_W} (hm : en_mem ml_tb mlX w) : 0 ≤ (w.2.1 107 18).toInt ∧ (w.2.1 107 18).toInt ≤ 1 ∧ ((w.2.1 107 18).toNatClampNeg : Int) = (w.2.1 107 18).toInt ∧ ((w.2.1 107 18).toNatClampNeg = 0 ∨ (w.2.1 107 18).toNatClampNeg = 1) := by
  have l : 0 ≤ (w.2.1 107 18).toInt ∧ (w.2.1 107 18).toInt ≤ 1 := hm.2.1 107 18 (0, 1) (by decide +kernel)
  have ln := kl_nat l.1
  refine ⟨l.1, l.2, ln, ?_⟩
  omega
theorem ml_row {w : sm_W} (hm : en_mem ml_tb mlX w) {p n : Nat} {q : Int × Int} (e : ∀ j, en_int ml_tb p j = bif Nat.blt j n then some q else none) (j : Nat) (hj : j < n) : q.1 ≤ (w.2.1 p j).toInt ∧ (w.2.1 p j).toInt ≤ q.2 := hm.2.1 p j q (by rw [e j, show Nat.blt j n = true from Nat.ble_eq_true_of_le hj]; rfl)
theorem mx_isSaying {S : sm_C} {d : Nat} {Φ : sm_Z → Prop} {I : sm_I} {L : sm_L} {R : sm_R} {x : Int32} (hm : en_mem ml_tb mlX (xLay, I, L, R)) (h : ∀ r : Int32, (r = 0 ∨ (0 ≤ x.toInt ∧ x.toInt < (I 125 (I 107 18).toNatClampNeg).toInt)) → Φ (some (.int r), (xLay, I, L, kM R))) : sm_wp sm_P S (d + 1) 149 0 [.ref 107, .int x] [] (xLay, I, L, kM R) (0, 0) Φ := by
  obtain ⟨l0, l1, ln, lc⟩ := ml_live hm
  have l0 : 0 ≤ (I 107 18).toInt := l0
  have l1 : (I 107 18).toInt ≤ 1 := l1
  have ln : ((I 107 18).toNatClampNeg : Int) = (I 107 18).toInt := ln
  have b : 0 ≤ (I 125 (I 107 18).toNatClampNeg).toInt ∧ (I 125 (I 107 18).toNatClampNeg).toInt ≤ 10 := ml_row hm (p := 125) (n := 2) (q := (0, 10)) (fun _ => rfl) _ (by omega)
  refine v_X12_isSaying_0 ⟨kl_in l0 (by omega), fun n1 e1 => mx_in (fun r hr h2 => ⟨r, I, L, rfl, hr, h r ?_⟩)⟩
  rcases h2 with h2 | h2
  · exact Or.inl h2
  · refine Or.inr ?_
    have s : n1.toInt = (I 125 (I 107 18).toNatClampNeg).toInt - 1 := by
      rw [e1, Int32.toInt_sub, kl_1]; exact en_bmod (by omega) (by omega) (Or.inl rfl)
    rw [s, kl_0] at h2
    omega
theorem mx_bearsSpan {S : sm_C} {d : Nat} {Φ : sm_Z → Prop} {I : sm_I} {L : sm_L} {R : sm_R} {x : Int32} (hm : en_mem ml_tb mlX (xLay, I, L, R)) (h0 : 0 ≤ x.toInt) (h1 : x.toInt < 260) (hx : 0 ≤ (I 130 x.toNatClampNeg).toInt) (h : ∀ r : Int32, Φ (some (.int r), (xLay, I, L, kM R))) : sm_wp sm_P S (d + 1) 101 0 [.ref 107, .int x] [] (xLay, I, L, kM R) (0, 0) Φ := by
  have n := kl_nat h0
  have v : vp_in x 260 := kl_in h0 (by omega)
  have bx : -1 ≤ (I 130 x.toNatClampNeg).toInt ∧ (I 130 x.toNatClampNeg).toInt ≤ 9 := ml_row hm (p := 130) (n := 260) (q := (-1, 9)) (fun _ => rfl) _ (by omega)
  have bby : -1 ≤ (I 131 x.toNatClampNeg).toInt ∧ (I 131 x.toNatClampNeg).toInt ≤ 9 := ml_row hm (p := 131) (n := 260) (q := (-1, 9)) (fun _ => rfl) _ (by omega)
  have fin : ∀ a b c : Int32, sm_wp sm_P S d 141 0 [.int a, .int b, .int c] [] (xLay, I, L, kM R) (0, 0) (fun z => ∃ (r5 : Int32) (I3 : sm_I) (L4 : sm_L), z = (some (.int r5), (xLay, I3, L4, kM R)) ∧ ((r5 = 0 → Φ (some (.int (0 : Int32)), (xLay, I3, L4, kM R))) ∧ (¬ r5 = 0 → Φ (some (.int (1 : Int32)), (xLay, I3, L4, kM R))))) := fun a b c => mx_in (fun r _ _ => ⟨r, I, L, rfl, fun _ => h _, fun _ => h _⟩)
  refine v_X12_bearsSpan_0 ⟨v, kl_in hx (by omega), fun n1 _ => ⟨v, fun _ => ⟨fun _ => h _, fun _ => ⟨fun _ => h _, fun _ => ⟨v, v, fin _ _ _⟩⟩⟩, fun hy => ⟨v, kl_in ?_ (by omega), fun n2 _ => ⟨fun _ => h _, fun _ => ⟨fun _ => h _, fun _ => ⟨v, v, fin _ _ _⟩⟩⟩⟩⟩⟩
  have : (I 131 x.toNatClampNeg).toInt ≠ -1 := fun c => hy (en_ofI (by rw [c]; decide))
  omega
theorem mx_bears5 {S : sm_C} {d : Nat} {Φ : sm_Z → Prop} {I : sm_I} {L : sm_L} {R : sm_R} {x2 x3 x4 : Int32} (l s : Nat) (hm : en_mem ml_tb mlX (xLay, I, L, R)) (hl : (l : Int) = (I 107 18).toInt) (hs : (s : Int) < (I 125 l).toInt) (e2 : x2.toInt = 10 * l + s) (hs9 : s ≤ 9) (hl1 : l ≤ 1) (h40 : 0 ≤ x4.toInt) (h41 : x4.toInt < (I 128 x2.toNatClampNeg).toInt) (hbad : Φ (some (.int (-4)), (xLay, I, L, kM R))) (hgo : ∀ y : Int32, (y = x3 ∨ y = x4) → sm_wp sm_P S (d + 1 + 1) 100 3 [.ref 107, .int x2, .int y, .int (x4 + 1)] [] (xLay, I, L, kM R) (0, 0) Φ) : ∀ (k : Nat) (x5 x6 : Int32), 0 ≤ x6.toInt → (I 129 ((4 : Int32) * x2 + x4).toNatClampNeg).toInt - x6.toInt ≤ k → sm_wp sm_P S (d + 1 + 1) 100 5 [.ref 107, .int x2, .int x3, .int x4, .int x5, .int x6] [] (xLay, I, L, kM R) (0, 0) Φ := by
  have n2 := kl_nat (i := x2) (by omega)
  have n4 := kl_nat h40
  have ba : 0 ≤ (I 128 x2.toNatClampNeg).toInt ∧ (I 128 x2.toNatClampNeg).toInt ≤ 4 := ml_row hm (p := 128) (n := 20) (q := (0, 4)) (fun _ => rfl) _ (by omega)
  have c4 : (4 : Int32).toInt = 4 := by decide
  have c3 : (3 : Int32).toInt = 3 := by decide
  have m1 : ((4 : Int32) * x2).toInt = 4 * x2.toInt := by rw [kl_mul (by rw [c4]; omega) (by rw [c4]; omega), c4]
  have m2 : ((4 : Int32) * x2 + x4).toInt = 4 * x2.toInt + x4.toInt := by rw [kl_add (by rw [m1]; omega) (by rw [m1]; omega), m1]
  have nm := kl_nat (i := (4 : Int32) * x2 + x4) (by omega)
  have bs : 0 ≤ (I 129 ((4 : Int32) * x2 + x4).toNatClampNeg).toInt ∧ (I 129 ((4 : Int32) * x2 + x4).toNatClampNeg).toInt ≤ 3 := ml_row hm (p := 129) (n := 80) (q := (0, 3)) (fun _ => rfl) _ (by omega)
  have v : vp_in ((4 : Int32) * x2 + x4) 80 := kl_in (by omega) (by omega)
  intro k
  induction k with
  | zero =>
    intro x5 x6 h0 hk
    refine v_X12_bears_5 ⟨v, fun _ => ⟨fun _ => hgo _ (Or.inl rfl), fun _ => ⟨fun _ => hgo _ (Or.inr rfl), fun _ => hgo _ (Or.inl rfl)⟩⟩, fun a => ?_⟩
    have := kl_nle a
    omega
  | succ k ih =>
    intro x5 x6 h0 hk
    refine v_X12_bears_5 ⟨v, fun _ => ⟨fun _ => hgo _ (Or.inl rfl), fun _ => ⟨fun _ => hgo _ (Or.inr rfl), fun _ => hgo _ (Or.inl rfl)⟩⟩, fun a n3 e3 => ?_⟩
    have a := kl_nle a
    have t := kl_inc h0 a
    have n6 := kl_nat h0
    have m3 : ((3 : Int32) * ((4 : Int32) * x2 + x4)).toInt = 3 * (4 * x2.toInt + x4.toInt) := by rw [kl_mul (by rw [c3, m2]; omega) (by rw [c3, m2]; omega), c3, m2]
    have m4 : n3.toInt = 3 * (4 * x2.toInt + x4.toInt) + x6.toInt := by rw [e3, kl_add (by rw [m3]; omega) (by rw [m3]; omega), m3]
    have n3n := kl_nat (i := n3) (by omega)
    have X := (hm.2.2.2.2.2.2.1 l hl).2 s x4.toNatClampNeg x6.toNatClampNeg hs
      (by
        show (x4.toNatClampNeg : Int) < (I 128 (10 * l + s)).toInt
        have : x2.toNatClampNeg = 10 * l + s := by omega
        rw [← this, n4]; exact h41)
      (by
        show (x6.toNatClampNeg : Int) < (I 129 (4 * (10 * l + s) + x4.toNatClampNeg)).toInt
        have : ((4 : Int32) * x2 + x4).toNatClampNeg = 4 * (10 * l + s) + x4.toNatClampNeg := by omega
        rw [← this, n6]; exact a)
    have X : 0 ≤ (I 130 n3.toNatClampNeg).toInt := by
      have : n3.toNatClampNeg = 3 * (4 * (10 * l + s) + x4.toNatClampNeg) + x6.toNatClampNeg := by omega
      rw [this]; exact X
    exact mx_bearsSpan hm (by omega) (by omega) X (fun r => ⟨r, I, L, rfl, fun _ => hbad, fun _ => ⟨fun _ => ih _ _ (by omega) (by omega), fun _ => ⟨fun _ => ih _ _ (by omega) (by omega), fun _ => ih _ _ (by omega) (by omega)⟩⟩⟩)
theorem mx_bears3 {S : sm_C} {d : Nat} {Φ : sm_Z → Prop} {I : sm_I} {L : sm_L} {R : sm_R} {x2 : Int32} (l s : Nat) (hm : en_mem ml_tb mlX (xLay, I, L, R)) (hl : (l : Int) = (I 107 18).toInt) (hs : (s : Int) < (I 125 l).toInt) (e2 : x2.toInt = 10 * l + s) (hs9 : s ≤ 9) (hl1 : l ≤ 1) (h : ∀ r : Int32, -4 ≤ r.toInt → r.toInt ≤ 3 → Φ (some (.int r), (xLay, I, L, kM R))) : ∀ (k : Nat) (x3 x4 : Int32), 0 ≤ x4.toInt → (I 128 x2.toNatClampNeg).toInt - x4.toInt ≤ k → -4 ≤ x3.toInt → x3.toInt ≤ 3 → sm_wp sm_P S (d + 1 + 1) 100 3 [.ref 107, .int x2, .int x3, .int x4] [] (xLay, I, L, kM R) (0, 0) Φ := by
  have n2 := kl_nat (i := x2) (by omega)
  have ba : 0 ≤ (I 128 x2.toNatClampNeg).toInt ∧ (I 128 x2.toNatClampNeg).toInt ≤ 4 := ml_row hm (p := 128) (n := 20) (q := (0, 4)) (fun _ => rfl) _ (by omega)
  have v : vp_in x2 20 := kl_in (by omega) (by omega)
  intro k
  induction k with
  | zero =>
    intro x3 x4 h0 hk a b
    refine v_X12_bears_3 ⟨v, fun _ => h _ a b, fun q => ?_⟩
    have := kl_nle q
    omega
  | succ k ih =>
    intro x3 x4 h0 hk a b
    refine v_X12_bears_3 ⟨v, fun _ => h _ a b, fun q => ?_⟩
    have q := kl_nle q
    have t := kl_inc h0 q
    refine mx_bears5 l s hm hl hs e2 hs9 hl1 h0 q (h _ (by decide) (by decide)) (fun y hy => ?_) 3 1 0 (by rw [kl_0]; omega) ?_
    · refine ih y (x4 + 1) (by omega) (by omega) ?_ ?_
      · rcases hy with e | e <;> subst e <;> omega
      · rcases hy with e | e <;> subst e <;> omega
    · rw [kl_0]
      have n4 := kl_nat h0
      have c4 : (4 : Int32).toInt = 4 := by decide
      have m1 : ((4 : Int32) * x2).toInt = 4 * x2.toInt := by rw [kl_mul (by rw [c4]; omega) (by rw [c4]; omega), c4]
      have m2 : ((4 : Int32) * x2 + x4).toInt = 4 * x2.toInt + x4.toInt := by rw [kl_add (by rw [m1]; omega) (by rw [m1]; omega), m1]
      have nm := kl_nat (i := (4 : Int32) * x2 + x4) (by omega)
      have bs : 0 ≤ (I 129 ((4 : Int32) * x2 + x4).toNatClampNeg).toInt ∧ (I 129 ((4 : Int32) * x2 + x4).toNatClampNeg).toInt ≤ 3 := ml_row hm (p := 129) (n := 80) (q := (0, 3)) (fun _ => rfl) _ (by omega)
      omega
theorem mlh_0 {Sc : sm_C} : en_hold ml_tb mlX sm_P Sc mlc_0 := by
  intro d hd vs w hv hm _
  obtain ⟨lay, I, L, R⟩ := w
  obtain ⟨vs1, rfl, hv1⟩ := kl_vr (q := 107) rfl hv
  obtain ⟨x1, vs2, rfl, b1, hv2⟩ := kl_vi hv1
  obtain rfl := kl_v0 hv2
  obtain rfl : lay = xLay := hm.2.2.2.2.1
  have e : kM R = R := ml_R hm
  obtain ⟨d, rfl⟩ : ∃ d', d = d' + 1 + 1 := ⟨d - 2, by have : 2 ≤ d := hd; omega⟩
  have fin : ∀ r : Int32, -4 ≤ r.toInt → r.toInt ≤ 3 → en_pr mlc_0.2.2.2.1 (some (.int r)) ∧ en_mem ml_tb mlX (xLay, I, L, R) ∧ en_fr mlc_0.2.2.2.2.1 (xLay, I, L, R) (xLay, I, L, R) := fun r a b => ⟨Or.inl ⟨rfl, a, b⟩, hm, en_fr_rf⟩
  show sm_wp sm_P Sc (d + 1 + 1) 100 0 _ [] (xLay, I, L, R) (0, 0) _
  rw [← e]
  refine v_X12_bears_0 (mx_isSaying hm (fun r hr => ⟨r, I, L, rfl, fun _ => ?_, fun h1 n4 e4 => ?_⟩))
  · rw [e]; exact fin _ (by decide) (by decide)
  obtain ⟨a0, a1⟩ := hr.resolve_left h1
  obtain ⟨l0, l1, ln, lc⟩ := ml_live hm
  have l0 : 0 ≤ (I 107 18).toInt := l0
  have l1 : (I 107 18).toInt ≤ 1 := l1
  have ln : ((I 107 18).toNatClampNeg : Int) = (I 107 18).toInt := ln
  have bsay : 0 ≤ (I 125 (I 107 18).toNatClampNeg).toInt ∧ (I 125 (I 107 18).toNatClampNeg).toInt ≤ 10 := ml_row hm (p := 125) (n := 2) (q := (0, 10)) (fun _ => rfl) _ (by omega)
  have n1 := kl_nat a0
  have c10 : (10 : Int32).toInt = 10 := by decide
  have m1 : ((10 : Int32) * I 107 18).toInt = 10 * (I 107 18).toInt := by rw [kl_mul (by rw [c10]; omega) (by rw [c10]; omega), c10]
  have m2 : n4.toInt = 10 * ((I 107 18).toNatClampNeg : Int) + (x1.toNatClampNeg : Int) := by rw [e4, kl_add (by rw [m1]; omega) (by rw [m1]; omega), m1, ln, n1]
  have nn := kl_nat (i := n4) (by omega)
  have ba : 0 ≤ (I 128 n4.toNatClampNeg).toInt ∧ (I 128 n4.toNatClampNeg).toInt ≤ 4 := ml_row hm (p := 128) (n := 20) (q := (0, 4)) (fun _ => rfl) _ (by omega)
  have c2 : (-2 : Int32).toInt = -2 := by decide
  exact mx_bears3 (I 107 18).toNatClampNeg x1.toNatClampNeg hm ln (by rw [n1]; exact a1) m2 (by omega) (by omega) (fun r p q => by rw [e]; exact fin r p q) 4 (-2) 0 (by rw [kl_0]; omega) (by rw [kl_0]; omega) (by rw [c2]; omega) (by rw [c2]; omega)
end
section
/-! choices: a number that the world tells -/
def ml_ch (I : sm_I) (x : Int32) : Int32 := if (10 : Int32) ≤ x then (if (60 : Int32) ≤ x then (if I 152 (x - 60).toNatClampNeg = -1 then 0 else 2) else (if I 142 (x - 10).toNatClampNeg = -1 then 0 else 2)) else I 128 ((10 : Int32) * I 107 18 + x).toNatClampNeg
theorem mx_choices {S : sm_C} {d : Nat} {Φ : sm_Z → Prop} {I : sm_I} {L : sm_L} {R : sm_R} {x : Int32} (hm : en_mem ml_tb mlX (xLay, I, L, R)) (h0 : 0 ≤ x.toInt) (h1 : x.toInt ≤ 69) (hh : x.toInt ≤ 54 ∨ 60 ≤ x.toInt) (h : 0 ≤ (ml_ch I x).toInt → (ml_ch I x).toInt ≤ 4 → Φ (some (.int (ml_ch I x)), (xLay, I, L, kM R))) : sm_wp sm_P S d 114 0 [.ref 107, .int x] [] (xLay, I, L, kM R) (0, 0) Φ := by
  have c10 : (10 : Int32).toInt = 10 := by decide
  have c60 : (60 : Int32).toInt = 60 := by decide
  have t0 : (0 : Int32).toInt = 0 := by decide
  have t2 : (2 : Int32).toInt = 2 := by decide
  refine v_X12_choices_0 ⟨fun a => ⟨fun b => ⟨?_, fun n1 e1 => ⟨fun c => ?_, fun c => ?_⟩⟩, fun b => ⟨?_, fun n1 e1 => ⟨fun c => ?_, fun c => ?_⟩⟩⟩, fun a n6 e6 => ⟨?_, ?_⟩⟩
  · have b' := kl_le.mp b
    rw [c60] at b'
    have s : (x - 60).toInt = x.toInt - 60 := by rw [Int32.toInt_sub, c60]; exact en_bmod (by omega) (by omega) (Or.inl rfl)
    exact kl_in (by omega) (by omega)
  · have e : ml_ch I x = 0 := by unfold ml_ch; rw [if_pos a, if_pos b, if_pos (e1 ▸ c)]
    rw [e] at h; exact h (by rw [t0]; omega) (by rw [t0]; omega)
  · have e : ml_ch I x = 2 := by unfold ml_ch; rw [if_pos a, if_pos b, if_neg (e1 ▸ c)]
    rw [e] at h; exact h (by rw [t2]; omega) (by rw [t2]; omega)
  · have a' := kl_le.mp a
    have b' := kl_nle b
    rw [c10] at a'
    rw [c60] at b'
    have s : (x - 10).toInt = x.toInt - 10 := by rw [Int32.toInt_sub, c10]; exact en_bmod (by omega) (by omega) (Or.inl rfl)
    exact kl_in (by omega) (by omega)
  · have e : ml_ch I x = 0 := by unfold ml_ch; rw [if_pos a, if_neg b, if_pos (e1 ▸ c)]
    rw [e] at h; exact h (by rw [t0]; omega) (by rw [t0]; omega)
  · have e : ml_ch I x = 2 := by unfold ml_ch; rw [if_pos a, if_neg b, if_neg (e1 ▸ c)]
    rw [e] at h; exact h (by rw [t2]; omega) (by rw [t2]; omega)
  all_goals
    obtain ⟨l0, l1, ln, lc⟩ := ml_live hm
    have l0 : 0 ≤ (I 107 18).toInt := l0
    have l1 : (I 107 18).toInt ≤ 1 := l1
    have a' := kl_nle a
    rw [c10] at a'
    have m1 : ((10 : Int32) * I 107 18).toInt = 10 * (I 107 18).toInt := by rw [kl_mul (by rw [c10]; omega) (by rw [c10]; omega), c10]
    have m2 : n6.toInt = 10 * (I 107 18).toInt + x.toInt := by rw [e6, kl_add (by rw [m1]; omega) (by rw [m1]; omega), m1]
  · exact kl_in (by omega) (by omega)
  · have nn := kl_nat (i := n6) (by omega)
    have ba : 0 ≤ (I 128 n6.toNatClampNeg).toInt ∧ (I 128 n6.toNatClampNeg).toInt ≤ 4 := ml_row hm (p := 128) (n := 20) (q := (0, 4)) (fun _ => rfl) _ (by omega)
    have e : ml_ch I x = I 128 n6.toNatClampNeg := by unfold ml_ch; rw [if_neg a, e6]
    rw [e] at h; exact h ba.1 ba.2
end
section
/-! calls by contract; what a call leaves -/
def ml_ws (W1 W2 : en_W) : Bool := W1.all (fun q => match q.2 with
  | [] => en_wall W2 q.1
  | l => l.all (fun i => en_wok W2 q.1 i))
theorem ml_ws_ok {W1 W2 : en_W} (h : ml_ws W1 W2 = true) {p j : Nat} (hw : en_wok W2 p j = false) : en_wok W1 p j = false := by
  cases e : en_wok W1 p j with
  | false => rfl
  | true =>
    exfalso
    obtain ⟨⟨a, l⟩, h1, h2⟩ := List.any_eq_true.mp e
    obtain ⟨h2, h3⟩ := Bool.and_eq_true_iff.mp h2
    have h2 : a = p := Nat.eq_of_beq_eq_true h2
    subst h2
    have h4 := List.all_eq_true.mp h _ h1
    cases l with
    | nil =>
      obtain ⟨⟨b, l2⟩, g1, g2⟩ := List.any_eq_true.mp h4
      obtain ⟨g2, g3⟩ := Bool.and_eq_true_iff.mp g2
      have : en_wok W2 a j = true := List.any_eq_true.mpr ⟨(b, l2), g1, by
        cases l2 with
        | nil => rw [g2]; rfl
        | cons _ _ => cases g3⟩
      rw [this] at hw; cases hw
    | cons x l =>
      obtain ⟨i, k1, k2⟩ := List.any_eq_true.mp h3
      have k2 : i = j := Nat.eq_of_beq_eq_true k2
      subst k2
      have := List.all_eq_true.mp h4 _ k1
      rw [this] at hw; cases hw
theorem ml_frw {W1 W2 : en_W} {w w' : sm_W} (h : en_fr W1 w w') (hs : ml_ws W1 W2 = true) : en_fr W2 w w' := ⟨h.1, fun p j hw => h.2 p j (ml_ws_ok hs hw)⟩
theorem ml_frt {W1 W : en_W} {w0 w w' : sm_W} (h : en_fr W w0 w) (h1 : en_fr W1 w w') (hs : ml_ws W1 W = true) : en_fr W w0 w' := en_fr_tr h (ml_frw h1 hs)
theorem ml_g {W : en_W} {a b : List (Nat × Nat)} {I I' : sm_I} {L L' : sm_L} {R R' : sm_R} (h : en_fr W (a, I, L, R) (b, I', L', R')) {p j : Nat} (hw : en_wok W p j = false) : I' p j = I p j := (h.2 p j hw).1
theorem ml_pf0 {w : sm_W} : en_pf [] w := fun _ h => absurd h List.not_mem_nil
theorem ml_we2 {I : sm_I} {L : sm_L} {R : sm_R} {p j n : Nat} {x : Int32} {q : Int × Int} (hm : en_mem ml_tb mlX (xLay, I, L, R)) (hf : en_fix ml_tb p j = false) (e : en_int ml_tb p j = bif Nat.blt j n then some q else none) (hx : q.1 ≤ x.toInt ∧ x.toInt ≤ q.2) : en_mem ml_tb mlX (xLay, sm_up I p j x, L, R) := ml_we hm (mlX_ok.1 _ (I, L, R) _ _ _ hf hm.2.2.2.2) e hx
theorem ml_ci {S : sm_C} {d : Nat} {c : en_Ct} {vs : List Value} {I : sm_I} {L : sm_L} {R : sm_R} {lo hi : Int} {C : Int32 → sm_I → sm_L → sm_R → Prop} (h : en_hold ml_tb mlX sm_P S c) (hd : c.2.2.2.2.2 ≤ d) (hv : en_pvs c.2.1 vs) (hm : en_mem ml_tb mlX (xLay, I, L, R)) (hp : en_pf c.2.2.1 (xLay, I, L, R)) (hr : c.2.2.2.1 = (0, lo, hi)) (k : ∀ (r : Int32) (I' : sm_I) (L' : sm_L) (R' : sm_R), lo ≤ r.toInt → r.toInt ≤ hi → en_mem ml_tb mlX (xLay, I', L', R') → en_fr c.2.2.2.2.1 (xLay, I, L, R) (xLay, I', L', R') → C r I' L' R') : sm_wp sm_P S d c.1 0 vs [] (xLay, I, L, kM R) (0, 0) (fun z => ∃ (r : Int32) (I2 : sm_I) (L2 : sm_L) (R2 : sm_R), z = (some (.int r), (xLay, I2, L2, kM R2)) ∧ C r I2 L2 R2) := by
  have e0 : kM R = R := ml_R hm
  rw [e0]
  refine sm_wp_mono (h d hd vs _ hv hm hp) (fun z q => ?_)
  obtain ⟨o, lay, I2, L2, R2⟩ := z
  obtain ⟨q1, q2, q3⟩ := q
  obtain rfl : lay = xLay := q2.2.2.2.2.1
  have e : kM R2 = R2 := ml_R q2
  rw [hr] at q1
  have q1 : en_pr (0, lo, hi) o := q1
  cases o with
  | none => have q1 : (0 : Nat) = 9 := q1; omega
  | some v =>
    rcases q1 with q1 | ⟨q1, -⟩
    · cases v with
      | int r => exact ⟨r, I2, L2, R2, by rw [e], k r I2 L2 R2 q1.2.1 q1.2.2 q2 q3⟩
      | long _ => have q1 : (0 : Nat) = 5 := q1; omega
      | null => have q1 : (0 : Nat) = 1 := q1; omega
      | ref p => have q1 : (0 : Nat) = 2 := q1.1; omega
      | float _ => exact q1.elim
      | double _ => exact q1.elim
      | retAddr _ => exact q1.elim
    · have q1 : (0 : Nat) = 3 := q1
      omega
theorem ml_cv {S : sm_C} {d : Nat} {c : en_Ct} {vs : List Value} {I : sm_I} {L : sm_L} {R : sm_R} {C : sm_I → sm_L → sm_R → Prop} (h : en_hold ml_tb mlX sm_P S c) (hd : c.2.2.2.2.2 ≤ d) (hv : en_pvs c.2.1 vs) (hm : en_mem ml_tb mlX (xLay, I, L, R)) (hp : en_pf c.2.2.1 (xLay, I, L, R)) (hr : c.2.2.2.1 = (9, 0, 0)) (k : ∀ (I' : sm_I) (L' : sm_L) (R' : sm_R), en_mem ml_tb mlX (xLay, I', L', R') → en_fr c.2.2.2.2.1 (xLay, I, L, R) (xLay, I', L', R') → C I' L' R') : sm_wp sm_P S d c.1 0 vs [] (xLay, I, L, kM R) (0, 0) (fun z => ∃ (I2 : sm_I) (L2 : sm_L) (R2 : sm_R), z = (none, (xLay, I2, L2, kM R2)) ∧ C I2 L2 R2) := by
  have e0 : kM R = R := ml_R hm
  rw [e0]
  refine sm_wp_mono (h d hd vs _ hv hm hp) (fun z q => ?_)
  obtain ⟨o, lay, I2, L2, R2⟩ := z
  obtain ⟨q1, q2, q3⟩ := q
  obtain rfl : lay = xLay := q2.2.2.2.2.1
  have e : kM R2 = R2 := ml_R q2
  rw [hr] at q1
  have q1 : en_pr (9, 0, 0) o := q1
  cases o with
  | none => exact ⟨I2, L2, R2, by rw [e], k I2 L2 R2 q2 q3⟩
  | some v =>
    rcases q1 with q1 | ⟨q1, -⟩
    · cases v with
      | int r => have q1 : (9 : Nat) = 0 := q1.1; omega
      | long _ => have q1 : (9 : Nat) = 5 := q1; omega
      | null => have q1 : (9 : Nat) = 1 := q1; omega
      | ref p => have q1 : (9 : Nat) = 2 := q1.1; omega
      | float _ => exact q1.elim
      | double _ => exact q1.elim
      | retAddr _ => exact q1.elim
    · have q1 : (9 : Nat) = 3 := q1
      omega
/-- a method by hand: its contract from what is shown in a world of the invariant -/
theorem ml_top {S : sm_C} {d f : Nat} {vs : List Value} {t : en_Fd} {W : en_W} {w : sm_W} (hm : en_mem ml_tb mlX w) (h : ∀ (I : sm_I) (L : sm_L) (R : sm_R), w = (xLay, I, L, R) → en_mem ml_tb mlX (xLay, I, L, R) → sm_wp sm_P S d f 0 vs [] (xLay, I, L, kM R) (0, 0) (fun z => ∃ (o : Option Value) (I2 : sm_I) (L2 : sm_L) (R2 : sm_R), z = (o, (xLay, I2, L2, kM R2)) ∧ en_pr t o ∧ en_mem ml_tb mlX (xLay, I2, L2, R2) ∧ en_fr W (xLay, I, L, R) (xLay, I2, L2, R2))) : sm_wp sm_P S d f 0 vs [] w (0, 0) (fun z => en_pr t z.1 ∧ en_mem ml_tb mlX z.2 ∧ en_fr W w z.2) := by
  obtain ⟨lay, I, L, R⟩ := w
  obtain rfl : lay = xLay := hm.2.2.2.2.1
  have e : kM R = R := ml_R hm
  have q := h I L R rfl hm
  rw [e] at q
  refine sm_wp_mono q (fun z q => ?_)
  obtain ⟨o, I2, L2, R2, rfl, q1, q2, q3⟩ := q
  have e2 : kM R2 = R2 := ml_R q2
  rw [e2]
  exact ⟨q1, q2, q3⟩
theorem ml_i3 {x : Int32} (h0 : 0 ≤ x.toInt) (h3 : x.toInt ≤ 3) : x = 0 ∨ x = 1 ∨ x = 2 ∨ x = 3 := by
  have t0 : (0 : Int32).toInt = 0 := by decide
  have t1 : (1 : Int32).toInt = 1 := by decide
  have t2 : (2 : Int32).toInt = 2 := by decide
  have t3 : (3 : Int32).toInt = 3 := by decide
  rcases (by omega : x.toInt = 0 ∨ x.toInt = 1 ∨ x.toInt = 2 ∨ x.toInt = 3) with e | e | e | e
  · exact Or.inl (en_ofI (by rw [e, t0]))
  · exact Or.inr (Or.inl (en_ofI (by rw [e, t1])))
  · exact Or.inr (Or.inr (Or.inl (en_ofI (by rw [e, t2]))))
  · exact Or.inr (Or.inr (Or.inr (en_ofI (by rw [e, t3]))))
theorem ml_b3 {x : Int32} (h0 : 0 ≤ x.toInt) (h3 : x.toInt ≤ 3) : 0 ≤ (vp_nar .byte (x.toInt8.toInt32)).toInt ∧ (vp_nar .byte (x.toInt8.toInt32)).toInt ≤ 3 := by
  rcases ml_i3 h0 h3 with e | e | e | e <;> subst e <;> decide
theorem ml_ad {x y : Int32} {a b : Int} (hx : x.toInt = a) (hy : y.toInt = b) (h1 : -2147483648 ≤ a + b) (h2 : a + b ≤ 2147483647) : (x + y).toInt = a + b := by rw [kl_add (by omega) (by omega), hx, hy]
theorem ml_mu {x y : Int32} {a b : Int} (hx : x.toInt = a) (hy : y.toInt = b) (h1 : -2147483648 ≤ a * b) (h2 : a * b ≤ 2147483647) : (x * y).toInt = a * b := by rw [kl_mul (by rw [hx, hy]; exact h1) (by rw [hx, hy]; exact h2), hx, hy]
theorem ml_in1 {x : Int32} (h : x.toInt ≤ 2147483646) : (x + 1).toInt = x.toInt + 1 := by
  have r := en_crange (x := x)
  rw [kl_add (by rw [kl_1]; omega) (by rw [kl_1]; omega), kl_1]
theorem ml_de1 {x : Int32} (h : -2147483647 ≤ x.toInt) : (x + (-1 : Int32)).toInt = x.toInt - 1 := by
  have r := en_crange (x := x)
  have m : (-1 : Int32).toInt = -1 := by decide
  rw [kl_add (by rw [m]; omega) (by rw [m]; omega), m]; omega
end
