section
/-! conditions of the reference, further -/
theorem u_X12_tellAll_1 {S : sm_C} {d : Nat} {Φ : sm_Z → Prop} {I : sm_I} {L : sm_L} {R : sm_R} {x1 : Int32} {x2 : Int32} (h : ((x2 = 0 → Φ (none, (xLay, I, L, (kM R)))) ∧ (¬ x2 = 0 → (((I 107 13) = 0 → (vp_in x1 80) ∧ ∀ n1 : Int32, n1 = (((3 : Int32) * x1) + (I 129 x1.toNatClampNeg)) → sm_wp sm_P S d 201 0 [.ref 107, .int n1] [] (xLay, I, L, (kM R)) (0, 0) (fun z => ∃ (I2 : sm_I) (L3 : sm_L) (R4 : sm_R), z = (none, (xLay, I2, L3, (kM R4))) ∧ (((I2 107 13) ≤ 0 → (vp_in x1 80) ∧ ∀ n6 : Int32, n6 = ((I2 129 x1.toNatClampNeg) + (1 : Int32)) → (vp_in x1 80) ∧ ∀ I7 : sm_I, I7 = (sm_up I2 129 x1.toNatClampNeg n6) → sm_wp sm_P S d 143 0 [.ref 107, .int (29 : Int32)] [] (xLay, I7, L3, (kM R4)) (0, 0) (fun z => ∃ (r11 : Int32) (I8 : sm_I) (L9 : sm_L) (R10 : sm_R), z = (some (.int r11), (xLay, I8, L9, (kM R10))) ∧ ((r11 = 0 → ((r11 = 0 → sm_wp sm_P S (d + 1) 196 1 [.ref 107, .int x1, .int r11] [] (xLay, I8, L9, (kM R10)) (0, 0) Φ) ∧ (¬ r11 = 0 → sm_wp sm_P S d 136 0 [.ref 107] [] (xLay, I8, L9, (kM R10)) (0, 0) (fun z => ∃ (I12 : sm_I) (L13 : sm_L) (R14 : sm_R), z = (none, (xLay, I12, L13, (kM R14))) ∧ sm_wp sm_P S (d + 1) 196 1 [.ref 107, .int x1, .int r11] [] (xLay, I12, L13, (kM R14)) (0, 0) Φ)))) ∧ (¬ r11 = 0 → (vp_in x1 80) ∧ (((I8 129 x1.toNatClampNeg) = (3 : Int32) → sm_wp sm_P S d 123 0 [.ref 107, .int (2 : Int32)] [] (xLay, I8, L9, (kM R10)) (0, 0) (fun z => ∃ (I24 : sm_I) (L25 : sm_L) (R26 : sm_R), z = (none, (xLay, I24, L25, (kM R26))) ∧ ((r11 = 0 → sm_wp sm_P S (d + 1) 196 1 [.ref 107, .int x1, .int r11] [] (xLay, I24, L25, (kM R26)) (0, 0) Φ) ∧ (¬ r11 = 0 → sm_wp sm_P S d 136 0 [.ref 107] [] (xLay, I24, L25, (kM R26)) (0, 0) (fun z => ∃ (I28 : sm_I) (L29 : sm_L) (R30 : sm_R), z = (none, (xLay, I28, L29, (kM R30))) ∧ sm_wp sm_P S (d + 1) 196 1 [.ref 107, .int x1, .int r11] [] (xLay, I28, L29, (kM R30)) (0, 0) Φ))))) ∧ (¬ (I8 129 x1.toNatClampNeg) = (3 : Int32) → ((r11 = 0 → sm_wp sm_P S (d + 1) 196 1 [.ref 107, .int x1, .int r11] [] (xLay, I8, L9, (kM R10)) (0, 0) Φ) ∧ (¬ r11 = 0 → sm_wp sm_P S d 136 0 [.ref 107] [] (xLay, I8, L9, (kM R10)) (0, 0) (fun z => ∃ (I18 : sm_I) (L19 : sm_L) (R20 : sm_R), z = (none, (xLay, I18, L19, (kM R20))) ∧ sm_wp sm_P S (d + 1) 196 1 [.ref 107, .int x1, .int r11] [] (xLay, I18, L19, (kM R20)) (0, 0) Φ))))))))) ∧ (¬ (I2 107 13) ≤ 0 → Φ (none, (xLay, I2, L3, (kM R4))))))) ∧ (¬ (I 107 13) = 0 → Φ (none, (xLay, I, L, (kM R)))))))) : sm_wp sm_P S (d + 1) 196 1 [.ref 107, .int x1, .int x2] [] (xLay, I, L, (kM R)) (0, 0) Φ := sm_wp_step (⟨fun q41 => ((h).1 q41), fun q41 => ⟨fun q40 => ⟨(((((h).2 q41)).1 q40)).1, sm_cvR (((((((h).2 q41)).1 q40)).2 _ rfl)) (fun I2 L3 R4 q39 => ⟨fun q38 => ⟨(((q39).1 q38)).1, ⟨(((((q39).1 q38)).2 _ rfl)).1, sm_ciR (((((((q39).1 q38)).2 _ rfl)).2 _ rfl)) (fun r11 I8 L9 R10 q37 => ⟨fun q36 => ⟨fun q17 => ((((q37).1 q36)).1 q17), fun q17 => sm_cvR (((((q37).1 q36)).2 q17)) (fun I12 L13 R14 q16 => q16)⟩, fun q36 => ⟨(((q37).2 q36)).1, ⟨fun q35 => sm_cvR ((((((q37).2 q36)).2).1 q35)) (fun I24 L25 R26 q34 => ⟨fun q33 => ((q34).1 q33), fun q33 => sm_cvR (((q34).2 q33)) (fun I28 L29 R30 q32 => q32)⟩), fun q35 => ⟨fun q23 => (((((((q37).2 q36)).2).2 q35)).1 q23), fun q23 => sm_cvR ((((((((q37).2 q36)).2).2 q35)).2 q23)) (fun I18 L19 R20 q22 => q22)⟩⟩⟩⟩)⟩⟩, fun q38 => ((q39).2 q38)⟩)⟩, fun q40 => ((((h).2 q41)).2 q40)⟩⟩)
theorem u_X12_tellOpen_0 {S : sm_C} {d : Nat} {Φ : sm_Z → Prop} {I : sm_I} {L : sm_L} {R : sm_R} (h : sm_wp sm_P S d 136 0 [.ref 107] [] (xLay, I, L, (kM R)) (0, 0) (fun z => ∃ (I1 : sm_I) (L2 : sm_L) (R3 : sm_R), z = (none, (xLay, I1, L2, (kM R3))) ∧ sm_wp sm_P S d 154 0 [.ref 107, .int (2 : Int32)] [] (xLay, I1, L2, (kM R3)) (0, 0) (fun z => ∃ (r8 : Int32) (I5 : sm_I) (L6 : sm_L) (R7 : sm_R), z = (some (.int r8), (xLay, I5, L6, (kM R7))) ∧ sm_wp sm_P S d 165 0 [.ref 107, .int (31 : Int32)] [] (xLay, I5, L6, (kM R7)) (0, 0) (fun z => ∃ (I9 : sm_I) (L10 : sm_L) (R11 : sm_R), z = (none, (xLay, I9, L10, (kM R11))) ∧ (((I9 107 13) ≤ 0 → sm_wp sm_P S d 154 0 [.ref 107, .int (2 : Int32)] [] (xLay, I9, L10, (kM R11)) (0, 0) (fun z => ∃ (r16 : Int32) (I13 : sm_I) (L14 : sm_L) (R15 : sm_R), z = (some (.int r16), (xLay, I13, L14, (kM R15))) ∧ (vp_in (I13 107 19) 2) ∧ ∀ n17 : Int32, n17 = (((240 : Int32) + ((4 : Int32) * (I13 107 19))) + (I13 134 (I13 107 19).toNatClampNeg)) → (((I13 107 13) = 0 → ((r8 = (-1 : Int32) → sm_wp sm_P S (d + 1) 198 7 [.ref 107, .int r8, .int (I9 107 11), .int r16, .int n17] [] (xLay, I13, L14, (kM R15)) (0, 0) Φ) ∧ (¬ r8 = (-1 : Int32) → ∀ n18 : Int32, n18 = (((10 : Int32) * (I13 107 19)) + r8) → (vp_in n18 20) ∧ (((I13 135 n18.toNatClampNeg) = (-1 : Int32) → sm_wp sm_P S (d + 1) 198 7 [.ref 107, .int r8, .int (I9 107 11), .int r16, .int n17] [] (xLay, I13, L14, (kM R15)) (0, 0) Φ) ∧ (¬ (I13 135 n18.toNatClampNeg) = (-1 : Int32) → sm_wp sm_P S d 213 0 [.ref 107, .int (5 : Int32), .int (I1 107 11)] [] (xLay, I13, L14, (kM R15)) (0, 0) (fun z => ∃ (I19 : sm_I) (L20 : sm_L) (R21 : sm_R), z = (none, (xLay, I19, L20, (kM R21))) ∧ sm_wp sm_P S (d + 1) 198 7 [.ref 107, .int r8, .int (I9 107 11), .int r16, .int n17] [] (xLay, I19, L20, (kM R21)) (0, 0) Φ)))))) ∧ (¬ (I13 107 13) = 0 → sm_wp sm_P S (d + 1) 198 7 [.ref 107, .int r8, .int (I9 107 11), .int r16, .int n17] [] (xLay, I13, L14, (kM R15)) (0, 0) Φ)))) ∧ (¬ (I9 107 13) ≤ 0 → (vp_in (I9 107 19) 2) ∧ ∀ n28 : Int32, n28 = (((240 : Int32) + ((4 : Int32) * (I9 107 19))) + (I9 134 (I9 107 19).toNatClampNeg)) → (((I9 107 13) = 0 → ((r8 = (-1 : Int32) → sm_wp sm_P S (d + 1) 198 7 [.ref 107, .int r8, .int (I9 107 11), .int (0 : Int32), .int n28] [] (xLay, I9, L10, (kM R11)) (0, 0) Φ) ∧ (¬ r8 = (-1 : Int32) → ∀ n29 : Int32, n29 = (((10 : Int32) * (I9 107 19)) + r8) → (vp_in n29 20) ∧ (((I9 135 n29.toNatClampNeg) = (-1 : Int32) → sm_wp sm_P S (d + 1) 198 7 [.ref 107, .int r8, .int (I9 107 11), .int (0 : Int32), .int n28] [] (xLay, I9, L10, (kM R11)) (0, 0) Φ) ∧ (¬ (I9 135 n29.toNatClampNeg) = (-1 : Int32) → sm_wp sm_P S d 213 0 [.ref 107, .int (5 : Int32), .int (I1 107 11)] [] (xLay, I9, L10, (kM R11)) (0, 0) (fun z => ∃ (I30 : sm_I) (L31 : sm_L) (R32 : sm_R), z = (none, (xLay, I30, L31, (kM R32))) ∧ sm_wp sm_P S (d + 1) 198 7 [.ref 107, .int r8, .int (I9 107 11), .int (0 : Int32), .int n28] [] (xLay, I30, L31, (kM R32)) (0, 0) Φ)))))) ∧ (¬ (I9 107 13) = 0 → sm_wp sm_P S (d + 1) 198 7 [.ref 107, .int r8, .int (I9 107 11), .int (0 : Int32), .int n28] [] (xLay, I9, L10, (kM R11)) (0, 0) Φ)))))))) : sm_wp sm_P S (d + 1) 198 0 [.ref 107] [] (xLay, I, L, (kM R)) (0, 0) Φ := sm_wp_step (sm_cvR (h) (fun I1 L2 R3 q41 => sm_ciR (q41) (fun r8 I5 L6 R7 q40 => sm_cvR (q40) (fun I9 L10 R11 q39 => ⟨fun q38 => sm_ciR (((q39).1 q38)) (fun r16 I13 L14 R15 q27 => ⟨(q27).1, ⟨fun q26 => ⟨fun q25 => ((((((q27).2 _ rfl)).1 q26)).1 q25), fun q25 => ⟨((((((((q27).2 _ rfl)).1 q26)).2 q25) _ rfl)).1, ⟨fun q24 => ((((((((((q27).2 _ rfl)).1 q26)).2 q25) _ rfl)).2).1 q24), fun q24 => sm_cvR (((((((((((q27).2 _ rfl)).1 q26)).2 q25) _ rfl)).2).2 q24)) (fun I19 L20 R21 q23 => q23)⟩⟩⟩, fun q26 => ((((q27).2 _ rfl)).2 q26)⟩⟩), fun q38 => ⟨(((q39).2 q38)).1, ⟨fun q37 => ⟨fun q36 => ((((((((q39).2 q38)).2 _ rfl)).1 q37)).1 q36), fun q36 => ⟨((((((((((q39).2 q38)).2 _ rfl)).1 q37)).2 q36) _ rfl)).1, ⟨fun q35 => ((((((((((((q39).2 q38)).2 _ rfl)).1 q37)).2 q36) _ rfl)).2).1 q35), fun q35 => sm_cvR (((((((((((((q39).2 q38)).2 _ rfl)).1 q37)).2 q36) _ rfl)).2).2 q35)) (fun I30 L31 R32 q34 => q34)⟩⟩⟩, fun q37 => ((((((q39).2 q38)).2 _ rfl)).2 q37)⟩⟩⟩))))
theorem u_X12_tellOpen_7 {S : sm_C} {d : Nat} {Φ : sm_Z → Prop} {I : sm_I} {L : sm_L} {R : sm_R} {x2 : Int32} {x3 : Int32} {x4 : Int32} {x5 : Int32} (h : (((I 107 13) = 0 → ((x4 = (-1 : Int32) → sm_wp sm_P S (d + 1) 198 12 [.ref 107, .int x2, .int x3, .int x4, .int x5] [] (xLay, I, L, (kM R)) (0, 0) Φ) ∧ (¬ x4 = (-1 : Int32) → ((x4 = x2 → sm_wp sm_P S d 213 0 [.ref 107, .int (5 : Int32), .int x3] [] (xLay, I, L, (kM R)) (0, 0) (fun z => ∃ (I1 : sm_I) (L2 : sm_L) (R3 : sm_R), z = (none, (xLay, I1, L2, (kM R3))) ∧ sm_wp sm_P S (d + 1) 198 12 [.ref 107, .int x2, .int x3, .int x4, .int x5] [] (xLay, I1, L2, (kM R3)) (0, 0) Φ)) ∧ (¬ x4 = x2 → ∀ n6 : Int32, n6 = (((10 : Int32) * (I 107 19)) + x4) → (vp_in n6 20) ∧ (((I 135 n6.toNatClampNeg) = (-1 : Int32) → sm_wp sm_P S (d + 1) 198 12 [.ref 107, .int x2, .int x3, .int x4, .int x5] [] (xLay, I, L, (kM R)) (0, 0) Φ) ∧ (¬ (I 135 n6.toNatClampNeg) = (-1 : Int32) → sm_wp sm_P S d 213 0 [.ref 107, .int (5 : Int32), .int x3] [] (xLay, I, L, (kM R)) (0, 0) (fun z => ∃ (I7 : sm_I) (L8 : sm_L) (R9 : sm_R), z = (none, (xLay, I7, L8, (kM R9))) ∧ sm_wp sm_P S (d + 1) 198 12 [.ref 107, .int x2, .int x3, .int x4, .int x5] [] (xLay, I7, L8, (kM R9)) (0, 0) Φ)))))))) ∧ (¬ (I 107 13) = 0 → sm_wp sm_P S (d + 1) 198 12 [.ref 107, .int x2, .int x3, .int x4, .int x5] [] (xLay, I, L, (kM R)) (0, 0) Φ))) : sm_wp sm_P S (d + 1) 198 7 [.ref 107, .int x2, .int x3, .int x4, .int x5] [] (xLay, I, L, (kM R)) (0, 0) Φ := sm_wp_step (⟨fun q15 => ⟨fun q14 => ((((h).1 q15)).1 q14), fun q14 => ⟨fun q13 => sm_cvR (((((((h).1 q15)).2 q14)).1 q13)) (fun I1 L2 R3 q5 => q5), fun q13 => ⟨((((((((h).1 q15)).2 q14)).2 q13) _ rfl)).1, ⟨fun q12 => ((((((((((h).1 q15)).2 q14)).2 q13) _ rfl)).2).1 q12), fun q12 => sm_cvR (((((((((((h).1 q15)).2 q14)).2 q13) _ rfl)).2).2 q12)) (fun I7 L8 R9 q11 => q11)⟩⟩⟩⟩, fun q15 => ((h).2 q15)⟩)
theorem u_X12_tellOpen_12 {S : sm_C} {d : Nat} {Φ : sm_Z → Prop} {I : sm_I} {L : sm_L} {R : sm_R} {x2 : Int32} {x3 : Int32} {x4 : Int32} {x5 : Int32} (h : ∀ n1 : Int32, n1 = ((240 : Int32) + ((4 : Int32) * (I 107 19))) → sm_wp sm_P S (d + 1) 198 13 [.ref 107, .int x2, .int x3, .int x4, .int x5, .int n1] [] (xLay, I, L, (kM R)) (0, 0) Φ) : sm_wp sm_P S (d + 1) 198 12 [.ref 107, .int x2, .int x3, .int x4, .int x5] [] (xLay, I, L, (kM R)) (0, 0) Φ := sm_wp_step ((h _ rfl))
theorem u_X12_tellOpen_13 {S : sm_C} {d : Nat} {Φ : sm_Z → Prop} {I : sm_I} {L : sm_L} {R : sm_R} {x2 : Int32} {x3 : Int32} {x4 : Int32} {x5 : Int32} {x6 : Int32} (h : ((x5 ≤ x6 → (vp_in x5 260) ∧ ∀ I1 : sm_I, I1 = (sm_up I 130 x5.toNatClampNeg x2) → (vp_in x5 260) ∧ ∀ I2 : sm_I, I2 = (sm_up I1 131 x5.toNatClampNeg x4) → sm_wp sm_P S d 169 0 [.ref 107, .int (0 : Int32)] [] (xLay, I2, L, (kM R)) (0, 0) (fun z => ∃ (r6 : Int32) (I3 : sm_I) (L4 : sm_L) (R5 : sm_R), z = (some (.int r6), (xLay, I3, L4, (kM R5))) ∧ (vp_in x5 260) ∧ ∀ I7 : sm_I, I7 = (sm_up I3 132 x5.toNatClampNeg r6) → sm_wp sm_P S d 169 0 [.ref 107, .int (0 : Int32)] [] (xLay, I7, L4, (kM R5)) (0, 0) (fun z => ∃ (r11 : Int32) (I8 : sm_I) (L9 : sm_L) (R10 : sm_R), z = (some (.int r11), (xLay, I8, L9, (kM R10))) ∧ (vp_in x5 260) ∧ ∀ I12 : sm_I, I12 = (sm_up I8 133 x5.toNatClampNeg r11) → sm_wp sm_P S d 165 0 [.ref 107, .int (4 : Int32)] [] (xLay, I12, L9, (kM R10)) (0, 0) (fun z => ∃ (I13 : sm_I) (L14 : sm_L) (R15 : sm_R), z = (none, (xLay, I13, L14, (kM R15))) ∧ (((I13 107 13) ≤ 0 → ((x2 = (-1 : Int32) → (vp_in (I13 107 19) 2) ∧ ∀ n17 : Int32, n17 = ((I13 134 (I13 107 19).toNatClampNeg) + (1 : Int32)) → (vp_in (I13 107 19) 2) ∧ ∀ I18 : sm_I, I18 = (sm_up I13 134 (I13 107 19).toNatClampNeg n17) → Φ (none, (xLay, I18, L14, (kM R15)))) ∧ (¬ x2 = (-1 : Int32) → ∀ n19 : Int32, n19 = (((10 : Int32) * (I13 107 19)) + x2) → (vp_in n19 20) ∧ ∀ I20 : sm_I, I20 = (sm_up I13 135 n19.toNatClampNeg x5) → (vp_in (I20 107 19) 2) ∧ ∀ n21 : Int32, n21 = ((I20 134 (I20 107 19).toNatClampNeg) + (1 : Int32)) → (vp_in (I20 107 19) 2) ∧ ∀ I22 : sm_I, I22 = (sm_up I20 134 (I20 107 19).toNatClampNeg n21) → Φ (none, (xLay, I22, L14, (kM R15)))))) ∧ (¬ (I13 107 13) ≤ 0 → Φ (none, (xLay, I13, L14, (kM R15))))))))) ∧ (¬ x5 ≤ x6 → (((I 107 13) = 0 → ((x2 = (-1 : Int32) → (vp_in x5 260) ∧ ∀ I55 : sm_I, I55 = (sm_up I 130 x5.toNatClampNeg x2) → (vp_in x5 260) ∧ ∀ I56 : sm_I, I56 = (sm_up I55 131 x5.toNatClampNeg x4) → sm_wp sm_P S d 169 0 [.ref 107, .int (0 : Int32)] [] (xLay, I56, L, (kM R)) (0, 0) (fun z => ∃ (r60 : Int32) (I57 : sm_I) (L58 : sm_L) (R59 : sm_R), z = (some (.int r60), (xLay, I57, L58, (kM R59))) ∧ (vp_in x5 260) ∧ ∀ I61 : sm_I, I61 = (sm_up I57 132 x5.toNatClampNeg r60) → sm_wp sm_P S d 169 0 [.ref 107, .int (0 : Int32)] [] (xLay, I61, L58, (kM R59)) (0, 0) (fun z => ∃ (r65 : Int32) (I62 : sm_I) (L63 : sm_L) (R64 : sm_R), z = (some (.int r65), (xLay, I62, L63, (kM R64))) ∧ (vp_in x5 260) ∧ ∀ I66 : sm_I, I66 = (sm_up I62 133 x5.toNatClampNeg r65) → sm_wp sm_P S d 165 0 [.ref 107, .int (4 : Int32)] [] (xLay, I66, L63, (kM R64)) (0, 0) (fun z => ∃ (I67 : sm_I) (L68 : sm_L) (R69 : sm_R), z = (none, (xLay, I67, L68, (kM R69))) ∧ (((I67 107 13) ≤ 0 → ((x2 = (-1 : Int32) → (vp_in (I67 107 19) 2) ∧ ∀ n71 : Int32, n71 = ((I67 134 (I67 107 19).toNatClampNeg) + (1 : Int32)) → (vp_in (I67 107 19) 2) ∧ ∀ I72 : sm_I, I72 = (sm_up I67 134 (I67 107 19).toNatClampNeg n71) → Φ (none, (xLay, I72, L68, (kM R69)))) ∧ (¬ x2 = (-1 : Int32) → ∀ n73 : Int32, n73 = (((10 : Int32) * (I67 107 19)) + x2) → (vp_in n73 20) ∧ ∀ I74 : sm_I, I74 = (sm_up I67 135 n73.toNatClampNeg x5) → (vp_in (I74 107 19) 2) ∧ ∀ n75 : Int32, n75 = ((I74 134 (I74 107 19).toNatClampNeg) + (1 : Int32)) → (vp_in (I74 107 19) 2) ∧ ∀ I76 : sm_I, I76 = (sm_up I74 134 (I74 107 19).toNatClampNeg n75) → Φ (none, (xLay, I76, L68, (kM R69)))))) ∧ (¬ (I67 107 13) ≤ 0 → Φ (none, (xLay, I67, L68, (kM R69))))))))) ∧ (¬ x2 = (-1 : Int32) → (vp_in x6 260) ∧ (((I 131 x6.toNatClampNeg) = x2 → sm_wp sm_P S d 213 0 [.ref 107, .int (5 : Int32), .int x3] [] (xLay, I, L, (kM R)) (0, 0) (fun z => ∃ (I82 : sm_I) (L83 : sm_L) (R84 : sm_R), z = (none, (xLay, I82, L83, (kM R84))) ∧ sm_wp sm_P S (d + 1) 198 13 [.ref 107, .int x2, .int x3, .int x4, .int x5, .int (x6 + (1 : Int32))] [] (xLay, I82, L83, (kM R84)) (0, 0) Φ)) ∧ (¬ (I 131 x6.toNatClampNeg) = x2 → sm_wp sm_P S (d + 1) 198 13 [.ref 107, .int x2, .int x3, .int x4, .int x5, .int (x6 + (1 : Int32))] [] (xLay, I, L, (kM R)) (0, 0) Φ))))) ∧ (¬ (I 107 13) = 0 → (vp_in x5 260) ∧ ∀ I28 : sm_I, I28 = (sm_up I 130 x5.toNatClampNeg x2) → (vp_in x5 260) ∧ ∀ I29 : sm_I, I29 = (sm_up I28 131 x5.toNatClampNeg x4) → sm_wp sm_P S d 169 0 [.ref 107, .int (0 : Int32)] [] (xLay, I29, L, (kM R)) (0, 0) (fun z => ∃ (r33 : Int32) (I30 : sm_I) (L31 : sm_L) (R32 : sm_R), z = (some (.int r33), (xLay, I30, L31, (kM R32))) ∧ (vp_in x5 260) ∧ ∀ I34 : sm_I, I34 = (sm_up I30 132 x5.toNatClampNeg r33) → sm_wp sm_P S d 169 0 [.ref 107, .int (0 : Int32)] [] (xLay, I34, L31, (kM R32)) (0, 0) (fun z => ∃ (r38 : Int32) (I35 : sm_I) (L36 : sm_L) (R37 : sm_R), z = (some (.int r38), (xLay, I35, L36, (kM R37))) ∧ (vp_in x5 260) ∧ ∀ I39 : sm_I, I39 = (sm_up I35 133 x5.toNatClampNeg r38) → sm_wp sm_P S d 165 0 [.ref 107, .int (4 : Int32)] [] (xLay, I39, L36, (kM R37)) (0, 0) (fun z => ∃ (I40 : sm_I) (L41 : sm_L) (R42 : sm_R), z = (none, (xLay, I40, L41, (kM R42))) ∧ (((I40 107 13) ≤ 0 → ((x2 = (-1 : Int32) → (vp_in (I40 107 19) 2) ∧ ∀ n44 : Int32, n44 = ((I40 134 (I40 107 19).toNatClampNeg) + (1 : Int32)) → (vp_in (I40 107 19) 2) ∧ ∀ I45 : sm_I, I45 = (sm_up I40 134 (I40 107 19).toNatClampNeg n44) → Φ (none, (xLay, I45, L41, (kM R42)))) ∧ (¬ x2 = (-1 : Int32) → ∀ n46 : Int32, n46 = (((10 : Int32) * (I40 107 19)) + x2) → (vp_in n46 20) ∧ ∀ I47 : sm_I, I47 = (sm_up I40 135 n46.toNatClampNeg x5) → (vp_in (I47 107 19) 2) ∧ ∀ n48 : Int32, n48 = ((I47 134 (I47 107 19).toNatClampNeg) + (1 : Int32)) → (vp_in (I47 107 19) 2) ∧ ∀ I49 : sm_I, I49 = (sm_up I47 134 (I47 107 19).toNatClampNeg n48) → Φ (none, (xLay, I49, L41, (kM R42)))))) ∧ (¬ (I40 107 13) ≤ 0 → Φ (none, (xLay, I40, L41, (kM R42))))))))))))) : sm_wp sm_P S (d + 1) 198 13 [.ref 107, .int x2, .int x3, .int x4, .int x5, .int x6] [] (xLay, I, L, (kM R)) (0, 0) Φ := sm_wp_step (⟨fun q90 => ⟨(((h).1 q90)).1, ⟨(((((h).1 q90)).2 _ rfl)).1, sm_ciR (((((((h).1 q90)).2 _ rfl)).2 _ rfl)) (fun r6 I3 L4 R5 q27 => ⟨(q27).1, sm_ciR (((q27).2 _ rfl)) (fun r11 I8 L9 R10 q26 => ⟨(q26).1, sm_cvR (((q26).2 _ rfl)) (fun I13 L14 R15 q25 => ⟨fun q24 => ⟨fun q23 => ⟨(((((q25).1 q24)).1 q23)).1, ⟨(((((((q25).1 q24)).1 q23)).2 _ rfl)).1, ((((((((q25).1 q24)).1 q23)).2 _ rfl)).2 _ rfl)⟩⟩, fun q23 => ⟨((((((q25).1 q24)).2 q23) _ rfl)).1, ⟨((((((((q25).1 q24)).2 q23) _ rfl)).2 _ rfl)).1, ⟨((((((((((q25).1 q24)).2 q23) _ rfl)).2 _ rfl)).2 _ rfl)).1, (((((((((((q25).1 q24)).2 q23) _ rfl)).2 _ rfl)).2 _ rfl)).2 _ rfl)⟩⟩⟩⟩, fun q24 => ((q25).2 q24)⟩)⟩)⟩)⟩⟩, fun q90 => ⟨fun q89 => ⟨fun q88 => ⟨(((((((h).2 q90)).1 q89)).1 q88)).1, ⟨(((((((((h).2 q90)).1 q89)).1 q88)).2 _ rfl)).1, sm_ciR (((((((((((h).2 q90)).1 q89)).1 q88)).2 _ rfl)).2 _ rfl)) (fun r60 I57 L58 R59 q81 => ⟨(q81).1, sm_ciR (((q81).2 _ rfl)) (fun r65 I62 L63 R64 q80 => ⟨(q80).1, sm_cvR (((q80).2 _ rfl)) (fun I67 L68 R69 q79 => ⟨fun q78 => ⟨fun q77 => ⟨(((((q79).1 q78)).1 q77)).1, ⟨(((((((q79).1 q78)).1 q77)).2 _ rfl)).1, ((((((((q79).1 q78)).1 q77)).2 _ rfl)).2 _ rfl)⟩⟩, fun q77 => ⟨((((((q79).1 q78)).2 q77) _ rfl)).1, ⟨((((((((q79).1 q78)).2 q77) _ rfl)).2 _ rfl)).1, ⟨((((((((((q79).1 q78)).2 q77) _ rfl)).2 _ rfl)).2 _ rfl)).1, (((((((((((q79).1 q78)).2 q77) _ rfl)).2 _ rfl)).2 _ rfl)).2 _ rfl)⟩⟩⟩⟩, fun q78 => ((q79).2 q78)⟩)⟩)⟩)⟩⟩, fun q88 => ⟨(((((((h).2 q90)).1 q89)).2 q88)).1, ⟨fun q87 => sm_cvR ((((((((((h).2 q90)).1 q89)).2 q88)).2).1 q87)) (fun I82 L83 R84 q86 => q86), fun q87 => (((((((((h).2 q90)).1 q89)).2 q88)).2).2 q87)⟩⟩⟩, fun q89 => ⟨(((((h).2 q90)).2 q89)).1, ⟨(((((((h).2 q90)).2 q89)).2 _ rfl)).1, sm_ciR (((((((((h).2 q90)).2 q89)).2 _ rfl)).2 _ rfl)) (fun r33 I30 L31 R32 q54 => ⟨(q54).1, sm_ciR (((q54).2 _ rfl)) (fun r38 I35 L36 R37 q53 => ⟨(q53).1, sm_cvR (((q53).2 _ rfl)) (fun I40 L41 R42 q52 => ⟨fun q51 => ⟨fun q50 => ⟨(((((q52).1 q51)).1 q50)).1, ⟨(((((((q52).1 q51)).1 q50)).2 _ rfl)).1, ((((((((q52).1 q51)).1 q50)).2 _ rfl)).2 _ rfl)⟩⟩, fun q50 => ⟨((((((q52).1 q51)).2 q50) _ rfl)).1, ⟨((((((((q52).1 q51)).2 q50) _ rfl)).2 _ rfl)).1, ⟨((((((((((q52).1 q51)).2 q50) _ rfl)).2 _ rfl)).2 _ rfl)).1, (((((((((((q52).1 q51)).2 q50) _ rfl)).2 _ rfl)).2 _ rfl)).2 _ rfl)⟩⟩⟩⟩, fun q51 => ((q52).2 q51)⟩)⟩)⟩)⟩⟩⟩⟩)
theorem u_X12_tellQuestion_0 {S : sm_C} {d : Nat} {Φ : sm_Z → Prop} {I : sm_I} {L : sm_L} {R : sm_R} (h : sm_wp sm_P S d 136 0 [.ref 107] [] (xLay, I, L, (kM R)) (0, 0) (fun z => ∃ (I1 : sm_I) (L2 : sm_L) (R3 : sm_R), z = (none, (xLay, I1, L2, (kM R3))) ∧ sm_wp sm_P S d 166 0 [.ref 107] [] (xLay, I1, L2, (kM R3)) (0, 0) (fun z => ∃ (r8 : Int32) (I5 : sm_I) (L6 : sm_L) (R7 : sm_R), z = (some (.int r8), (xLay, I5, L6, (kM R7))) ∧ sm_wp sm_P S d 165 0 [.ref 107, .int (5 : Int32)] [] (xLay, I5, L6, (kM R7)) (0, 0) (fun z => ∃ (I9 : sm_I) (L10 : sm_L) (R11 : sm_R), z = (none, (xLay, I9, L10, (kM R11))) ∧ (((I9 107 13) = 0 → (vp_in (I9 107 19) 2) ∧ ∀ n27 : Int32, n27 = (((248 : Int32) + ((6 : Int32) * (I9 107 19))) + (I9 136 (I9 107 19).toNatClampNeg)) → sm_wp sm_P S d 201 0 [.ref 107, .int n27] [] (xLay, I9, L10, (kM R11)) (0, 0) (fun z => ∃ (I28 : sm_I) (L29 : sm_L) (R30 : sm_R), z = (none, (xLay, I28, L29, (kM R30))) ∧ sm_wp sm_P S d 165 0 [.ref 107, .int (4 : Int32)] [] (xLay, I28, L29, (kM R30)) (0, 0) (fun z => ∃ (I32 : sm_I) (L33 : sm_L) (R34 : sm_R), z = (none, (xLay, I32, L33, (kM R34))) ∧ (((I32 107 13) ≤ 0 → (vp_in (I32 107 19) 2) ∧ ∀ n36 : Int32, n36 = (I32 136 (I32 107 19).toNatClampNeg) → sm_wp sm_P S d 155 0 [.ref 107, .int r8, .int (4 : Int32), .int n36] [] (xLay, I32, L33, (kM R34)) (0, 0) (fun z => ∃ (I37 : sm_I) (L38 : sm_L) (R39 : sm_R), z = (none, (xLay, I37, L38, (kM R39))) ∧ (vp_in (I37 107 19) 2) ∧ ∀ n41 : Int32, n41 = ((I37 136 (I37 107 19).toNatClampNeg) + (1 : Int32)) → (vp_in (I37 107 19) 2) ∧ ∀ I42 : sm_I, I42 = (sm_up I37 136 (I37 107 19).toNatClampNeg n41) → Φ (none, (xLay, I42, L38, (kM R39))))) ∧ (¬ (I32 107 13) ≤ 0 → Φ (none, (xLay, I32, L33, (kM R34)))))))) ∧ (¬ (I9 107 13) = 0 → sm_wp sm_P S d 165 0 [.ref 107, .int (4 : Int32)] [] (xLay, I9, L10, (kM R11)) (0, 0) (fun z => ∃ (I13 : sm_I) (L14 : sm_L) (R15 : sm_R), z = (none, (xLay, I13, L14, (kM R15))) ∧ (((I13 107 13) ≤ 0 → (vp_in (I13 107 19) 2) ∧ ∀ n17 : Int32, n17 = (I13 136 (I13 107 19).toNatClampNeg) → sm_wp sm_P S d 155 0 [.ref 107, .int r8, .int (4 : Int32), .int n17] [] (xLay, I13, L14, (kM R15)) (0, 0) (fun z => ∃ (I18 : sm_I) (L19 : sm_L) (R20 : sm_R), z = (none, (xLay, I18, L19, (kM R20))) ∧ (vp_in (I18 107 19) 2) ∧ ∀ n22 : Int32, n22 = ((I18 136 (I18 107 19).toNatClampNeg) + (1 : Int32)) → (vp_in (I18 107 19) 2) ∧ ∀ I23 : sm_I, I23 = (sm_up I18 136 (I18 107 19).toNatClampNeg n22) → Φ (none, (xLay, I23, L19, (kM R20))))) ∧ (¬ (I13 107 13) ≤ 0 → Φ (none, (xLay, I13, L14, (kM R15)))))))))))) : sm_wp sm_P S (d + 1) 199 0 [.ref 107] [] (xLay, I, L, (kM R)) (0, 0) Φ := sm_wp_step (sm_cvR (h) (fun I1 L2 R3 q50 => sm_ciR (q50) (fun r8 I5 L6 R7 q49 => sm_cvR (q49) (fun I9 L10 R11 q48 => ⟨fun q47 => ⟨(((q48).1 q47)).1, sm_cvR (((((q48).1 q47)).2 _ rfl)) (fun I28 L29 R30 q46 => sm_cvR (q46) (fun I32 L33 R34 q45 => ⟨fun q44 => ⟨(((q45).1 q44)).1, sm_cvR (((((q45).1 q44)).2 _ rfl)) (fun I37 L38 R39 q43 => ⟨(q43).1, ⟨(((q43).2 _ rfl)).1, ((((q43).2 _ rfl)).2 _ rfl)⟩⟩)⟩, fun q44 => ((q45).2 q44)⟩))⟩, fun q47 => sm_cvR (((q48).2 q47)) (fun I13 L14 R15 q26 => ⟨fun q25 => ⟨(((q26).1 q25)).1, sm_cvR (((((q26).1 q25)).2 _ rfl)) (fun I18 L19 R20 q24 => ⟨(q24).1, ⟨(((q24).2 _ rfl)).1, ((((q24).2 _ rfl)).2 _ rfl)⟩⟩)⟩, fun q25 => ((q26).2 q25)⟩)⟩))))
theorem u_X12_named_0 {S : sm_C} {d : Nat} {Φ : sm_Z → Prop} {I : sm_I} {L : sm_L} {R : sm_R} (h : sm_wp sm_P S d 165 0 [.ref 107, .int (1 : Int32)] [] (xLay, I, L, (kM R)) (0, 0) (fun z => ∃ (I1 : sm_I) (L2 : sm_L) (R3 : sm_R), z = (none, (xLay, I1, L2, (kM R3))) ∧ sm_wp sm_P S (d + 1) 166 1 [.ref 107, .int (I 107 11), .int (0 : Int32)] [] (xLay, I1, L2, (kM R3)) (0, 0) Φ)) : sm_wp sm_P S (d + 1) 166 0 [.ref 107] [] (xLay, I, L, (kM R)) (0, 0) Φ := sm_wp_step (sm_cvR (h) (fun I1 L2 R3 q5 => q5))
theorem u_X12_named_1 {S : sm_C} {d : Nat} {Φ : sm_Z → Prop} {I : sm_I} {L : sm_L} {R : sm_R} {x1 : Int32} {x2 : Int32} (h : (((I 107 20) ≤ x2 → Φ (some (.int x1), (xLay, I, L, (kM R)))) ∧ (¬ (I 107 20) ≤ x2 → (((I 107 13) = 0 → (vp_in x2 50) ∧ (vp_in x1 503) ∧ (((lg_cmp (L 115 x2.toNatClampNeg) (L 113 x1.toNatClampNeg)) = 0 → sm_wp sm_P S d 213 0 [.ref 107, .int (3 : Int32), .int x1] [] (xLay, I, L, (kM R)) (0, 0) (fun z => ∃ (I1 : sm_I) (L2 : sm_L) (R3 : sm_R), z = (none, (xLay, I1, L2, (kM R3))) ∧ sm_wp sm_P S (d + 1) 166 1 [.ref 107, .int x1, .int (x2 + (1 : Int32))] [] (xLay, I1, L2, (kM R3)) (0, 0) Φ)) ∧ (¬ (lg_cmp (L 115 x2.toNatClampNeg) (L 113 x1.toNatClampNeg)) = 0 → sm_wp sm_P S (d + 1) 166 1 [.ref 107, .int x1, .int (x2 + (1 : Int32))] [] (xLay, I, L, (kM R)) (0, 0) Φ))) ∧ (¬ (I 107 13) = 0 → Φ (some (.int x1), (xLay, I, L, (kM R)))))))) : sm_wp sm_P S (d + 1) 166 1 [.ref 107, .int x1, .int x2] [] (xLay, I, L, (kM R)) (0, 0) Φ := sm_wp_step (⟨fun q8 => ((h).1 q8), fun q8 => ⟨fun q7 => ⟨(((((h).2 q8)).1 q7)).1, ⟨((((((h).2 q8)).1 q7)).2).1, ⟨fun q6 => sm_cvR (((((((((h).2 q8)).1 q7)).2).2).1 q6)) (fun I1 L2 R3 q5 => q5), fun q6 => ((((((((h).2 q8)).1 q7)).2).2).2 q6)⟩⟩⟩, fun q7 => ((((h).2 q8)).2 q7)⟩⟩)
theorem u_X12_known_0 {S : sm_C} {d : Nat} {Φ : sm_Z → Prop} {I : sm_I} {L : sm_L} {R : sm_R} {x1 : Int32} (h : sm_wp sm_P S d 165 0 [.ref 107, .int (1 : Int32)] [] (xLay, I, L, (kM R)) (0, 0) (fun z => ∃ (I1 : sm_I) (L2 : sm_L) (R3 : sm_R), z = (none, (xLay, I1, L2, (kM R3))) ∧ (((I1 107 13) ≤ 0 → sm_wp sm_P S (d + 1) 154 3 [.ref 107, .int x1, .int (I 107 11), .int (-1 : Int32), .int (0 : Int32)] [] (xLay, I1, L2, (kM R3)) (0, 0) Φ) ∧ (¬ (I1 107 13) ≤ 0 → Φ (some (.int (0 : Int32)), (xLay, I1, L2, (kM R3))))))) : sm_wp sm_P S (d + 1) 154 0 [.ref 107, .int x1] [] (xLay, I, L, (kM R)) (0, 0) Φ := sm_wp_step (sm_cvR (h) (fun I1 L2 R3 q6 => ⟨fun q5 => ((q6).1 q5), fun q5 => ((q6).2 q5)⟩))
theorem u_X12_known_3 {S : sm_C} {d : Nat} {Φ : sm_Z → Prop} {I : sm_I} {L : sm_L} {R : sm_R} {x1 : Int32} {x2 : Int32} {x3 : Int32} {x4 : Int32} (h : (((I 107 20) ≤ x4 → ((x3 = (-1 : Int32) → sm_wp sm_P S d 213 0 [.ref 107, .int (4 : Int32), .int x2] [] (xLay, I, L, (kM R)) (0, 0) (fun z => ∃ (I1 : sm_I) (L2 : sm_L) (R3 : sm_R), z = (none, (xLay, I1, L2, (kM R3))) ∧ Φ (some (.int x3), (xLay, I1, L2, (kM R3))))) ∧ (¬ x3 = (-1 : Int32) → Φ (some (.int x3), (xLay, I, L, (kM R)))))) ∧ (¬ (I 107 20) ≤ x4 → ((x3 = (-1 : Int32) → (vp_in x4 50) ∧ (vp_in x2 503) ∧ (((lg_cmp (L 115 x4.toNatClampNeg) (L 113 x2.toNatClampNeg)) = 0 → (vp_in x4 50) ∧ (((I 116 x4.toNatClampNeg) = x1 → (vp_in x4 50) ∧ sm_wp sm_P S (d + 1) 154 3 [.ref 107, .int x1, .int x2, .int (I 117 x4.toNatClampNeg), .int (x4 + (1 : Int32))] [] (xLay, I, L, (kM R)) (0, 0) Φ) ∧ (¬ (I 116 x4.toNatClampNeg) = x1 → sm_wp sm_P S (d + 1) 154 3 [.ref 107, .int x1, .int x2, .int x3, .int (x4 + (1 : Int32))] [] (xLay, I, L, (kM R)) (0, 0) Φ))) ∧ (¬ (lg_cmp (L 115 x4.toNatClampNeg) (L 113 x2.toNatClampNeg)) = 0 → sm_wp sm_P S (d + 1) 154 3 [.ref 107, .int x1, .int x2, .int x3, .int (x4 + (1 : Int32))] [] (xLay, I, L, (kM R)) (0, 0) Φ))) ∧ (¬ x3 = (-1 : Int32) → sm_wp sm_P S (d + 1) 154 3 [.ref 107, .int x1, .int x2, .int x3, .int (x4 + (1 : Int32))] [] (xLay, I, L, (kM R)) (0, 0) Φ))))) : sm_wp sm_P S (d + 1) 154 3 [.ref 107, .int x1, .int x2, .int x3, .int x4] [] (xLay, I, L, (kM R)) (0, 0) Φ := sm_wp_step (⟨fun q10 => ⟨fun q6 => sm_cvR (((((h).1 q10)).1 q6)) (fun I1 L2 R3 q5 => q5), fun q6 => ((((h).1 q10)).2 q6)⟩, fun q10 => ⟨fun q9 => ⟨(((((h).2 q10)).1 q9)).1, ⟨((((((h).2 q10)).1 q9)).2).1, ⟨fun q8 => ⟨(((((((((h).2 q10)).1 q9)).2).2).1 q8)).1, ⟨fun q7 => ⟨((((((((((((h).2 q10)).1 q9)).2).2).1 q8)).2).1 q7)).1, ((((((((((((h).2 q10)).1 q9)).2).2).1 q8)).2).1 q7)).2⟩, fun q7 => (((((((((((h).2 q10)).1 q9)).2).2).1 q8)).2).2 q7)⟩⟩, fun q8 => ((((((((h).2 q10)).1 q9)).2).2).2 q8)⟩⟩⟩, fun q9 => ((((h).2 q10)).2 q9)⟩⟩)
theorem u_X12_number_0 {S : sm_C} {d : Nat} {Φ : sm_Z → Prop} {I : sm_I} {L : sm_L} {R : sm_R} {x1 : Int32} (h : ((x1 = 0 → ((x1 = 0 → sm_wp sm_P S (d + 1) 169 7 [.ref 107, .int (1 : Int32)] [] (xLay, I, L, (kM R)) (0, 0) Φ) ∧ (¬ x1 = 0 → sm_wp sm_P S d 143 0 [.ref 107, .int (9 : Int32)] [] (xLay, I, L, (kM R)) (0, 0) (fun z => ∃ (r4 : Int32) (I1 : sm_I) (L2 : sm_L) (R3 : sm_R), z = (some (.int r4), (xLay, I1, L2, (kM R3))) ∧ ((r4 = 0 → sm_wp sm_P S (d + 1) 169 7 [.ref 107, .int (1 : Int32)] [] (xLay, I1, L2, (kM R3)) (0, 0) Φ) ∧ (¬ r4 = 0 → sm_wp sm_P S d 136 0 [.ref 107] [] (xLay, I1, L2, (kM R3)) (0, 0) (fun z => ∃ (I5 : sm_I) (L6 : sm_L) (R7 : sm_R), z = (none, (xLay, I5, L6, (kM R7))) ∧ sm_wp sm_P S (d + 1) 169 7 [.ref 107, .int (1 : Int32)] [] (xLay, I5, L6, (kM R7)) (0, 0) Φ))))))) ∧ (¬ x1 = 0 → sm_wp sm_P S d 143 0 [.ref 107, .int (9 : Int32)] [] (xLay, I, L, (kM R)) (0, 0) (fun z => ∃ (r16 : Int32) (I13 : sm_I) (L14 : sm_L) (R15 : sm_R), z = (some (.int r16), (xLay, I13, L14, (kM R15))) ∧ ((r16 = 0 → ((x1 = 0 → sm_wp sm_P S (d + 1) 169 7 [.ref 107, .int (1 : Int32)] [] (xLay, I13, L14, (kM R15)) (0, 0) Φ) ∧ (¬ x1 = 0 → sm_wp sm_P S d 143 0 [.ref 107, .int (9 : Int32)] [] (xLay, I13, L14, (kM R15)) (0, 0) (fun z => ∃ (r20 : Int32) (I17 : sm_I) (L18 : sm_L) (R19 : sm_R), z = (some (.int r20), (xLay, I17, L18, (kM R19))) ∧ ((r20 = 0 → sm_wp sm_P S (d + 1) 169 7 [.ref 107, .int (1 : Int32)] [] (xLay, I17, L18, (kM R19)) (0, 0) Φ) ∧ (¬ r20 = 0 → sm_wp sm_P S d 136 0 [.ref 107] [] (xLay, I17, L18, (kM R19)) (0, 0) (fun z => ∃ (I21 : sm_I) (L22 : sm_L) (R23 : sm_R), z = (none, (xLay, I21, L22, (kM R23))) ∧ sm_wp sm_P S (d + 1) 169 7 [.ref 107, .int (1 : Int32)] [] (xLay, I21, L22, (kM R23)) (0, 0) Φ))))))) ∧ (¬ r16 = 0 → ((x1 = 0 → sm_wp sm_P S (d + 1) 169 7 [.ref 107, .int (-1 : Int32)] [] (xLay, I13, L14, (kM R15)) (0, 0) Φ) ∧ (¬ x1 = 0 → sm_wp sm_P S d 143 0 [.ref 107, .int (9 : Int32)] [] (xLay, I13, L14, (kM R15)) (0, 0) (fun z => ∃ (r32 : Int32) (I29 : sm_I) (L30 : sm_L) (R31 : sm_R), z = (some (.int r32), (xLay, I29, L30, (kM R31))) ∧ ((r32 = 0 → sm_wp sm_P S (d + 1) 169 7 [.ref 107, .int (-1 : Int32)] [] (xLay, I29, L30, (kM R31)) (0, 0) Φ) ∧ (¬ r32 = 0 → sm_wp sm_P S d 136 0 [.ref 107] [] (xLay, I29, L30, (kM R31)) (0, 0) (fun z => ∃ (I33 : sm_I) (L34 : sm_L) (R35 : sm_R), z = (none, (xLay, I33, L34, (kM R35))) ∧ sm_wp sm_P S (d + 1) 169 7 [.ref 107, .int (-1 : Int32)] [] (xLay, I33, L34, (kM R35)) (0, 0) Φ)))))))))))) : sm_wp sm_P S (d + 1) 169 0 [.ref 107, .int x1] [] (xLay, I, L, (kM R)) (0, 0) Φ := sm_wp_step (⟨fun q43 => ⟨fun q12 => ((((h).1 q43)).1 q12), fun q12 => sm_ciR (((((h).1 q43)).2 q12)) (fun r4 I1 L2 R3 q11 => ⟨fun q10 => ((q11).1 q10), fun q10 => sm_cvR (((q11).2 q10)) (fun I5 L6 R7 q9 => q9)⟩)⟩, fun q43 => sm_ciR (((h).2 q43)) (fun r16 I13 L14 R15 q42 => ⟨fun q41 => ⟨fun q28 => ((((q42).1 q41)).1 q28), fun q28 => sm_ciR (((((q42).1 q41)).2 q28)) (fun r20 I17 L18 R19 q27 => ⟨fun q26 => ((q27).1 q26), fun q26 => sm_cvR (((q27).2 q26)) (fun I21 L22 R23 q25 => q25)⟩)⟩, fun q41 => ⟨fun q40 => ((((q42).2 q41)).1 q40), fun q40 => sm_ciR (((((q42).2 q41)).2 q40)) (fun r32 I29 L30 R31 q39 => ⟨fun q38 => ((q39).1 q38), fun q38 => sm_cvR (((q39).2 q38)) (fun I33 L34 R35 q37 => q37)⟩)⟩⟩)⟩)
theorem u_X12_number_7 {S : sm_C} {d : Nat} {Φ : sm_Z → Prop} {I : sm_I} {L : sm_L} {R : sm_R} {x2 : Int32} (h : sm_wp sm_P S d 143 0 [.ref 107, .int (2 : Int32)] [] (xLay, I, L, (kM R)) (0, 0) (fun z => ∃ (r4 : Int32) (I1 : sm_I) (L2 : sm_L) (R3 : sm_R), z = (some (.int r4), (xLay, I1, L2, (kM R3))) ∧ ((r4 = 0 → sm_wp sm_P S (d + 1) 169 10 [.ref 107, .int x2, .int (I 107 11)] [.int (0 : Int32)] (xLay, I1, L2, (kM R3)) (0, 0) Φ) ∧ (¬ r4 = 0 → (vp_in (I1 107 11) 503) ∧ sm_wp sm_P S (d + 1) 169 10 [.ref 107, .int x2, .int (I 107 11)] [.int (I1 112 (I1 107 11).toNatClampNeg)] (xLay, I1, L2, (kM R3)) (0, 0) Φ)))) : sm_wp sm_P S (d + 1) 169 7 [.ref 107, .int x2] [] (xLay, I, L, (kM R)) (0, 0) Φ := sm_wp_step (sm_ciR (h) (fun r4 I1 L2 R3 q6 => ⟨fun q5 => ((q6).1 q5), fun q5 => ⟨(((q6).2 q5)).1, (((q6).2 q5)).2⟩⟩))
theorem u_X12_number_10 {S : sm_C} {d : Nat} {Φ : sm_Z → Prop} {I : sm_I} {L : sm_L} {R : sm_R} {x2 : Int32} {x3 : Int32} {s0 : Int32} (h : sm_wp sm_P S d 165 0 [.ref 107, .int (2 : Int32)] [] (xLay, I, L, (kM R)) (0, 0) (fun z => ∃ (I1 : sm_I) (L2 : sm_L) (R3 : sm_R), z = (none, (xLay, I1, L2, (kM R3))) ∧ (((I1 107 13) = 0 → ((s0 ≤ (1440 : Int32) → sm_wp sm_P S (d + 1) 169 13 [.int x2, .int s0] [] (xLay, I1, L2, (kM R3)) (0, 0) Φ) ∧ (¬ s0 ≤ (1440 : Int32) → sm_wp sm_P S d 213 0 [.ref 107, .int (5 : Int32), .int x3] [] (xLay, I1, L2, (kM R3)) (0, 0) (fun z => ∃ (I5 : sm_I) (L6 : sm_L) (R7 : sm_R), z = (none, (xLay, I5, L6, (kM R7))) ∧ sm_wp sm_P S (d + 1) 169 13 [.int x2, .int s0] [] (xLay, I5, L6, (kM R7)) (0, 0) Φ)))) ∧ (¬ (I1 107 13) = 0 → sm_wp sm_P S (d + 1) 169 13 [.int x2, .int s0] [] (xLay, I1, L2, (kM R3)) (0, 0) Φ)))) : sm_wp sm_P S (d + 1) 169 10 [.ref 107, .int x2, .int x3] [.int s0] (xLay, I, L, (kM R)) (0, 0) Φ := sm_wp_step (sm_cvR (h) (fun I1 L2 R3 q12 => ⟨fun q11 => ⟨fun q10 => ((((q12).1 q11)).1 q10), fun q10 => sm_cvR (((((q12).1 q11)).2 q10)) (fun I5 L6 R7 q9 => q9)⟩, fun q11 => ((q12).2 q11)⟩))
theorem u_X12_number_13 {S : sm_C} {d : Nat} {Φ : sm_Z → Prop} {I : sm_I} {L : sm_L} {R : sm_R} {x2 : Int32} {x4 : Int32} (h : Φ (some (.int (x2 * x4)), (xLay, I, L, (kM R)))) : sm_wp sm_P S (d + 1) 169 13 [.int x2, .int x4] [] (xLay, I, L, (kM R)) (0, 0) Φ := sm_wp_step (h)
theorem u_X12_knows_0 {S : sm_C} {d : Nat} {Φ : sm_Z → Prop} {I : sm_I} {L : sm_L} {R : sm_R} {x1 : Int32} {x2 : Int32} {x3 : Int32} (h : (vp_in x1 503) ∧ (vp_in (I 107 20) 50) ∧ ∀ L1 : sm_L, L1 = (sm_up L 115 (I 107 20).toNatClampNeg (L 113 x1.toNatClampNeg)) → (vp_in (I 107 20) 50) ∧ ∀ I2 : sm_I, I2 = (sm_up I 116 (I 107 20).toNatClampNeg x2) → (vp_in (I2 107 20) 50) ∧ ∀ I3 : sm_I, I3 = (sm_up I2 117 (I2 107 20).toNatClampNeg x3) → ∀ I4 : sm_I, I4 = (sm_up I3 107 20 ((I3 107 20) + (1 : Int32))) → Φ (none, (xLay, I4, L1, (kM R)))) : sm_wp sm_P S d 155 0 [.ref 107, .int x1, .int x2, .int x3] [] (xLay, I, L, (kM R)) (0, 0) Φ := sm_wp_step (⟨(h).1, ⟨((h).2).1, ⟨((((h).2).2 _ rfl)).1, ⟨((((((h).2).2 _ rfl)).2 _ rfl)).1, ((((((((h).2).2 _ rfl)).2 _ rfl)).2 _ rfl) _ rfl)⟩⟩⟩⟩)
theorem u_X12_is_0 {S : sm_C} {d : Nat} {Φ : sm_Z → Prop} {I : sm_I} {L : sm_L} {R : sm_R} {x1 : Int32} (h : (((I 107 13) = 0 → (vp_in (I 107 11) 503) ∧ (((I 110 (I 107 11).toNatClampNeg) = x1 → Φ (some (.int (1 : Int32)), (xLay, I, L, (kM R)))) ∧ (¬ (I 110 (I 107 11).toNatClampNeg) = x1 → Φ (some (.int (0 : Int32)), (xLay, I, L, (kM R)))))) ∧ (¬ (I 107 13) = 0 → Φ (some (.int (0 : Int32)), (xLay, I, L, (kM R)))))) : sm_wp sm_P S d 143 0 [.ref 107, .int x1] [] (xLay, I, L, (kM R)) (0, 0) Φ := sm_wp_step (⟨fun q2 => ⟨(((h).1 q2)).1, ⟨fun q1 => ⟨Or.inr rfl, (((((h).1 q2)).2).1 q1)⟩, fun q1 => ⟨Or.inl rfl, (((((h).1 q2)).2).2 q1)⟩⟩⟩, fun q2 => ⟨Or.inl rfl, ((h).2 q2)⟩⟩)
theorem u_X12_fail_0 {S : sm_C} {d : Nat} {Φ : sm_Z → Prop} {I : sm_I} {L : sm_L} {R : sm_R} {x1 : Int32} (h : (((I 107 13) ≤ 0 → (vp_in ((sm_up I 107 13 x1) 107 11) 503) ∧ ∀ n1 : Int32, n1 = ((sm_up I 107 13 x1) 111 ((sm_up I 107 13 x1) 107 11).toNatClampNeg) → ∀ I2 : sm_I, I2 = (sm_up (sm_up I 107 13 x1) 107 14 n1) → Φ (none, (xLay, I2, L, (kM R)))) ∧ (¬ (I 107 13) ≤ 0 → Φ (none, (xLay, I, L, (kM R)))))) : sm_wp sm_P S d 123 0 [.ref 107, .int x1] [] (xLay, I, L, (kM R)) (0, 0) Φ := sm_wp_step (⟨fun q3 => ⟨(((h).1 q3)).1, (((((h).1 q3)).2 _ rfl) _ rfl)⟩, fun q3 => ((h).2 q3)⟩)
theorem u_X12_wrong_0 {S : sm_C} {d : Nat} {Φ : sm_Z → Prop} {I : sm_I} {L : sm_L} {R : sm_R} {x1 : Int32} {x2 : Int32} (h : (vp_in x2 503) ∧ ((0 < (I 107 13) → Φ (none, (xLay, I, L, (kM R)))) ∧ (¬ 0 < (I 107 13) → (((I 107 15) = 0 → ∀ I1 : sm_I, I1 = (sm_up (sm_up I 107 15 x1) 107 16 (I 111 x2.toNatClampNeg)) → Φ (none, (xLay, I1, L, (kM R)))) ∧ (¬ (I 107 15) = 0 → (((I 107 16) < (I 111 x2.toNatClampNeg) → Φ (none, (xLay, I, L, (kM R)))) ∧ (¬ (I 107 16) < (I 111 x2.toNatClampNeg) → (((I 111 x2.toNatClampNeg) = (I 107 16) → ((x1 < (I 107 15) → ∀ I3 : sm_I, I3 = (sm_up (sm_up I 107 15 x1) 107 16 (I 111 x2.toNatClampNeg)) → Φ (none, (xLay, I3, L, (kM R)))) ∧ (¬ x1 < (I 107 15) → Φ (none, (xLay, I, L, (kM R)))))) ∧ (¬ (I 111 x2.toNatClampNeg) = (I 107 16) → ∀ I2 : sm_I, I2 = (sm_up (sm_up I 107 15 x1) 107 16 (I 111 x2.toNatClampNeg)) → Φ (none, (xLay, I2, L, (kM R)))))))))))) : sm_wp sm_P S d 213 0 [.ref 107, .int x1, .int x2] [] (xLay, I, L, (kM R)) (0, 0) Φ := sm_wp_step (⟨(h).1, ⟨fun q8 => (((h).2).1 q8), fun q8 => ⟨fun q7 => ((((((h).2).2 q8)).1 q7) _ rfl), fun q7 => ⟨fun q6 => (((((((h).2).2 q8)).2 q7)).1 q6), fun q6 => ⟨fun q5 => ⟨fun q4 => ((((((((((((h).2).2 q8)).2 q7)).2 q6)).1 q5)).1 q4) _ rfl), fun q4 => (((((((((((h).2).2 q8)).2 q7)).2 q6)).1 q5)).2 q4)⟩, fun q5 => ((((((((((h).2).2 q8)).2 q7)).2 q6)).2 q5) _ rfl)⟩⟩⟩⟩⟩)
theorem u_X12_goesOn_0 {S : sm_C} {d : Nat} {Φ : sm_Z → Prop} {I : sm_I} {L : sm_L} {R : sm_R} (h : (((I 107 11) = (500 : Int32) → sm_wp sm_P S d 123 0 [.ref 107, .int (2 : Int32)] [] (xLay, I, L, (kM R)) (0, 0) (fun z => ∃ (I2 : sm_I) (L3 : sm_L) (R4 : sm_R), z = (none, (xLay, I2, L3, (kM R4))) ∧ Φ (none, (xLay, I2, L3, (kM R4))))) ∧ (¬ (I 107 11) = (500 : Int32) → ∀ I1 : sm_I, I1 = (sm_up I 107 11 ((I 107 11) + (1 : Int32))) → Φ (none, (xLay, I1, L, (kM R)))))) : sm_wp sm_P S (d + 1) 136 0 [.ref 107] [] (xLay, I, L, (kM R)) (0, 0) Φ := sm_wp_step (⟨fun q7 => sm_cvR (((h).1 q7)) (fun I2 L3 R4 q6 => q6), fun q7 => (((h).2 q7) _ rfl)⟩)
theorem u_X12_must_0 {S : sm_C} {d : Nat} {Φ : sm_Z → Prop} {I : sm_I} {L : sm_L} {R : sm_R} {x1 : Int32} (h : sm_wp sm_P S d 143 0 [.ref 107, .int x1] [] (xLay, I, L, (kM R)) (0, 0) (fun z => ∃ (r4 : Int32) (I1 : sm_I) (L2 : sm_L) (R3 : sm_R), z = (some (.int r4), (xLay, I1, L2, (kM R3))) ∧ ((r4 = 0 → sm_wp sm_P S d 123 0 [.ref 107, .int (1 : Int32)] [] (xLay, I1, L2, (kM R3)) (0, 0) (fun z => ∃ (I5 : sm_I) (L6 : sm_L) (R7 : sm_R), z = (none, (xLay, I5, L6, (kM R7))) ∧ Φ (none, (xLay, I5, L6, (kM R7))))) ∧ (¬ r4 = 0 → sm_wp sm_P S d 136 0 [.ref 107] [] (xLay, I1, L2, (kM R3)) (0, 0) (fun z => ∃ (I10 : sm_I) (L11 : sm_L) (R12 : sm_R), z = (none, (xLay, I10, L11, (kM R12))) ∧ Φ (none, (xLay, I10, L11, (kM R12)))))))) : sm_wp sm_P S (d + 1) 165 0 [.ref 107, .int x1] [] (xLay, I, L, (kM R)) (0, 0) Φ := sm_wp_step (sm_ciR (h) (fun r4 I1 L2 R3 q16 => ⟨fun q15 => sm_cvR (((q16).1 q15)) (fun I5 L6 R7 q9 => q9), fun q15 => sm_cvR (((q16).2 q15)) (fun I10 L11 R12 q14 => q14)⟩))
theorem u_X12_token_0 {S : sm_C} {d : Nat} {Φ : sm_Z → Prop} {I : sm_I} {L : sm_L} {R : sm_R} {x1 : Int32} {x2 : Int32} {x3 : Int32} {y4 : Int64} (h : (vp_in (I 107 10) 503) ∧ ∀ I1 : sm_I, I1 = (sm_up I 110 (I 107 10).toNatClampNeg x1) → (vp_in (I1 107 10) 503) ∧ ∀ I2 : sm_I, I2 = (sm_up I1 111 (I1 107 10).toNatClampNeg x2) → (vp_in (I2 107 10) 503) ∧ ∀ I3 : sm_I, I3 = (sm_up I2 112 (I2 107 10).toNatClampNeg x3) → (vp_in (I3 107 10) 503) ∧ ∀ L4 : sm_L, L4 = (sm_up L 113 (I3 107 10).toNatClampNeg y4) → ∀ I5 : sm_I, I5 = (sm_up I3 107 10 ((I3 107 10) + (1 : Int32))) → Φ (none, (xLay, I5, L4, (kM R)))) : sm_wp sm_P S d 204 0 [.ref 107, .int x1, .int x2, .int x3, .long y4] [] (xLay, I, L, (kM R)) (0, 0) Φ := sm_wp_step (⟨(h).1, ⟨(((h).2 _ rfl)).1, ⟨(((((h).2 _ rfl)).2 _ rfl)).1, ⟨(((((((h).2 _ rfl)).2 _ rfl)).2 _ rfl)).1, (((((((((h).2 _ rfl)).2 _ rfl)).2 _ rfl)).2 _ rfl) _ rfl)⟩⟩⟩⟩)
theorem u_X12_byteAt_0 {S : sm_C} {d : Nat} {Φ : sm_Z → Prop} {I : sm_I} {L : sm_L} {R : sm_R} {x1 : Int32} (h : (((I 107 4) ≤ x1 → Φ (some (.int (0 : Int32)), (xLay, I, L, (kM R)))) ∧ (¬ (I 107 4) ≤ x1 → (vp_in x1 2000) ∧ Φ (some (.int ((I 109 x1.toNatClampNeg) &&& (255 : Int32))), (xLay, I, L, (kM R)))))) : sm_wp sm_P S d 108 0 [.ref 107, .int x1] [] (xLay, I, L, (kM R)) (0, 0) Φ := sm_wp_step (⟨fun q1 => ((h).1 q1), fun q1 => ⟨(((h).2 q1)).1, (((h).2 q1)).2⟩⟩)
theorem u_X12_isLetter_0 {S : sm_C} {d : Nat} {Φ : sm_Z → Prop} {I : sm_I} {L : sm_L} {R : sm_R} {x0 : Int32} (h : ((x0 < (97 : Int32) → Φ (some (.int (0 : Int32)), (xLay, I, L, (kM R)))) ∧ (¬ x0 < (97 : Int32) → (((122 : Int32) < x0 → Φ (some (.int (0 : Int32)), (xLay, I, L, (kM R)))) ∧ (¬ (122 : Int32) < x0 → Φ (some (.int (1 : Int32)), (xLay, I, L, (kM R)))))))) : sm_wp sm_P S d 146 0 [.int x0] [] (xLay, I, L, (kM R)) (0, 0) Φ := sm_wp_step (⟨fun q2 => ⟨Or.inl rfl, ((h).1 q2)⟩, fun q2 => ⟨fun q1 => ⟨Or.inl rfl, ((((h).2 q2)).1 q1)⟩, fun q1 => ⟨Or.inr rfl, ((((h).2 q2)).2 q1)⟩⟩⟩)
theorem u_X12_isDigit_0 {S : sm_C} {d : Nat} {Φ : sm_Z → Prop} {I : sm_I} {L : sm_L} {R : sm_R} {x0 : Int32} (h : ((x0 < (48 : Int32) → Φ (some (.int (0 : Int32)), (xLay, I, L, (kM R)))) ∧ (¬ x0 < (48 : Int32) → (((57 : Int32) < x0 → Φ (some (.int (0 : Int32)), (xLay, I, L, (kM R)))) ∧ (¬ (57 : Int32) < x0 → Φ (some (.int (1 : Int32)), (xLay, I, L, (kM R)))))))) : sm_wp sm_P S d 144 0 [.int x0] [] (xLay, I, L, (kM R)) (0, 0) Φ := sm_wp_step (⟨fun q2 => ⟨Or.inl rfl, ((h).1 q2)⟩, fun q2 => ⟨fun q1 => ⟨Or.inl rfl, ((((h).2 q2)).1 q1)⟩, fun q1 => ⟨Or.inr rfl, ((((h).2 q2)).2 q1)⟩⟩⟩)
theorem u_X12_sign_0 {S : sm_C} {d : Nat} {Φ : sm_Z → Prop} {I : sm_I} {L : sm_L} {R : sm_R} {x0 : Int32} (h : ((x0 = (59 : Int32) → Φ (some (.int (4 : Int32)), (xLay, I, L, (kM R)))) ∧ (¬ x0 = (59 : Int32) → ((x0 = (58 : Int32) → Φ (some (.int (5 : Int32)), (xLay, I, L, (kM R)))) ∧ (¬ x0 = (58 : Int32) → ((x0 = (45 : Int32) → Φ (some (.int (9 : Int32)), (xLay, I, L, (kM R)))) ∧ (¬ x0 = (45 : Int32) → Φ (some (.int (3 : Int32)), (xLay, I, L, (kM R)))))))))) : sm_wp sm_P S d 191 0 [.int x0] [] (xLay, I, L, (kM R)) (0, 0) Φ := sm_wp_step (⟨fun q3 => ((h).1 q3), fun q3 => ⟨fun q2 => ((((h).2 q3)).1 q2), fun q2 => ⟨fun q1 => ((((((h).2 q3)).2 q2)).1 q1), fun q1 => ((((((h).2 q3)).2 q2)).2 q1)⟩⟩⟩)
theorem u_X12_appends_0 {S : sm_C} {d : Nat} {Φ : sm_Z → Prop} {I : sm_I} {L : sm_L} {R : sm_R} {y0 : Int64} {x2 : Int32} (h : ((x2 = 0 → Φ (some (.long y0), (xLay, I, L, (kM R)))) ∧ (¬ x2 = 0 → Φ (some (.long (((27 : Int64) * y0) + (((x2 - (97 : Int32)) + (1 : Int32))).toInt64)), (xLay, I, L, (kM R)))))) : sm_wp sm_P S d 95 0 [.long y0, .int x2] [] (xLay, I, L, (kM R)) (0, 0) Φ := sm_wp_step (⟨fun q1 => ((h).1 q1), fun q1 => ((h).2 q1)⟩)
theorem u_X12_isPerson_0 {S : sm_C} {d : Nat} {Φ : sm_Z → Prop} {I : sm_I} {L : sm_L} {R : sm_R} {x1 : Int32} (h : (vp_in (I 107 18) 2) ∧ ∀ n1 : Int32, n1 = ((I 118 (I 107 18).toNatClampNeg) - (1 : Int32)) → sm_wp sm_P S d 141 0 [.int x1, .int (0 : Int32), .int n1] [] (xLay, I, L, (kM R)) (0, 0) (fun z => ∃ (r5 : Int32) (I2 : sm_I) (L3 : sm_L) (R4 : sm_R), z = (some (.int r5), (xLay, I2, L3, (kM R4))) ∧ (r5 = 0 ∨ r5 = 1) ∧ Φ (some (.int r5), (xLay, I2, L3, (kM R4))))) : sm_wp sm_P S (d + 1) 148 0 [.ref 107, .int x1] [] (xLay, I, L, (kM R)) (0, 0) Φ := sm_wp_step (⟨(h).1, sm_ciR (((h).2 _ rfl)) (fun r5 I2 L3 R4 q6 => ⟨(q6).1, (q6).2⟩)⟩)
theorem u_X12_isMinute_0 {S : sm_C} {d : Nat} {Φ : sm_Z → Prop} {I : sm_I} {L : sm_L} {R : sm_R} {x1 : Int32} (h : sm_wp sm_P S d 141 0 [.int x1, .int (0 : Int32), .int (1440 : Int32)] [] (xLay, I, L, (kM R)) (0, 0) (fun z => ∃ (r4 : Int32) (I1 : sm_I) (L2 : sm_L) (R3 : sm_R), z = (some (.int r4), (xLay, I1, L2, (kM R3))) ∧ (r4 = 0 ∨ r4 = 1) ∧ Φ (some (.int r4), (xLay, I1, L2, (kM R3))))) : sm_wp sm_P S (d + 1) 147 0 [.ref 107, .int x1] [] (xLay, I, L, (kM R)) (0, 0) Φ := sm_wp_step (sm_ciR (h) (fun r4 I1 L2 R3 q5 => ⟨(q5).1, (q5).2⟩))
theorem u_X12_gapNow_0 {S : sm_C} {d : Nat} {Φ : sm_Z → Prop} {I : sm_I} {L : sm_L} {R : sm_R} {x1 : Int32} {x2 : Int32} {x3 : Int32} (h : ((x3 = 0 → ∀ n1 : Int32, n1 = (((169 : Int32) + ((13 : Int32) * x1)) + x2) → (vp_in n1 12000) ∧ Φ (some (.int (-(I 143 n1.toNatClampNeg))), (xLay, I, L, (kM R)))) ∧ (¬ x3 = 0 → ∀ n2 : Int32, n2 = (((169 : Int32) + ((13 : Int32) * x2)) + x1) → (vp_in n2 12000) ∧ Φ (some (.int (I 143 n2.toNatClampNeg)), (xLay, I, L, (kM R)))))) : sm_wp sm_P S d 129 0 [.ref 107, .int x1, .int x2, .int x3] [] (xLay, I, L, (kM R)) (0, 0) Φ := sm_wp_step (⟨fun q3 => ⟨((((h).1 q3) _ rfl)).1, ((((h).1 q3) _ rfl)).2⟩, fun q3 => ⟨((((h).2 q3) _ rfl)).1, ((((h).2 q3) _ rfl)).2⟩⟩)
theorem u_X12_asks_0 {S : sm_C} {d : Nat} {Φ : sm_Z → Prop} {I : sm_I} {L : sm_L} {R : sm_R} {x1 : Int32} (h : ((0 ≤ x1 → sm_wp sm_P S d 135 0 [.ref 107] [] (xLay, I, L, (kM R)) (0, 0) (fun z => ∃ (I1 : sm_I) (L2 : sm_L) (R3 : sm_R), z = (none, (xLay, I1, L2, (kM R3))) ∧ (((I1 107 71) = 0 → (((I1 107 73) ≤ x1 → Φ (some (.int (-1 : Int32)), (xLay, I1, L2, (kM R3)))) ∧ (¬ (I1 107 73) ≤ x1 → Φ (some (.int (0 : Int32)), (xLay, I1, L2, (kM R3)))))) ∧ (¬ (I1 107 71) = 0 → Φ (some (.int (-3 : Int32)), (xLay, I1, L2, (kM R3))))))) ∧ (¬ 0 ≤ x1 → Φ (some (.int (-1 : Int32)), (xLay, I, L, (kM R)))))) : sm_wp sm_P S (d + 1) 97 0 [.ref 107, .int x1] [] (xLay, I, L, (kM R)) (0, 0) Φ := sm_wp_step (⟨fun q8 => sm_cvR (((h).1 q8)) (fun I1 L2 R3 q7 => ⟨fun q6 => ⟨fun q5 => ((((q7).1 q6)).1 q5), fun q5 => ((((q7).1 q6)).2 q5)⟩, fun q6 => ((q7).2 q6)⟩), fun q8 => ((h).2 q8)⟩)
theorem u_X12_changes_0 {S : sm_C} {d : Nat} {Φ : sm_Z → Prop} {I : sm_I} {L : sm_L} {R : sm_R} (h : ∀ I1 : sm_I, I1 = (sm_up (sm_up I 107 70 (0 : Int32)) 107 79 (0 : Int32)) → Φ (none, (xLay, I1, L, (kM R)))) : sm_wp sm_P S d 110 0 [.ref 107] [] (xLay, I, L, (kM R)) (0, 0) Φ := sm_wp_step (⟨Or.inl rfl, ⟨Or.inl rfl, (h _ rfl)⟩⟩)
theorem u_X12_been_0 {S : sm_C} {d : Nat} {Φ : sm_Z → Prop} {I : sm_I} {L : sm_L} {R : sm_R} {x1 : Int32} {x2 : Int32} {x3 : Int32} (h : sm_wp sm_P S d 148 0 [.ref 107, .int x1] [] (xLay, I, L, (kM R)) (0, 0) (fun z => ∃ (r4 : Int32) (I1 : sm_I) (L2 : sm_L) (R3 : sm_R), z = (some (.int r4), (xLay, I1, L2, (kM R3))) ∧ ((r4 = 0 → Φ (some (.int (-1 : Int32)), (xLay, I1, L2, (kM R3)))) ∧ (¬ r4 = 0 → (vp_in (I1 107 18) 2) ∧ ∀ n5 : Int32, n5 = ((I1 119 (I1 107 18).toNatClampNeg) - (1 : Int32)) → sm_wp sm_P S d 141 0 [.int x2, .int (0 : Int32), .int n5] [] (xLay, I1, L2, (kM R3)) (0, 0) (fun z => ∃ (r9 : Int32) (I6 : sm_I) (L7 : sm_L) (R8 : sm_R), z = (some (.int r9), (xLay, I6, L7, (kM R8))) ∧ ((r9 = 0 → Φ (some (.int (-1 : Int32)), (xLay, I6, L7, (kM R8)))) ∧ (¬ r9 = 0 → sm_wp sm_P S d 170 0 [.ref 107, .int x1, .int x2] [] (xLay, I6, L7, (kM R8)) (0, 0) (fun z => ∃ (I10 : sm_I) (L11 : sm_L) (R12 : sm_R), z = (none, (xLay, I10, L11, (kM R12))) ∧ ∀ I14 : sm_I, I14 = (sm_up I10 107 90 (0 : Int32)) → (vp_in (I14 107 18) 2) ∧ ∀ n15 : Int32, n15 = ((I14 122 (I14 107 18).toNatClampNeg) + (2 : Int32)) → sm_wp sm_P S d 103 0 [.ref 107, .int n15] [] (xLay, I14, L11, (kM R12)) (0, 0) (fun z => ∃ (r19 : Int32) (I16 : sm_I) (L17 : sm_L) (R18 : sm_R), z = (some (.int r19), (xLay, I16, L17, (kM R18))) ∧ ((r19 = 0 → (((I16 107 64) = 0 → (((I16 107 90) = 0 → Φ (some (.int (-2 : Int32)), (xLay, I16, L17, (kM R18)))) ∧ (¬ (I16 107 90) = 0 → ((x3 = 0 → Φ (some (.int (I16 107 91)), (xLay, I16, L17, (kM R18)))) ∧ (¬ x3 = 0 → Φ (some (.int (I16 107 92)), (xLay, I16, L17, (kM R18)))))))) ∧ (¬ (I16 107 64) = 0 → Φ (some (.int (-3 : Int32)), (xLay, I16, L17, (kM R18)))))) ∧ (¬ r19 = 0 → sm_wp sm_P S d 162 0 [.ref 107] [] (xLay, I16, L17, (kM R18)) (0, 0) (fun z => ∃ (I23 : sm_I) (L24 : sm_L) (R25 : sm_R), z = (none, (xLay, I23, L24, (kM R25))) ∧ (((I23 107 64) = 0 → (((I23 107 90) = 0 → Φ (some (.int (-2 : Int32)), (xLay, I23, L24, (kM R25)))) ∧ (¬ (I23 107 90) = 0 → ((x3 = 0 → Φ (some (.int (I23 107 91)), (xLay, I23, L24, (kM R25)))) ∧ (¬ x3 = 0 → Φ (some (.int (I23 107 92)), (xLay, I23, L24, (kM R25)))))))) ∧ (¬ (I23 107 64) = 0 → Φ (some (.int (-3 : Int32)), (xLay, I23, L24, (kM R25))))))))))))))))) : sm_wp sm_P S (d + 1) 102 0 [.ref 107, .int x1, .int x2, .int x3] [] (xLay, I, L, (kM R)) (0, 0) Φ := sm_wp_step (sm_ciR (h) (fun r4 I1 L2 R3 q37 => ⟨fun q36 => ((q37).1 q36), fun q36 => ⟨(((q37).2 q36)).1, sm_ciR (((((q37).2 q36)).2 _ rfl)) (fun r9 I6 L7 R8 q35 => ⟨fun q34 => ((q35).1 q34), fun q34 => sm_cvR (((q35).2 q34)) (fun I10 L11 R12 q33 => ⟨Or.inl rfl, ⟨((q33 _ rfl)).1, sm_ciR ((((q33 _ rfl)).2 _ rfl)) (fun r19 I16 L17 R18 q32 => ⟨fun q31 => ⟨fun q22 => ⟨fun q21 => ((((((q32).1 q31)).1 q22)).1 q21), fun q21 => ⟨fun q20 => ((((((((q32).1 q31)).1 q22)).2 q21)).1 q20), fun q20 => ((((((((q32).1 q31)).1 q22)).2 q21)).2 q20)⟩⟩, fun q22 => ((((q32).1 q31)).2 q22)⟩, fun q31 => sm_cvR (((q32).2 q31)) (fun I23 L24 R25 q30 => ⟨fun q29 => ⟨fun q28 => ((((q30).1 q29)).1 q28), fun q28 => ⟨fun q27 => ((((((q30).1 q29)).2 q28)).1 q27), fun q27 => ((((((q30).1 q29)).2 q28)).2 q27)⟩⟩, fun q29 => ((q30).2 q29)⟩)⟩)⟩⟩)⟩)⟩⟩))
end
section
/-! methods checked by the engine -/
def mlc_1 : en_Ct := (106, [(2, 107, 0), (0, 0, 11), (0, 0, 11), (0, -2147483648, 2147483647)], [], (0, 0, 1), [(143, [])], 0)
def mlu_1 : List en_Cu := [(5, [(2, 107, 0), (0, 0, 11), (0, 0, 11), (0, -2147483648, 1439), (0, 0, 11830), (0, 0, 13)], [], [], 419, [0, 0, 0, 0, 0, -30]),
  (7, [(2, 107, 0), (0, 0, 11), (0, 0, 11), (0, -2147483648, 1439), (0, 0, 11830), (0, 0, 12), (0, 0, 13)], [], [], 417, [0, 0, 0, 0, 0, -30, -2])]
/-! X12_bound -/
theorem mlh_1 {Sc : sm_C} : en_hold ml_tb mlX sm_P Sc mlc_1 := en_chk_ok mlX_ok (T := []) (cuts := mlu_1) (fun _ h => absurd h List.not_mem_nil) (by decide +kernel)
def mlc_2 : en_Ct := (98, [(2, 107, 0), (0, 0, 11), (0, 0, 11), (0, -2147483648, 2147483647)], [], (0, 0, 1), [(143, [])], 1)
def mlu_2 : List en_Cu := []
/-! X12_atMost -/
theorem mlh_2 {Sc : sm_C} : en_hold ml_tb mlX sm_P Sc mlc_2 := en_chk_ok mlX_ok (T := [mlc_1]) (cuts := mlu_2) (List.forall_mem_cons.mpr ⟨mlh_1, fun _ h => absurd h List.not_mem_nil⟩) (by decide +kernel)
def mlc_3 : en_Ct := (104, [(2, 107, 0), (0, 0, 11), (0, 0, 10), (0, -2147483648, 2147483647), (0, -2147483648, 2147483647)], [], (0, 0, 1), [(143, [])], 2)
def mlu_3 : List en_Cu := []
/-! X12_between -/
theorem mlh_3 {Sc : sm_C} : en_hold ml_tb mlX sm_P Sc mlc_3 := en_chk_ok mlX_ok (T := [mlc_2]) (cuts := mlu_3) (List.forall_mem_cons.mpr ⟨mlh_2, fun _ h => absurd h List.not_mem_nil⟩) (by decide +kernel)
def mlc_4 : en_Ct := (139, [(2, 107, 0), (0, 0, 248), (0, 0, 1441)], [], (0, 0, 1), [(143, [])], 3)
def mlu_4 : List en_Cu := []
/-! X12_holdsSpan -/
theorem mlh_4 {Sc : sm_C} : en_hold ml_tb mlX sm_P Sc mlc_4 := en_chk_ok mlX_ok (T := [mlc_3]) (cuts := mlu_4) (List.forall_mem_cons.mpr ⟨mlh_3, fun _ h => absurd h List.not_mem_nil⟩) (by decide +kernel)
def mlc_5 : en_Ct := (103, [(2, 107, 0), (0, 1, 12)], [], (0, 0, 1), [(107, [51, 52]), (143, [])], 4)
def mlu_5 : List en_Cu := [(1, [(2, 107, 0), (0, 0, 169)], [], [], 371, [0, -2]),
  (19, [(2, 107, 0), (0, 0, 1), (0, 0, 6)], [], [], 13, [0, 0, -2]),
  (8, [(2, 107, 0), (0, 0, 1), (0, 240, 248)], [], [], 511, [0, 0, -2])]
/-! X12_begins -/
theorem mlh_5 {Sc : sm_C} : en_hold ml_tb mlX sm_P Sc mlc_5 := en_chk_ok mlX_ok (T := [mlc_3, mlc_1, mlc_4]) (cuts := mlu_5) (List.forall_mem_cons.mpr ⟨mlh_3, List.forall_mem_cons.mpr ⟨mlh_1, List.forall_mem_cons.mpr ⟨mlh_4, fun _ h => absurd h List.not_mem_nil⟩⟩⟩) (by decide +kernel)
def mlc_6 : en_Ct := (115, [(2, 107, 0), (0, 0, 54), (0, 0, 3)], [], (0, 0, 1), [(143, [])], 4)
def mlu_6 : List en_Cu := [(5, [(2, 107, 0), (0, 0, 79), (0, 0, 1441), (0, 0, 240)], [], [], 481, [0, 0, 0, -2])]
/-! X12_chooses -/
theorem mlh_6 {Sc : sm_C} : en_hold ml_tb mlX sm_P Sc mlc_6 := en_chk_ok mlX_ok (T := [mlc_4, mlc_2]) (cuts := mlu_6) (List.forall_mem_cons.mpr ⟨mlh_4, List.forall_mem_cons.mpr ⟨mlh_2, fun _ h => absurd h List.not_mem_nil⟩⟩) (by decide +kernel)
def mlc_7 : en_Ct := (115, [(2, 107, 0), (0, 60, 69), (0, 0, 3)], [], (0, 0, 1), [(143, [])], 2)
def mlu_7 : List en_Cu := []
/-! X12_chooses -/
theorem mlh_7 {Sc : sm_C} : en_hold ml_tb mlX sm_P Sc mlc_7 := en_chk_ok mlX_ok (T := [mlc_2]) (cuts := mlu_7) (List.forall_mem_cons.mpr ⟨mlh_2, fun _ h => absurd h List.not_mem_nil⟩) (by decide +kernel)
def mlc_8 : en_Ct := (116, [(2, 107, 0), (0, 0, 69), (0, 1, 70)], [], (9, 0, 0), [(143, [])], 0)
def mlu_8 : List en_Cu := [(1, [(2, 107, 0), (0, 0, 69), (0, 1, 70), (0, 0, 169)], [], [], 339, [0, 0, 0, -2])]
/-! X12_copies -/
theorem mlh_8 {Sc : sm_C} : en_hold ml_tb mlX sm_P Sc mlc_8 := en_chk_ok mlX_ok (T := []) (cuts := mlu_8) (fun _ h => absurd h List.not_mem_nil) (by decide +kernel)
def mlc_10 : en_Ct := (208, [(2, 107, 0)], [], (0, 0, 1023), [], 0)
def mlu_10 : List en_Cu := [(1, [(2, 107, 0), (0, 0, 1023), (0, 0, 10)], [], [], 21, [0, 0, -2])]
/-! X12_undoubted -/
theorem mlh_10 {Sc : sm_C} : en_hold ml_tb mlX sm_P Sc mlc_10 := en_chk_ok mlX_ok (T := []) (cuts := mlu_10) (fun _ h => absurd h List.not_mem_nil) (by decide +kernel)
def mlc_12 : en_Ct := (187, [(2, 107, 0), (0, 0, 70)], [], (9, 0, 0), [(107, [90, 91, 92])], 0)
def mlu_12 : List en_Cu := []
/-! X12_sees -/
def mlc_14 : en_Ct := (107, [(2, 107, 0)], [], (0, -2, 44), [], 0)
def mlu_14 : List en_Cu := [(1, [(2, 107, 0), (0, 0, 45)], [], [], 91, [0, -2])]
/-! X12_breaks -/
def mlc_15 : en_Ct := (168, [(2, 107, 0), (0, 0, 69), (0, 0, 3), (0, 0, 1)], [(107, 63, 1, 1000)], (9, 0, 0), [(154, []), (155, []), (156, [])], 0)
def mlu_15 : List en_Cu := []
/-! X12_notes -/
theorem mlh_15 {Sc : sm_C} : en_hold ml_tb mlX sm_P Sc mlc_15 := en_chk_ok mlX_ok (T := []) (cuts := mlu_15) (fun _ h => absurd h List.not_mem_nil) (by decide +kernel)
/-! X12_changes -/
def mlc_22 : en_Ct := (194, [(2, 107, 0)], [], (0, 0, 1023), [], 0)
def mlu_22 : List en_Cu := [(1, [(2, 107, 0), (0, 0, 1023), (0, 0, 10)], [], [], 21, [0, 0, -2])]
/-! X12_sureOnes -/
def mlc_24 : en_Ct := (207, [(2, 107, 0), (0, -1, 1023)], [], (0, -2147483648, 2147483647), [], 0)
def mlu_24 : List en_Cu := [(1, [(2, 107, 0), (0, -1, 1023), (0, -2147483648, 2147483647), (0, 0, 10)], [], [], 21, [0, 0, 0, -2])]
/-! X12_trustIn -/
def mlc_26 : en_Ct := (113, [(2, 107, 0), (0, 0, 999), (0, 0, 54)], [], (0, -1, 3), [], 0)
def mlu_26 : List en_Cu := [(1, [(2, 107, 0), (0, 0, 999), (0, 0, 54), (0, -1, 3), (0, 0, 70)], [], [], 141, [0, 0, 0, 0, -2])]
/-! X12_choiceOf -/
def mlc_30 : en_Ct := (120, [(2, 107, 0), (0, -2147483648, 2147483647), (0, 0, 1)], [], (0, 0, 1), [(107, [70, 79]), (137, []), (160, [])], 2)
def mlu_30 : List en_Cu := []
/-! X12_doubt -/
def mlc_34 : en_Ct := (125, [(2, 107, 0)], [], (0, -1, 5), [(107, [54, 70, 79])], 1)
def mlu_34 : List en_Cu := []
/-! X12_fewer -/
def mlc_35 : en_Ct := (94, [(2, 107, 0), (0, 0, 4), (0, 0, 2)], [], (0, 0, 1), [(143, [])], 3)
def mlu_35 : List en_Cu := []
/-! X12_answers -/
def mlc_36 : en_Ct := (145, [(2, 107, 0), (0, -2147483648, 2147483647), (0, -2147483648, 2147483647)], [], (0, 0, 1), [(107, [52]), (143, [])], 4)
def mlu_36 : List en_Cu := [(1, [(2, 107, 0), (0, -2147483648, 2147483647), (0, -2147483648, 2147483647), (0, 0, 35)], [], [], 503, [0, 0, 0, -14]),
  (5, [(2, 107, 0), (0, -2147483648, 2147483647), (0, -2147483648, 2147483647), (0, 0, 34), (0, 0, 1), (0, 0, 5)], [], [], 501, [0, 0, 0, -14, 0, -2])]
/-! X12_isLeft -/
def mlc_54 : en_Ct := (163, [(2, 107, 0), (0, -2147483648, 2147483647), (0, -2147483648, 2147483647), (0, -2147483648, 2147483647), (0, -2147483648, 2147483647)], [], (0, -1, 6), [(107, [54, 70, 79]), (144, []), (145, []), (146, []), (147, [])], 2)
def mlu_54 : List en_Cu := []
/-! X12_more -/
def mlc_55 : en_Ct := (164, [(2, 107, 0), (0, -2147483648, 2147483647), (0, -2147483648, 2147483647)], [], (0, -2147483648, 2147483647), [], 1)
def mlu_55 : List en_Cu := []
/-! X12_move -/
def mlc_57 : en_Ct := (172, [(2, 107, 0), (0, -2147483648, 2147483647), (0, -2147483648, 2147483647)], [], (0, 0, 1), [(160, [])], 3)
def mlu_57 : List en_Cu := []
/-! X12_pick -/
def mlc_58 : en_Ct := (173, [(2, 107, 0)], [], (0, 0, 1), [(107, [51, 52, 53, 68]), (143, [])], 5)
def mlu_58 : List en_Cu := [(3, [(2, 107, 0), (0, 0, 55)], [], [], 111, [0, -2])]
/-! X12_pickedStands -/
def mlc_59 : en_Ct := (174, [(2, 107, 0)], [], (0, -1, 2000), [], 0)
def mlu_59 : List en_Cu := []
/-! X12_place -/
def mlc_64 : en_Ct := (210, [(2, 107, 0)], [], (9, 0, 0), [(139, [])], 0)
def mlu_64 : List en_Cu := [(1, [(2, 107, 0), (0, 0, 36)], [], [], 605, [0, -2]),
  (4, [(2, 107, 0), (0, 0, 6)], [], [], 531, [0, -76]),
  (6, [(2, 107, 0), (0, 0, 5), (0, 0, 36)], [], [], 529, [0, -76, -2])]
/-! X12_walks -/
theorem mlh_64 {Sc : sm_C} : en_hold ml_tb mlX sm_P Sc mlc_64 := en_chk_ok mlX_ok (T := []) (cuts := mlu_64) (fun _ h => absurd h List.not_mem_nil) (by decide +kernel)
def mlc_66 : en_Ct := (193, [(2, 107, 0)], [], (0, 0, 1), [(107, [51, 52, 53, 68]), (143, []), (162, [])], 6)
def mlu_66 : List en_Cu := [(1, [(2, 107, 0), (0, 0, 60)], [], [], 121, [0, -2])]
/-! X12_stands -/
def mlc_67 : en_Ct := (185, [(2, 107, 0)], [], (0, 0, 1), [(107, [51, 52, 53, 68, 87]), (143, []), (161, []), (162, [])], 7)
def mlu_67 : List en_Cu := [(3, [(2, 107, 0), (0, 0, 0)], [], [(107, 87, 0, 0)], 111, [0, -2]),
  (3, [(2, 107, 0), (0, 1, 1)], [], [(107, 87, 0, 1)], 111, [0, -2]),
  (3, [(2, 107, 0), (0, 10, 10)], [], [(107, 87, 0, 10)], 111, [0, -2]),
  (3, [(2, 107, 0), (0, 11, 11)], [], [(107, 87, 0, 11)], 111, [0, -2]),
  (3, [(2, 107, 0), (0, 12, 12)], [], [(107, 87, 0, 12)], 111, [0, -2]),
  (3, [(2, 107, 0), (0, 13, 13)], [], [(107, 87, 0, 13)], 111, [0, -2]),
  (3, [(2, 107, 0), (0, 14, 14)], [], [(107, 87, 0, 14)], 111, [0, -2]),
  (3, [(2, 107, 0), (0, 15, 15)], [], [(107, 87, 0, 15)], 111, [0, -2]),
  (3, [(2, 107, 0), (0, 16, 16)], [], [(107, 87, 0, 16)], 111, [0, -2]),
  (3, [(2, 107, 0), (0, 17, 17)], [], [(107, 87, 0, 17)], 111, [0, -2]),
  (3, [(2, 107, 0), (0, 18, 18)], [], [(107, 87, 0, 18)], 111, [0, -2]),
  (3, [(2, 107, 0), (0, 19, 19)], [], [(107, 87, 0, 19)], 111, [0, -2]),
  (3, [(2, 107, 0), (0, 2, 2)], [], [(107, 87, 0, 2)], 111, [0, -2]),
  (3, [(2, 107, 0), (0, 20, 20)], [], [(107, 87, 0, 20)], 111, [0, -2]),
  (3, [(2, 107, 0), (0, 21, 21)], [], [(107, 87, 0, 21)], 111, [0, -2]),
  (3, [(2, 107, 0), (0, 22, 22)], [], [(107, 87, 0, 22)], 111, [0, -2]),
  (3, [(2, 107, 0), (0, 23, 23)], [], [(107, 87, 0, 23)], 111, [0, -2]),
  (3, [(2, 107, 0), (0, 24, 24)], [], [(107, 87, 0, 24)], 111, [0, -2]),
  (3, [(2, 107, 0), (0, 25, 25)], [], [(107, 87, 0, 25)], 111, [0, -2]),
  (3, [(2, 107, 0), (0, 26, 26)], [], [(107, 87, 0, 26)], 111, [0, -2]),
  (3, [(2, 107, 0), (0, 27, 27)], [], [(107, 87, 0, 27)], 111, [0, -2]),
  (3, [(2, 107, 0), (0, 28, 28)], [], [(107, 87, 0, 28)], 111, [0, -2]),
  (3, [(2, 107, 0), (0, 29, 29)], [], [(107, 87, 0, 29)], 111, [0, -2]),
  (3, [(2, 107, 0), (0, 3, 3)], [], [(107, 87, 0, 3)], 111, [0, -2]),
  (3, [(2, 107, 0), (0, 30, 30)], [], [(107, 87, 0, 30)], 111, [0, -2]),
  (3, [(2, 107, 0), (0, 31, 31)], [], [(107, 87, 0, 31)], 111, [0, -2]),
  (3, [(2, 107, 0), (0, 32, 32)], [], [(107, 87, 0, 32)], 111, [0, -2]),
  (3, [(2, 107, 0), (0, 33, 33)], [], [(107, 87, 0, 33)], 111, [0, -2]),
  (3, [(2, 107, 0), (0, 34, 34)], [], [(107, 87, 0, 34)], 111, [0, -2]),
  (3, [(2, 107, 0), (0, 35, 35)], [], [(107, 87, 0, 35)], 111, [0, -2]),
  (3, [(2, 107, 0), (0, 36, 36)], [], [(107, 87, 0, 36)], 111, [0, -2]),
  (3, [(2, 107, 0), (0, 37, 37)], [], [(107, 87, 0, 37)], 111, [0, -2]),
  (3, [(2, 107, 0), (0, 38, 38)], [], [(107, 87, 0, 38)], 111, [0, -2]),
  (3, [(2, 107, 0), (0, 39, 39)], [], [(107, 87, 0, 39)], 111, [0, -2]),
  (3, [(2, 107, 0), (0, 4, 4)], [], [(107, 87, 0, 4)], 111, [0, -2]),
  (3, [(2, 107, 0), (0, 40, 40)], [], [(107, 87, 0, 40)], 111, [0, -2]),
  (3, [(2, 107, 0), (0, 41, 41)], [], [(107, 87, 0, 41)], 111, [0, -2]),
  (3, [(2, 107, 0), (0, 42, 42)], [], [(107, 87, 0, 42)], 111, [0, -2]),
  (3, [(2, 107, 0), (0, 43, 43)], [], [(107, 87, 0, 43)], 111, [0, -2]),
  (3, [(2, 107, 0), (0, 44, 44)], [], [(107, 87, 0, 44)], 111, [0, -2]),
  (3, [(2, 107, 0), (0, 45, 45)], [], [(107, 87, 0, 45)], 111, [0, -2]),
  (3, [(2, 107, 0), (0, 46, 46)], [], [(107, 87, 0, 46)], 111, [0, -2]),
  (3, [(2, 107, 0), (0, 47, 47)], [], [(107, 87, 0, 47)], 111, [0, -2]),
  (3, [(2, 107, 0), (0, 48, 48)], [], [(107, 87, 0, 48)], 111, [0, -2]),
  (3, [(2, 107, 0), (0, 49, 49)], [], [(107, 87, 0, 49)], 111, [0, -2]),
  (3, [(2, 107, 0), (0, 5, 5)], [], [(107, 87, 0, 5)], 111, [0, -2]),
  (3, [(2, 107, 0), (0, 50, 50)], [], [(107, 87, 0, 50)], 111, [0, -2]),
  (3, [(2, 107, 0), (0, 51, 51)], [], [(107, 87, 0, 51)], 111, [0, -2]),
  (3, [(2, 107, 0), (0, 52, 52)], [], [(107, 87, 0, 52)], 111, [0, -2]),
  (3, [(2, 107, 0), (0, 53, 53)], [], [(107, 87, 0, 53)], 111, [0, -2]),
  (3, [(2, 107, 0), (0, 54, 54)], [], [(107, 87, 0, 54)], 111, [0, -2]),
  (3, [(2, 107, 0), (0, 55, 55)], [], [(107, 87, 0, 55)], 111, [0, -2]),
  (3, [(2, 107, 0), (0, 6, 6)], [], [(107, 87, 0, 6)], 111, [0, -2]),
  (3, [(2, 107, 0), (0, 7, 7)], [], [(107, 87, 0, 7)], 111, [0, -2]),
  (3, [(2, 107, 0), (0, 8, 8)], [], [(107, 87, 0, 8)], 111, [0, -2]),
  (3, [(2, 107, 0), (0, 9, 9)], [], [(107, 87, 0, 9)], 111, [0, -2])]
/-! X12_rings -/
def mlc_68 : en_Ct := (183, [(2, 107, 0)], [], (0, -2, 60), [(107, [51, 52, 53, 68, 87]), (143, []), (161, []), (162, [])], 8)
def mlu_68 : List en_Cu := []
/-! X12_ring -/
def mlc_69 : en_Ct := (184, [(2, 107, 0), (0, -2147483648, 2147483647)], [], (0, -1, 144), [(107, [51, 52, 53, 68, 87]), (143, []), (161, []), (162, [])], 8)
def mlu_69 : List en_Cu := []
/-! X12_ringAt -/
def mlc_70 : en_Ct := (188, [(2, 107, 0), (0, -2147483648, 2147483647), (0, -2147483648, 2147483647)], [], (0, 0, 1), [(138, [])], 2)
def mlu_70 : List en_Cu := []
/-! X12_set -/
def mlc_74 : en_Ct := (209, [(2, 107, 0), (0, -2147483648, 2147483647), (0, -2147483648, 2147483647)], [], (0, -2147483648, 2147483647), [], 1)
def mlu_74 : List en_Cu := []
/-! X12_walk -/
end
section
/-! worlds of the reference -/
theorem ml_refs : ∀ j, j < 97 → (match kMl[j]? with
  | some (some q) => decide (en_refs ml_tb 107 j = [q])
  | _ => true) = true := by decide +kernel
theorem ml_R {w : sm_W} (hm : en_mem ml_tb mlX w) : kM w.2.2.2 = w.2.2.2 := kM_eq (fun j q hq => by
  have hj : j < 97 := by
    have : j < kMl.length := by
      rcases Nat.lt_or_ge j kMl.length with h | h
      · exact h
      · rw [List.getElem?_eq_none h] at hq; cases hq
    exact this
  have e := ml_refs j hj
  rw [hq] at e
  have e : en_refs ml_tb 107 j = [q] := of_decide_eq_true e
  obtain ⟨r, h1, h2⟩ := hm.2.2.1 107 j (by rw [e]; exact List.cons_ne_nil _ _)
  rw [e] at h1
  rw [h2, List.mem_singleton.mp h1])
theorem ml_wr {I : sm_I} {L : sm_L} {R : sm_R} {p j : Nat} {x : Int32} (hm : en_mem ml_tb mlX (xLay, I, L, R)) (hX : mlX (xLay, sm_up I p j x, L, R)) (hq : ∀ q, en_int ml_tb p j = some q → q.1 ≤ x.toInt ∧ x.toInt ≤ q.2) : en_mem ml_tb mlX (xLay, sm_up I p j x, L, R) := by
  refine ⟨hm.1, ?_, hm.2.2.1, hm.2.2.2.1, hX⟩
  intro a b q h
  show q.1 ≤ (sm_up I p j x a b).toInt ∧ (sm_up I p j x a b).toInt ≤ q.2
  by_cases c : a = p ∧ b = j
  · obtain ⟨c1, c2⟩ := c
    subst c1; subst c2
    rw [en_up_eq]; exact hq q h
  · rw [en_up_ne _ _ _ _ c]; exact hm.2.1 a b q h
/-- a field -/
theorem ml_wf {I : sm_I} {L : sm_L} {R : sm_R} {p j : Nat} {x : Int32} {q : Int × Int} (hm : en_mem ml_tb mlX (xLay, I, L, R)) (hf : en_fix ml_tb p j = false) (e : en_int ml_tb p j = some q) (hx : q.1 ≤ x.toInt ∧ x.toInt ≤ q.2) : en_mem ml_tb mlX (xLay, sm_up I p j x, L, R) := ml_wr hm (mlX_ok.1 _ (I, L, R) _ _ _ hf hm.2.2.2.2) (fun r hr => by rw [e] at hr; rw [← Option.some.inj hr]; exact hx)
/-- an element of a row -/
theorem ml_we {I : sm_I} {L : sm_L} {R : sm_R} {p j n : Nat} {x : Int32} {q : Int × Int} (hm : en_mem ml_tb mlX (xLay, I, L, R)) (hX : mlX (xLay, sm_up I p j x, L, R)) (e : en_int ml_tb p j = bif Nat.blt j n then some q else none) (hx : q.1 ≤ x.toInt ∧ x.toInt ≤ q.2) : en_mem ml_tb mlX (xLay, sm_up I p j x, L, R) := ml_wr hm hX (fun r hr => by
  rw [e] at hr
  cases c : Nat.blt j n with
  | true => rw [c] at hr; rw [← Option.some.inj hr]; exact hx
  | false => rw [c] at hr; cases hr)
theorem ml_fr {W : en_W} {w0 : sm_W} {lay : List (Nat × Nat)} {I : sm_I} {L : sm_L} {R : sm_R} {p j : Nat} {x : Int32} (h : en_fr W w0 (lay, I, L, R)) (hw : en_wok W p j = true) : en_fr W w0 (lay, sm_up I p j x, L, R) := by
  refine ⟨h.1, fun a b hab => ⟨?_, (h.2 a b hab).2⟩⟩
  show sm_up I p j x a b = w0.2.1 a b
  rw [en_up_ne _ _ _ _ (fun c => by rw [c.1, c.2, hw] at hab; cases hab)]
  exact (h.2 a b hab).1
theorem ml_byte (x : Int32) : -128 ≤ (vp_nar .byte x).toInt ∧ (vp_nar .byte x).toInt ≤ 127 := by
  show -128 ≤ (x.toInt8.toInt32).toInt ∧ (x.toInt8.toInt32).toInt ≤ 127
  rw [Int8.toInt_toInt32]
  exact ⟨Int8.le_toInt _, Int8.toInt_le _⟩
theorem ml_taped {w : sm_W} (hm : en_mem ml_tb mlX w) : 0 ≤ (w.2.1 107 2).toInt ∧ (w.2.1 107 2).toInt ≤ 2000 := hm.2.1 107 2 (0, 2000) (by decide +kernel)
end
section
/-! back, put, feed -/
theorem mx_back {S : sm_C} {d : Nat} {Φ : sm_Z → Prop} {I : sm_I} {L : sm_L} {R : sm_R} {x : Int32} (hm : en_mem ml_tb mlX (xLay, I, L, R)) (h0 : (x.toInt < 0 ∨ (I 107 2).toInt < x.toInt) → Φ (some (.int (-1)), (xLay, I, L, R))) (h1 : ∀ I' : sm_I, 0 ≤ x.toInt → x.toInt ≤ (I 107 2).toInt → I' = sm_up I 107 2 (I 107 2 - x) → (I 107 2 - x).toInt = (I 107 2).toInt - x.toInt → en_mem ml_tb mlX (xLay, I', L, R) → Φ (some (.int (I 107 2 - x)), (xLay, I', L, R))) : sm_wp sm_P S d 99 0 [.ref 107, .int x] [] (xLay, I, L, R) (0, 0) Φ := by
  have e : kM R = R := ml_R hm
  rw [← e]
  have b := ml_taped hm
  have b : 0 ≤ (I 107 2).toInt ∧ (I 107 2).toInt ≤ 2000 := b
  refine v_X12_back_0 ⟨fun a => ?_, fun a => ⟨fun c I1 e1 => ?_, fun c => ?_⟩⟩
  · rw [e]; rw [kl_lt, kl_0] at a; exact h0 (Or.inl a)
  · have a := kl_nlt0 a
    have c := kl_le.mp c
    have s : (I 107 2 - x).toInt = (I 107 2).toInt - x.toInt := by
      rw [Int32.toInt_sub]; exact en_bmod (by omega) (by omega) (Or.inl rfl)
    have g : I1 107 2 = I 107 2 - x := by rw [e1, en_up_eq]
    rw [e, g]
    refine h1 I1 a c e1 s ?_
    rw [e1]
    exact ml_wf hm (by decide +kernel) (q := (0, 2000)) (by decide +kernel) (by show 0 ≤ _ ∧ _ ≤ (2000 : Int); omega)
  · rw [e]; exact h0 (Or.inr (kl_nle c))
end
section
/-! lists -/
def ml_L (I I' : sm_I) : Prop := ∀ c j, c ≠ 148 → ¬ (c = 107 ∧ j = 59) → I' c j = I c j
theorem ml_L_tr {I I1 I2 : sm_I} (h1 : ml_L I I1) (h2 : ml_L I1 I2) : ml_L I I2 := fun c j a b => (h2 c j a b).trans (h1 c j a b)
theorem ml_add {I I1 I2 : sm_I} {L : sm_L} {R : sm_R} {v : Int32} (hm : en_mem ml_tb mlX (xLay, I, L, R)) (hn : (I 107 59).toInt ≤ 69) (hv : 0 ≤ v.toInt ∧ v.toInt ≤ 69) (hh : v.toInt ≤ 54 ∨ 60 ≤ v.toInt) (e1 : I1 = sm_up I 148 (I 107 59).toNatClampNeg v) (e2 : I2 = sm_up I1 107 59 (I1 107 59 + 1)) : en_mem ml_tb mlX (xLay, I2, L, R) ∧ (I2 107 59).toInt = (I 107 59).toInt + 1 ∧ ml_L I I2 := by
  have b : 0 ≤ (I 107 59).toInt ∧ (I 107 59).toInt ≤ 70 := hm.2.1 107 59 (0, 70) (by decide +kernel)
  have g1 : I1 107 59 = I 107 59 := by rw [e1, en_up_ne _ _ _ _ (fun c => absurd c.1 (by decide))]
  have s1 : (I 107 59 + 1).toInt = (I 107 59).toInt + 1 := by rw [kl_add (by rw [kl_1]; omega) (by rw [kl_1]; omega), kl_1]
  have o1 : ∀ p, p ≠ 148 → ∀ j, I1 p j = I p j := fun p hp j => by rw [e1, en_up_ne _ _ _ _ (fun c => hp c.1)]
  have X1 : mlX (xLay, I1, L, R) := by
    have X := hm.2.2.2.2
    refine ⟨rfl, fun j hj => ?_, fun l hl => ?_, mlP_cg (o1 165 (by decide)) X.2.2.2.1, mlN_cg (o1 116 (by decide)) (o1 117 (by decide)) X.2.2.2.2.1, X.2.2.2.2.2⟩
    · show (I1 148 j).toInt ≤ 54 ∨ 60 ≤ (I1 148 j).toInt
      rw [e1]
      by_cases c : j = (I 107 59).toNatClampNeg
      · rw [c, en_up_eq]; exact hh
      · rw [en_up_ne _ _ _ _ (fun q => c q.2)]; exact X.2.1 j hj
    · have hl : (l : Int) = (I1 107 18).toInt := hl
      rw [o1 107 (by decide)] at hl
      exact mlV_cg (fun p hp => o1 p (by omega)) (X.2.2.1 l hl)
  have m1 : en_mem ml_tb mlX (xLay, I1, L, R) := by
    rw [e1] at X1 ⊢
    exact ml_we hm X1 (n := 70) (q := (0, 69)) rfl hv
  refine ⟨?_, ?_, ?_⟩
  · rw [e2, g1]
    exact ml_wf m1 (by decide +kernel) (q := (0, 70)) (by decide +kernel) (by show 0 ≤ _ ∧ _ ≤ (70 : Int); omega)
  · rw [e2, g1, en_up_eq]; exact s1
  · intro c j a b
    rw [e2, en_up_ne _ _ _ _ b, e1, en_up_ne _ _ _ _ (fun q => a q.1)]
theorem mx_lists10 {S : sm_C} {d : Nat} {Φ : sm_Z → Prop} {L : sm_L} {R : sm_R} : ∀ (k : Nat) (I : sm_I) (x2 : Int32), en_mem ml_tb mlX (xLay, I, L, R) → 0 ≤ x2.toInt → x2.toInt + k = 10 → (I 107 59).toInt ≤ 55 + x2.toInt → (∀ I' : sm_I, en_mem ml_tb mlX (xLay, I', L, R) → ml_L I I' → (I' 107 59).toInt ≤ 65 → Φ (none, (xLay, I', L, R))) → sm_wp sm_P S d 160 10 [.ref 107, .int x2] [] (xLay, I, L, R) (0, 0) Φ := by
  intro k
  induction k with
  | zero =>
    intro I x2 hm h0 hk hi h
    have e : kM R = R := ml_R hm
    have b : 0 ≤ (I 107 67).toInt ∧ (I 107 67).toInt ≤ 10 := hm.2.1 107 67 (0, 10) (by decide +kernel)
    rw [← e]
    refine v_X12_lists_10 ⟨fun _ => ?_, fun a => ?_⟩
    · rw [e]; exact h I hm (fun _ _ _ _ => rfl) (by omega)
    · have := kl_nle a; omega
  | succ k ih =>
    intro I x2 hm h0 hk hi h
    have e : kM R = R := ml_R hm
    have b : 0 ≤ (I 107 59).toInt ∧ (I 107 59).toInt ≤ 70 := hm.2.1 107 59 (0, 70) (by decide +kernel)
    rw [← e]
    refine v_X12_lists_10 ⟨fun _ => ?_, fun a => ⟨kl_in b.1 (by omega), fun I1 e1 I2 e2 => ?_⟩⟩
    · rw [e]; exact h I hm (fun _ _ _ _ => rfl) (by omega)
    · have c : (60 : Int32).toInt = 60 := by decide
      have s : ((60 : Int32) + x2).toInt = 60 + x2.toInt := by rw [kl_add (by rw [c]; omega) (by rw [c]; omega), c]
      have t : (x2 + 1).toInt = x2.toInt + 1 := by rw [kl_add (by rw [kl_1]; omega) (by rw [kl_1]; omega), kl_1]
      obtain ⟨q1, q2, q3⟩ := ml_add hm (by omega) (by rw [s]; omega) (by rw [s]; omega) e1 e2
      rw [e]
      exact ih I2 _ q1 (by omega) (by omega) (by omega) (fun I' m l n => h I' m (ml_L_tr q3 l) n)
theorem mx_lists7 {S : sm_C} {d : Nat} {Φ : sm_Z → Prop} {L : sm_L} {R : sm_R} : ∀ (k : Nat) (I : sm_I) (x2 : Int32), en_mem ml_tb mlX (xLay, I, L, R) → 0 ≤ x2.toInt → x2.toInt + k = 45 → (I 107 59).toInt ≤ 10 + x2.toInt → (∀ I' : sm_I, en_mem ml_tb mlX (xLay, I', L, R) → ml_L I I' → (I' 107 59).toInt ≤ 65 → Φ (none, (xLay, I', L, R))) → sm_wp sm_P S d 160 7 [.ref 107, .int x2] [] (xLay, I, L, R) (0, 0) Φ := by
  intro k
  induction k with
  | zero =>
    intro I x2 hm h0 hk hi h
    have e : kM R = R := ml_R hm
    have b : 0 ≤ (I 107 46).toInt ∧ (I 107 46).toInt ≤ 45 := hm.2.1 107 46 (0, 45) (by decide +kernel)
    rw [← e]
    refine v_X12_lists_7 ⟨fun _ => ?_, fun a => ?_⟩
    · rw [e]; exact mx_lists10 10 I 0 hm (by rw [kl_0]; omega) (by rw [kl_0]; omega) (by rw [kl_0]; omega) h
    · have := kl_nle a; omega
  | succ k ih =>
    intro I x2 hm h0 hk hi h
    have e : kM R = R := ml_R hm
    have b : 0 ≤ (I 107 59).toInt ∧ (I 107 59).toInt ≤ 70 := hm.2.1 107 59 (0, 70) (by decide +kernel)
    rw [← e]
    refine v_X12_lists_7 ⟨fun _ => ?_, fun a => ⟨kl_in b.1 (by omega), fun I1 e1 I2 e2 => ?_⟩⟩
    · rw [e]; exact mx_lists10 10 I 0 hm (by rw [kl_0]; omega) (by rw [kl_0]; omega) (by rw [kl_0]; omega) h
    · have c : (10 : Int32).toInt = 10 := by decide
      have s : ((10 : Int32) + x2).toInt = 10 + x2.toInt := by rw [kl_add (by rw [c]; omega) (by rw [c]; omega), c]
      have t : (x2 + 1).toInt = x2.toInt + 1 := by rw [kl_add (by rw [kl_1]; omega) (by rw [kl_1]; omega), kl_1]
      obtain ⟨q1, q2, q3⟩ := ml_add hm (by omega) (by rw [s]; omega) (by rw [s]; omega) e1 e2
      rw [e]
      exact ih I2 _ q1 (by omega) (by omega) (by omega) (fun I' m l n => h I' m (ml_L_tr q3 l) n)
theorem mx_lists1 {S : sm_C} {d : Nat} {Φ : sm_Z → Prop} {L : sm_L} {R : sm_R} {x1 : Int32} : ∀ (k : Nat) (I : sm_I) (x2 : Int32), en_mem ml_tb mlX (xLay, I, L, R) → 0 ≤ x2.toInt → x2.toInt + k = 10 → (I 107 59).toInt ≤ x2.toInt → (∀ I' : sm_I, en_mem ml_tb mlX (xLay, I', L, R) → ml_L I I' → (I' 107 59).toInt ≤ 65 → Φ (none, (xLay, I', L, R))) → sm_wp sm_P S d 160 1 [.ref 107, .int x1, .int x2] [] (xLay, I, L, R) (0, 0) Φ := by
  intro k
  induction k with
  | zero =>
    intro I x2 hm h0 hk hi h
    have e : kM R = R := ml_R hm
    have l : 0 ≤ (I 107 18).toInt ∧ (I 107 18).toInt ≤ 1 := hm.2.1 107 18 (0, 1) (by decide +kernel)
    have ln := kl_nat l.1
    have b : 0 ≤ (I 125 (I 107 18).toNatClampNeg).toInt ∧ (I 125 (I 107 18).toNatClampNeg).toInt ≤ 10 := hm.2.1 125 _ (0, 10) (by
      have : (I 107 18).toNatClampNeg = 0 ∨ (I 107 18).toNatClampNeg = 1 := by omega
      rcases this with q | q <;> rw [q] <;> decide +kernel)
    rw [← e]
    refine v_X12_lists_1 ⟨kl_in l.1 (by omega), fun _ => ?_, fun a => ?_⟩
    · rw [e]; exact mx_lists7 45 I 0 hm (by rw [kl_0]; omega) (by rw [kl_0]; omega) (by rw [kl_0]; omega) h
    · have := kl_nle a; omega
  | succ k ih =>
    intro I x2 hm h0 hk hi h
    have e : kM R = R := ml_R hm
    have l : 0 ≤ (I 107 18).toInt ∧ (I 107 18).toInt ≤ 1 := hm.2.1 107 18 (0, 1) (by decide +kernel)
    have b : 0 ≤ (I 107 59).toInt ∧ (I 107 59).toInt ≤ 70 := hm.2.1 107 59 (0, 70) (by decide +kernel)
    have t : (x2 + 1).toInt = x2.toInt + 1 := by rw [kl_add (by rw [kl_1]; omega) (by rw [kl_1]; omega), kl_1]
    rw [← e]
    refine v_X12_lists_1 ⟨kl_in l.1 (by omega), fun _ => ?_, fun a => ⟨fun _ => ?_, fun _ => ⟨kl_in b.1 (by omega), fun I1 e1 I2 e2 => ?_⟩⟩⟩
    · rw [e]; exact mx_lists7 45 I 0 hm (by rw [kl_0]; omega) (by rw [kl_0]; omega) (by rw [kl_0]; omega) h
    · rw [e]; exact ih I _ hm (by omega) (by omega) (by omega) h
    · obtain ⟨q1, q2, q3⟩ := ml_add hm (by omega) (by omega) (by omega) e1 e2
      rw [e]
      exact ih I2 _ q1 (by omega) (by omega) (by omega) (fun I' m l n => h I' m (ml_L_tr q3 l) n)
theorem mlh_9 {Sc : sm_C} : en_hold ml_tb mlX sm_P Sc mlc_9 := by
  intro d hd vs w hv hm _
  obtain ⟨lay, I, L, R⟩ := w
  obtain ⟨vs1, rfl, hv1⟩ := kl_vr (q := 107) rfl hv
  obtain ⟨x1, vs2, rfl, b1, hv2⟩ := kl_vi hv1
  obtain rfl := kl_v0 hv2
  obtain rfl : lay = xLay := hm.2.2.2.2.1
  have e : kM R = R := ml_R hm
  show sm_wp sm_P Sc d 160 0 _ [] (xLay, I, L, R) (0, 0) _
  rw [← e]
  refine v_X12_lists_0 ?_
  rw [e]
  have m0 : en_mem ml_tb mlX (xLay, sm_up I 107 59 0, L, R) := ml_wf hm (by decide +kernel) (q := (0, 70)) (by decide +kernel) (by decide)
  refine mx_lists1 10 _ 0 m0 (by rw [kl_0]; omega) (by rw [kl_0]; omega) (by rw [en_up_eq, kl_0]; omega) (fun I' m l _ => ⟨rfl, m, ⟨rfl, fun p j h => ⟨?_, rfl⟩⟩⟩)
  show I' p j = I p j
  have h59 : ¬ (p = 107 ∧ j = 59) := fun c => by
    obtain ⟨c1, c2⟩ := c
    subst c1; subst c2
    simp [en_wok, mlc_9] at h
  rw [l p j (fun c => by subst c; simp [en_wok, mlc_9] at h) h59, en_up_ne _ _ _ _ h59]
end
section
/-! bears -/
theorem mx_in {S : sm_C} {d : Nat} {Φ : sm_Z → Prop} {I : sm_I} {L : sm_L} {R : sm_R} {x a b : Int32} (h : ∀ r : Int32, (r = 0 ∨ r = 1) → (r = 0 ∨ (a.toInt ≤ x.toInt ∧ x.toInt ≤ b.toInt)) → Φ (some (.int r), (xLay, I, L, kM R))) : sm_wp sm_P S d 141 0 [.int x, .int a, .int b] [] (xLay, I, L, kM R) (0, 0) Φ := v_X12_in_0 ⟨fun _ => h 0 (Or.inl rfl) (Or.inl rfl), fun h1 => ⟨fun _ => h 0 (Or.inl rfl) (Or.inl rfl), fun h2 => h 1 (Or.inr rfl) (Or.inr ⟨kl_nlt h1, kl_nlt h2⟩)⟩⟩
theorem ml_live {w : sm_W} (hm : en_mem ml_tb mlX w) : 0 ≤ (w.2.1 107 18).toInt ∧ (w.2.1 107 18).toInt ≤ 1 ∧ ((w.2.1 107 18).toNatClampNeg : Int) = (w.2.1 107 18).toInt ∧ ((w.2.1 107 18).toNatClampNeg = 0 ∨ (w.2.1 107 18).toNatClampNeg = 1) := by
  have l : 0 ≤ (w.2.1 107 18).toInt ∧ (w.2.1 107 18).toInt ≤ 1 := hm.2.1 107 18 (0, 1) (by decide +kernel)
  have ln := kl_nat l.1
  refine ⟨l.1, l.2, ln, ?_⟩
  omega
theorem ml_row {w : sm_W} (hm : en_mem ml_tb mlX w) {p n : Nat} {q : Int × Int} (e : ∀ j, en_int ml_tb p j = bif Nat.blt j n then some q else none) (j : Nat) (hj : j < n) : q.1 ≤ (w.2.1 p j).toInt ∧ (w.2.1 p j).toInt ≤ q.2 := hm.2.1 p j q (by rw [e j, show Nat.blt j n = true from Nat.ble_eq_true_of_le hj]; rfl)
end
section
/-! choices: a number that the world tells -/
def ml_ch (I : sm_I) (x : Int32) : Int32 := if (10 : Int32) ≤ x then (if (60 : Int32) ≤ x then (if I 152 (x - 60).toNatClampNeg = -1 then 0 else 2) else (if I 142 (x - 10).toNatClampNeg = -1 then 0 else 2)) else I 128 ((10 : Int32) * I 107 18 + x).toNatClampNeg
theorem mx_choices {S : sm_C} {d : Nat} {Φ : sm_Z → Prop} {I : sm_I} {L : sm_L} {R : sm_R} {x : Int32} (hm : en_mem ml_tb mlX (xLay, I, L, R)) (h0 : 0 ≤ x.toInt) (h1 : x.toInt ≤ 69) (hh : x.toInt ≤ 54 ∨ 60 ≤ x.toInt) (h : 0 ≤ (ml_ch I x).toInt → (ml_ch I x).toInt ≤ 4 → Φ (some (.int (ml_ch I x)), (xLay, I, L, kM R))) : sm_wp sm_P S d 114 0 [.ref 107, .int x] [] (xLay, I, L, kM R) (0, 0) Φ := by
  have c10 : (10 : Int32).toInt = 10 := by decide
  have c60 : (60 : Int32).toInt = 60 := by decide
  have t0 : (0 : Int32).toInt = 0 := by decide
  have t2 : (2 : Int32).toInt = 2 := by decide
  refine v_X12_choices_0 ⟨fun a => ⟨fun b => ⟨?_, fun n1 e1 => ⟨fun c => ?_, fun c => ?_⟩⟩, fun b => ⟨?_, fun n1 e1 => ⟨fun c => ?_, fun c => ?_⟩⟩⟩, fun a n6 e6 => ⟨?_, ?_⟩⟩
  · have b' := kl_le.mp b
    rw [c60] at b'
    have s : (x - 60).toInt = x.toInt - 60 := by rw [Int32.toInt_sub, c60]; exact en_bmod (by omega) (by omega) (Or.inl rfl)
    exact kl_in (by omega) (by omega)
  · have e : ml_ch I x = 0 := by unfold ml_ch; rw [if_pos a, if_pos b, if_pos (e1 ▸ c)]
    rw [e] at h; exact h (by rw [t0]; omega) (by rw [t0]; omega)
  · have e : ml_ch I x = 2 := by unfold ml_ch; rw [if_pos a, if_pos b, if_neg (e1 ▸ c)]
    rw [e] at h; exact h (by rw [t2]; omega) (by rw [t2]; omega)
  · have a' := kl_le.mp a
    have b' := kl_nle b
    rw [c10] at a'
    rw [c60] at b'
    have s : (x - 10).toInt = x.toInt - 10 := by rw [Int32.toInt_sub, c10]; exact en_bmod (by omega) (by omega) (Or.inl rfl)
    exact kl_in (by omega) (by omega)
  · have e : ml_ch I x = 0 := by unfold ml_ch; rw [if_pos a, if_neg b, if_pos (e1 ▸ c)]
    rw [e] at h; exact h (by rw [t0]; omega) (by rw [t0]; omega)
  · have e : ml_ch I x = 2 := by unfold ml_ch; rw [if_pos a, if_neg b, if_neg (e1 ▸ c)]
    rw [e] at h; exact h (by rw [t2]; omega) (by rw [t2]; omega)
  all_goals
    obtain ⟨l0, l1, ln, lc⟩ := ml_live hm
    have l0 : 0 ≤ (I 107 18).toInt := l0
    have l1 : (I 107 18).toInt ≤ 1 := l1
    have a' := kl_nle a
    rw [c10] at a'
    have m1 : ((10 : Int32) * I 107 18).toInt = 10 * (I 107 18).toInt := by rw [kl_mul (by rw [c10]; omega) (by rw [c10]; omega), c10]
    have m2 : n6.toInt = 10 * (I 107 18).toInt + x.toInt := by rw [e6, kl_add (by rw [m1]; omega) (by rw [m1]; omega), m1]
  · exact kl_in (by omega) (by omega)
  · have nn := kl_nat (i := n6) (by omega)
    have ba : 0 ≤ (I 128 n6.toNatClampNeg).toInt ∧ (I 128 n6.toNatClampNeg).toInt ≤ 4 := ml_row hm (p := 128) (n := 20) (q := (0, 4)) (fun _ => rfl) _ (by omega)
    have e : ml_ch I x = I 128 n6.toNatClampNeg := by unfold ml_ch; rw [if_neg a, e6]
    rw [e] at h; exact h ba.1 ba.2
end
section
/-! calls by contract; what a call leaves -/
def ml_ws (W1 W2 : en_W) : Bool := W1.all (fun q => match q.2 with
  | [] => en_wall W2 q.1
  | l => l.all (fun i => en_wok W2 q.1 i))
theorem ml_ws_ok {W1 W2 : en_W} (h : ml_ws W1 W2 = true) {p j : Nat} (hw : en_wok W2 p j = false) : en_wok W1 p j = false := by
  cases e : en_wok W1 p j with
  | false => rfl
  | true =>
    exfalso
    obtain ⟨⟨a, l⟩, h1, h2⟩ := List.any_eq_true.mp e
    obtain ⟨h2, h3⟩ := Bool.and_eq_true_iff.mp h2
    have h2 : a = p := Nat.eq_of_beq_eq_true h2
    subst h2
    have h4 := List.all_eq_true.mp h _ h1
    cases l with
    | nil =>
      obtain ⟨⟨b, l2⟩, g1, g2⟩ := List.any_eq_true.mp h4
      obtain ⟨g2, g3⟩ := Bool.and_eq_true_iff.mp g2
      have : en_wok W2 a j = true := List.any_eq_true.mpr ⟨(b, l2), g1, by
        cases l2 with
        | nil => rw [g2]; rfl
        | cons _ _ => cases g3⟩
      rw [this] at hw; cases hw
    | cons x l =>
      obtain ⟨i, k1, k2⟩ := List.any_eq_true.mp h3
      have k2 : i = j := Nat.eq_of_beq_eq_true k2
      subst k2
      have := List.all_eq_true.mp h4 _ k1
      rw [this] at hw; cases hw
theorem ml_frw {W1 W2 : en_W} {w w' : sm_W} (h : en_fr W1 w w') (hs : ml_ws W1 W2 = true) : en_fr W2 w w' := ⟨h.1, fun p j hw => h.2 p j (ml_ws_ok hs hw)⟩
theorem ml_frt {W1 W : en_W} {w0 w w' : sm_W} (h : en_fr W w0 w) (h1 : en_fr W1 w w') (hs : ml_ws W1 W = true) : en_fr W w0 w' := en_fr_tr h (ml_frw h1 hs)
theorem ml_g {W : en_W} {a b : List (Nat × Nat)} {I I' : sm_I} {L L' : sm_L} {R R' : sm_R} (h : en_fr W (a, I, L, R) (b, I', L', R')) {p j : Nat} (hw : en_wok W p j = false) : I' p j = I p j := (h.2 p j hw).1
theorem ml_pf0 {w : sm_W} : en_pf [] w := fun _ h => absurd h List.not_mem_nil
theorem ml_we2 {I : sm_I} {L : sm_L} {R : sm_R} {p j n : Nat} {x : Int32} {q : Int × Int} (hm : en_mem ml_tb mlX (xLay, I, L, R)) (hf : en_fix ml_tb p j = false) (e : en_int ml_tb p j = bif Nat.blt j n then some q else none) (hx : q.1 ≤ x.toInt ∧ x.toInt ≤ q.2) : en_mem ml_tb mlX (xLay, sm_up I p j x, L, R) := ml_we hm (mlX_ok.1 _ (I, L, R) _ _ _ hf hm.2.2.2.2) e hx
theorem ml_ci {S : sm_C} {d : Nat} {c : en_Ct} {vs : List Value} {I : sm_I} {L : sm_L} {R : sm_R} {lo hi : Int} {C : Int32 → sm_I → sm_L → sm_R → Prop} (h : en_hold ml_tb mlX sm_P S c) (hd : c.2.2.2.2.2 ≤ d) (hv : en_pvs c.2.1 vs) (hm : en_mem ml_tb mlX (xLay, I, L, R)) (hp : en_pf c.2.2.1 (xLay, I, L, R)) (hr : c.2.2.2.1 = (0, lo, hi)) (k : ∀ (r : Int32) (I' : sm_I) (L' : sm_L) (R' : sm_R), lo ≤ r.toInt → r.toInt ≤ hi → en_mem ml_tb mlX (xLay, I', L', R') → en_fr c.2.2.2.2.1 (xLay, I, L, R) (xLay, I', L', R') → C r I' L' R') : sm_wp sm_P S d c.1 0 vs [] (xLay, I, L, kM R) (0, 0) (fun z => ∃ (r : Int32) (I2 : sm_I) (L2 : sm_L) (R2 : sm_R), z = (some (.int r), (xLay, I2, L2, kM R2)) ∧ C r I2 L2 R2) := by
  have e0 : kM R = R := ml_R hm
  rw [e0]
  refine sm_wp_mono (h d hd vs _ hv hm hp) (fun z q => ?_)
  obtain ⟨o, lay, I2, L2, R2⟩ := z
  obtain ⟨q1, q2, q3⟩ := q
  obtain rfl : lay = xLay := q2.2.2.2.2.1
  have e : kM R2 = R2 := ml_R q2
  rw [hr] at q1
  have q1 : en_pr (0, lo, hi) o := q1
  cases o with
  | none => have q1 : (0 : Nat) = 9 := q1; omega
  | some v =>
    rcases q1 with q1 | ⟨q1, -⟩
    · cases v with
      | int r => exact ⟨r, I2, L2, R2, by rw [e], k r I2 L2 R2 q1.2.1 q1.2.2 q2 q3⟩
      | long _ => have q1 : (0 : Nat) = 5 := q1; omega
      | null => have q1 : (0 : Nat) = 1 := q1; omega
      | ref p => have q1 : (0 : Nat) = 2 := q1.1; omega
      | float _ => exact q1.elim
      | double _ => exact q1.elim
      | retAddr _ => exact q1.elim
    · have q1 : (0 : Nat) = 3 := q1
      omega
theorem ml_cv {S : sm_C} {d : Nat} {c : en_Ct} {vs : List Value} {I : sm_I} {L : sm_L} {R : sm_R} {C : sm_I → sm_L → sm_R → Prop} (h : en_hold ml_tb mlX sm_P S c) (hd : c.2.2.2.2.2 ≤ d) (hv : en_pvs c.2.1 vs) (hm : en_mem ml_tb mlX (xLay, I, L, R)) (hp : en_pf c.2.2.1 (xLay, I, L, R)) (hr : c.2.2.2.1 = (9, 0, 0)) (k : ∀ (I' : sm_I) (L' : sm_L) (R' : sm_R), en_mem ml_tb mlX (xLay, I', L', R') → en_fr c.2.2.2.2.1 (xLay, I, L, R) (xLay, I', L', R') → C I' L' R') : sm_wp sm_P S d c.1 0 vs [] (xLay, I, L, kM R) (0, 0) (fun z => ∃ (I2 : sm_I) (L2 : sm_L) (R2 : sm_R), z = (none, (xLay, I2, L2, kM R2)) ∧ C I2 L2 R2) := by
  have e0 : kM R = R := ml_R hm
  rw [e0]
  refine sm_wp_mono (h d hd vs _ hv hm hp) (fun z q => ?_)
  obtain ⟨o, lay, I2, L2, R2⟩ := z
  obtain ⟨q1, q2, q3⟩ := q
  obtain rfl : lay = xLay := q2.2.2.2.2.1
  have e : kM R2 = R2 := ml_R q2
  rw [hr] at q1
  have q1 : en_pr (9, 0, 0) o := q1
  cases o with
  | none => exact ⟨I2, L2, R2, by rw [e], k I2 L2 R2 q2 q3⟩
  | some v =>
    rcases q1 with q1 | ⟨q1, -⟩
    · cases v with
      | int r => have q1 : (9 : Nat) = 0 := q1.1; omega
      | long _ => have q1 : (9 : Nat) = 5 := q1; omega
      | null => have q1 : (9 : Nat) = 1 := q1; omega
      | ref p => have q1 : (9 : Nat) = 2 := q1.1; omega
      | float _ => exact q1.elim
      | double _ => exact q1.elim
      | retAddr _ => exact q1.elim
    · have q1 : (9 : Nat) = 3 := q1
      omega
/-- a method by hand: its contract from what is shown in a world of the invariant -/
theorem ml_top {S : sm_C} {d f : Nat} {vs : List Value} {t : en_Fd} {W : en_W} {w : sm_W} (hm : en_mem ml_tb mlX w) (h : ∀ (I : sm_I) (L : sm_L) (R : sm_R), w = (xLay, I, L, R) → en_mem ml_tb mlX (xLay, I, L, R) → sm_wp sm_P S d f 0 vs [] (xLay, I, L, kM R) (0, 0) (fun z => ∃ (o : Option Value) (I2 : sm_I) (L2 : sm_L) (R2 : sm_R), z = (o, (xLay, I2, L2, kM R2)) ∧ en_pr t o ∧ en_mem ml_tb mlX (xLay, I2, L2, R2) ∧ en_fr W (xLay, I, L, R) (xLay, I2, L2, R2))) : sm_wp sm_P S d f 0 vs [] w (0, 0) (fun z => en_pr t z.1 ∧ en_mem ml_tb mlX z.2 ∧ en_fr W w z.2) := by
  obtain ⟨lay, I, L, R⟩ := w
  obtain rfl : lay = xLay := hm.2.2.2.2.1
  have e : kM R = R := ml_R hm
  have q := h I L R rfl hm
  rw [e] at q
  refine sm_wp_mono q (fun z q => ?_)
  obtain ⟨o, I2, L2, R2, rfl, q1, q2, q3⟩ := q
  have e2 : kM R2 = R2 := ml_R q2
  rw [e2]
  exact ⟨q1, q2, q3⟩
theorem ml_i3 {x : Int32} (h0 : 0 ≤ x.toInt) (h3 : x.toInt ≤ 3) : x = 0 ∨ x = 1 ∨ x = 2 ∨ x = 3 := by
  have t0 : (0 : Int32).toInt = 0 := by decide
  have t1 : (1 : Int32).toInt = 1 := by decide
  have t2 : (2 : Int32).toInt = 2 := by decide
  have t3 : (3 : Int32).toInt = 3 := by decide
  rcases (by omega : x.toInt = 0 ∨ x.toInt = 1 ∨ x.toInt = 2 ∨ x.toInt = 3) with e | e | e | e
  · exact Or.inl (en_ofI (by rw [e, t0]))
  · exact Or.inr (Or.inl (en_ofI (by rw [e, t1])))
  · exact Or.inr (Or.inr (Or.inl (en_ofI (by rw [e, t2]))))
  · exact Or.inr (Or.inr (Or.inr (en_ofI (by rw [e, t3]))))
theorem ml_b3 {x : Int32} (h0 : 0 ≤ x.toInt) (h3 : x.toInt ≤ 3) : 0 ≤ (vp_nar .byte (x.toInt8.toInt32)).toInt ∧ (vp_nar .byte (x.toInt8.toInt32)).toInt ≤ 3 := by
  rcases ml_i3 h0 h3 with e | e | e | e <;> subst e <;> decide
theorem ml_ad {x y : Int32} {a b : Int} (hx : x.toInt = a) (hy : y.toInt = b) (h1 : -2147483648 ≤ a + b) (h2 : a + b ≤ 2147483647) : (x + y).toInt = a + b := by rw [kl_add (by omega) (by omega), hx, hy]
theorem ml_mu {x y : Int32} {a b : Int} (hx : x.toInt = a) (hy : y.toInt = b) (h1 : -2147483648 ≤ a * b) (h2 : a * b ≤ 2147483647) : (x * y).toInt = a * b := by rw [kl_mul (by rw [hx, hy]; exact h1) (by rw [hx, hy]; exact h2), hx, hy]
theorem ml_in1 {x : Int32} (h : x.toInt ≤ 2147483646) : (x + 1).toInt = x.toInt + 1 := by
  have r := en_crange (x := x)
  rw [kl_add (by rw [kl_1]; omega) (by rw [kl_1]; omega), kl_1]
theorem ml_de1 {x : Int32} (h : -2147483647 ≤ x.toInt) : (x + (-1 : Int32)).toInt = x.toInt - 1 := by
  have r := en_crange (x := x)
  have m : (-1 : Int32).toInt = -1 := by decide
  rw [kl_add (by rw [m]; omega) (by rw [m]; omega), m]; omega
end
section
/-! searches -/
def ml_nc (I : sm_I) (k : Int) : Prop := ∀ j : Nat, (j : Int) ≤ k → (I 150 j).toInt ≤ (ml_ch I (I 148 j)).toInt
def ml_SV : en_W := mlc_16.2.2.2.2.1
def ml_SW : en_W := mlc_42.2.2.2.2.1
theorem ml_143 {p j : Nat} (h : p ≠ 143) : en_wok [(143, [])] p j = false := by
  cases c : en_wok [(143, [])] p j with
  | false => rfl
  | true =>
    exfalso
    obtain ⟨q, h1, h2⟩ := List.any_eq_true.mp c
    rw [List.mem_singleton.mp h1] at h2
    exact h (Nat.eq_of_beq_eq_true (Bool.and_eq_true_iff.mp h2).1).symm
theorem ml_154 {p j : Nat} (h1 : p ≠ 154) (h2 : p ≠ 155) (h3 : p ≠ 156) : en_wok [(154, []), (155, []), (156, [])] p j = false := by
  cases c : en_wok [(154, []), (155, []), (156, [])] p j with
  | false => rfl
  | true =>
    exfalso
    obtain ⟨q, g1, g2⟩ := List.any_eq_true.mp c
    have e : q.1 = p := Nat.eq_of_beq_eq_true (Bool.and_eq_true_iff.mp g2).1
    simp only [List.mem_cons, List.not_mem_nil, or_false] at g1
    rcases g1 with g | g | g <;> subst g <;> simp at e <;> omega
theorem ml_ch0 {I : sm_I} {L : sm_L} {R : sm_R} {x : Int32} (hm : en_mem ml_tb mlX (xLay, I, L, R)) (h0 : 0 ≤ x.toInt) (h1 : x.toInt ≤ 69) (hh : x.toInt ≤ 54 ∨ 60 ≤ x.toInt) : 0 ≤ (ml_ch I x).toInt := by
  have t0 : (0 : Int32).toInt = 0 := by decide
  have t2 : (2 : Int32).toInt = 2 := by decide
  have c10 : (10 : Int32).toInt = 10 := by decide
  unfold ml_ch
  split
  · split
    · split
      · omega
      · omega
    · split
      · omega
      · omega
  · next a =>
    have a := kl_nle a
    have l : 0 ≤ (I 107 18).toInt ∧ (I 107 18).toInt ≤ 1 := hm.2.1 107 18 (0, 1) (by decide +kernel)
    have m1 : ((10 : Int32) * I 107 18).toInt = 10 * (I 107 18).toInt := ml_mu c10 rfl (by omega) (by omega)
    have m2 : ((10 : Int32) * I 107 18 + x).toInt = 10 * (I 107 18).toInt + x.toInt := ml_ad m1 rfl (by omega) (by omega)
    have nn := kl_nat (i := (10 : Int32) * I 107 18 + x) (by omega)
    exact (ml_row hm (p := 128) (n := 20) (q := (0, 4)) (fun _ => rfl) _ (by omega)).1
theorem ml_ch_cg {I J : sm_I} (h128 : ∀ j, J 128 j = I 128 j) (h142 : ∀ j, J 142 j = I 142 j) (h152 : ∀ j, J 152 j = I 152 j) (h18 : J 107 18 = I 107 18) (x : Int32) : ml_ch J x = ml_ch I x := by
  unfold ml_ch
  rw [h128, h142, h152, h18]
theorem ml_nc_cg {I J : sm_I} {k : Int} (h128 : ∀ j, J 128 j = I 128 j) (h142 : ∀ j, J 142 j = I 142 j) (h152 : ∀ j, J 152 j = I 152 j) (h18 : J 107 18 = I 107 18) (h148 : ∀ j, J 148 j = I 148 j) (h150 : ∀ j : Nat, (j : Int) ≤ k → (J 150 j).toInt ≤ (ml_ch I (I 148 j)).toInt) : ml_nc J k := fun j hj => by
  rw [ml_ch_cg h128 h142 h152 h18, h148]; exact h150 j hj
theorem ml_chooses {S : sm_C} {d : Nat} {I : sm_I} {L : sm_L} {R : sm_R} {x y : Int32} {C : Int32 → sm_I → sm_L → sm_R → Prop} (hd : 4 ≤ d) (hm : en_mem ml_tb mlX (xLay, I, L, R)) (h0 : 0 ≤ x.toInt) (h1 : x.toInt ≤ 69) (hh : x.toInt ≤ 54 ∨ 60 ≤ x.toInt) (c0 : 0 ≤ y.toInt) (c1 : y.toInt ≤ 3) (k : ∀ (r : Int32) (I' : sm_I) (L' : sm_L) (R' : sm_R), 0 ≤ r.toInt → r.toInt ≤ 1 → en_mem ml_tb mlX (xLay, I', L', R') → en_fr [(143, [])] (xLay, I, L, R) (xLay, I', L', R') → C r I' L' R') : sm_wp sm_P S d 115 0 [.ref 107, .int x, .int y] [] (xLay, I, L, kM R) (0, 0) (fun z => ∃ (r : Int32) (I2 : sm_I) (L2 : sm_L) (R2 : sm_R), z = (some (.int r), (xLay, I2, L2, kM R2)) ∧ C r I2 L2 R2) := by
  rcases hh with hh | hh
  · exact ml_ci (c := mlc_6) mlh_6 hd ⟨⟨rfl, rfl⟩, ⟨rfl, h0, hh⟩, ⟨rfl, c0, c1⟩, trivial⟩ hm ml_pf0 rfl k
  · exact ml_ci (c := mlc_7) mlh_7 (Nat.le_trans (by decide) hd) ⟨⟨rfl, rfl⟩, ⟨rfl, hh, h1⟩, ⟨rfl, c0, c1⟩, trivial⟩ hm ml_pf0 rfl k
theorem ml_s143 : ml_ws [(143, [])] ml_SV = true := by decide +kernel
theorem ml_t143 : ml_ws [(143, [])] ml_SW = true := by decide +kernel
theorem ml_s154 : ml_ws [(154, []), (155, []), (156, [])] ml_SV = true := by decide +kernel
theorem ml_90 {p j : Nat} (h : ¬ (p = 107 ∧ 90 ≤ j)) : en_wok [(107, [90, 91, 92])] p j = false := by
  cases c : en_wok [(107, [90, 91, 92])] p j with
  | false => rfl
  | true =>
    exfalso
    obtain ⟨q, g1, g2⟩ := List.any_eq_true.mp c
    rw [List.mem_singleton.mp g1] at g2
    obtain ⟨g2, g3⟩ := Bool.and_eq_true_iff.mp g2
    have e : 107 = p := Nat.eq_of_beq_eq_true g2
    obtain ⟨i, k1, k2⟩ := List.any_eq_true.mp g3
    have k2 : i = j := Nat.eq_of_beq_eq_true k2
    simp only [List.mem_cons, List.not_mem_nil, or_false] at k1
    omega
/-- one more TRY is counted -/
theorem ml_try {W : en_W} (w150 : ∀ j, en_wok W 150 j = true) (w63 : en_wok W 107 63 = true) {I I5 I6 : sm_I} {L : sm_L} {R : sm_R} {w0 : sm_W} {k n4 : Int32} (hm : en_mem ml_tb mlX (xLay, I, L, R)) (hf : en_fr W w0 (xLay, I, L, R)) (hn : ml_nc I k.toInt) (h0 : 0 ≤ k.toInt) (h1 : k.toInt ≤ 69) (ht : (I 107 63).toInt ≤ 1000) (lt : (I 150 k.toNatClampNeg).toInt < (ml_ch I (I 148 k.toNatClampNeg)).toInt) (c4 : (ml_ch I (I 148 k.toNatClampNeg)).toInt ≤ 4) (e4 : n4 = I 150 k.toNatClampNeg + 1) (e5 : I5 = sm_up I 150 k.toNatClampNeg n4) (e6 : I6 = sm_up I5 107 63 (I5 107 63 + 1)) : en_mem ml_tb mlX (xLay, I6, L, R) ∧ en_fr W w0 (xLay, I6, L, R) ∧ I6 107 63 = I 107 63 + 1 ∧ (∀ p j, p ≠ 150 → ¬ (p = 107 ∧ j = 63) → I6 p j = I p j) ∧ (∀ j : Nat, (j : Int) ≤ k.toInt → (I6 150 j).toInt ≤ (ml_ch I (I 148 j)).toInt) := by
  have nk := kl_nat h0
  have bn : 0 ≤ (I 150 k.toNatClampNeg).toInt ∧ (I 150 k.toNatClampNeg).toInt ≤ 4 := ml_row hm (p := 150) (n := 70) (q := (0, 4)) (fun _ => rfl) _ (by omega)
  have bt : 0 ≤ (I 107 63).toInt ∧ (I 107 63).toInt ≤ 1001 := hm.2.1 107 63 (0, 1001) (by decide +kernel)
  have s4 : n4.toInt = (I 150 k.toNatClampNeg).toInt + 1 := by rw [e4]; exact ml_in1 (by omega)
  have m5 : en_mem ml_tb mlX (xLay, I5, L, R) := by
    rw [e5]
    exact ml_we2 hm rfl (n := 70) (q := (0, 4)) rfl (by show 0 ≤ _ ∧ _ ≤ (4 : Int); omega)
  have f5 : en_fr W w0 (xLay, I5, L, R) := by rw [e5]; exact ml_fr hf (w150 _)
  have g5 : I5 107 63 = I 107 63 := by rw [e5, en_up_ne _ _ _ _ (fun c => absurd c.1 (by decide))]
  have s6 : (I 107 63 + 1).toInt = (I 107 63).toInt + 1 := ml_in1 (by omega)
  refine ⟨?_, ?_, ?_, fun p j h1 h2 => ?_, fun j hj => ?_⟩
  · rw [e6, g5]
    exact ml_wf m5 (by decide +kernel) (q := (0, 1001)) (by decide +kernel) (by show 0 ≤ _ ∧ _ ≤ (1001 : Int); omega)
  · rw [e6]; exact ml_fr f5 w63
  · rw [e6, g5, en_up_eq]
  · rw [e6, en_up_ne _ _ _ _ h2, e5, en_up_ne _ _ _ _ (fun c => h1 c.1)]
  · rw [e6, en_up_ne _ _ _ _ (fun c => absurd c.1 (by decide)), e5]
    by_cases c : j = k.toNatClampNeg
    · rw [c, en_up_eq]; omega
    · rw [en_up_ne _ _ _ _ (fun q => c q.2)]; exact hn j hj
/-- behind copies: the page -/
theorem ml_cop {W : en_W} (w143 : ml_ws [(143, [])] W = true) (w52 : en_wok W 107 52 = true) {I6 I7 I10 : sm_I} {L L7 : sm_L} {R R7 : sm_R} {w0 : sm_W} {y : Int32} (m7 : en_mem ml_tb mlX (xLay, I7, L7, R7)) (f6 : en_fr W w0 (xLay, I6, L, R)) (f7 : en_fr [(143, [])] (xLay, I6, L, R) (xLay, I7, L7, R7)) (h0 : 0 ≤ y.toInt) (h1 : y.toInt ≤ 70) (e10 : I10 = sm_up I7 107 52 y) : en_mem ml_tb mlX (xLay, I10, L7, R7) ∧ en_fr W w0 (xLay, I10, L7, R7) ∧ (∀ p j, p ≠ 143 → ¬ (p = 107 ∧ j = 52) → I10 p j = I6 p j) := by
  refine ⟨?_, ?_, fun p j h1 h2 => ?_⟩
  · rw [e10]
    exact ml_wf m7 (by decide +kernel) (q := (0, 70)) (by decide +kernel) ⟨h0, h1⟩
  · rw [e10]; exact ml_fr (ml_frt f6 f7 w143) w52
  · rw [e10, en_up_ne _ _ _ _ h2]
    exact ml_g f7 (ml_143 h1)
theorem mx_search17 {S : sm_C} {d : Nat} {Φ : sm_Z → Prop} {w0 : sm_W} {L : sm_L} {R : sm_R} {x1 x2 x3 : Int32} (f0 : 0 ≤ x2.toInt) (f1 : x2.toInt ≤ 999) (I0 : sm_I) (hk : ∀ J : sm_I, en_mem ml_tb mlX (xLay, J, L, R) → en_fr ml_SV w0 (xLay, J, L, R) → (∀ p j, p ≠ 153 → J p j = I0 p j) → sm_wp sm_P S (d + 1) 186 3 [.ref 107, .int x1, .int (x2 + 1), .int x3] [] (xLay, J, L, kM R) (0, 0) Φ) : ∀ (m : Nat) (I : sm_I) (x6 : Int32), en_mem ml_tb mlX (xLay, I, L, R) → en_fr ml_SV w0 (xLay, I, L, R) → (∀ p j, p ≠ 153 → I p j = I0 p j) → 0 ≤ x6.toInt → (I 107 59).toInt - x6.toInt ≤ m → sm_wp sm_P S (d + 1) 186 17 [.ref 107, .int x1, .int x2, .int x3, .int x6] [] (xLay, I, L, kM R) (0, 0) Φ := by
  intro m
  induction m with
  | zero =>
    intro I x6 hm hf ho h0 hM
    refine u_X12_searches_17 ⟨fun _ => hk I hm hf ho, fun a => ?_⟩
    have := kl_nle a
    omega
  | succ m ih =>
    intro I x6 hm hf ho h0 hM
    have bi : 0 ≤ (I 107 59).toInt ∧ (I 107 59).toInt ≤ 70 := hm.2.1 107 59 (0, 70) (by decide +kernel)
    refine u_X12_searches_17 ⟨fun _ => hk I hm hf ho, fun a => ?_⟩
    have a := kl_nle a
    have n6 := kl_nat h0
    have bc : 0 ≤ (I 149 x6.toNatClampNeg).toInt ∧ (I 149 x6.toNatClampNeg).toInt ≤ 3 := ml_row hm (p := 149) (n := 70) (q := (0, 3)) (fun _ => rfl) _ (by omega)
    have c55 : (55 : Int32).toInt = 55 := by decide
    have e1 : ((55 : Int32) * x2).toInt = 55 * x2.toInt := ml_mu c55 rfl (by omega) (by omega)
    have e2 : ((55 : Int32) * x2 + x6).toInt = 55 * x2.toInt + x6.toInt := ml_ad e1 rfl (by omega) (by omega)
    refine ⟨kl_in h0 (by omega), fun n1 hn1 => ⟨kl_in (by omega) (by omega), fun I2 hI2 => ?_⟩⟩
    have s := ml_in1 (x := x6) (by omega)
    have g2 : I2 107 59 = I 107 59 := by rw [hI2, en_up_ne _ _ _ _ (fun c => absurd c.1 (by decide))]
    refine ih I2 _ ?_ ?_ ?_ (by omega) (by rw [g2]; omega)
    · rw [hI2, hn1]
      exact ml_we2 hm rfl (n := 55100) (q := (0, 3)) rfl (ml_b3 bc.1 bc.2)
    · rw [hI2]; exact ml_fr hf rfl
    · intro p j hp
      rw [hI2, en_up_ne _ _ _ _ (fun c => hp c.1)]; exact ho p j hp
end
section
/-! searches: the loop -/
theorem mx_search3 {S : sm_C} {d : Nat} {Φ : sm_Z → Prop} {w0 : sm_W} {x1 : Int32} (hd : 4 ≤ d) (hx1 : 0 ≤ x1.toInt ∧ x1.toInt ≤ 1) (hΦ : ∀ (r : Int32) (I : sm_I) (L : sm_L) (R : sm_R), 0 ≤ r.toInt → r.toInt ≤ 1000 → en_mem ml_tb mlX (xLay, I, L, R) → en_fr ml_SV w0 (xLay, I, L, R) → Φ (some (.int r), (xLay, I, L, kM R))) : ∀ (m : Nat) (I : sm_I) (L : sm_L) (R : sm_R) (x2 x3 : Int32), en_mem ml_tb mlX (xLay, I, L, R) → en_fr ml_SV w0 (xLay, I, L, R) → -1 ≤ x3.toInt → x3.toInt < (I 107 59).toInt → 0 ≤ x2.toInt → x2.toInt ≤ (I 107 63).toInt → (I 107 63).toInt ≤ 1000 → ml_nc I x3.toInt → 2 * (1000 - (I 107 63).toInt) + x3.toInt + 1 < m → sm_wp sm_P S (d + 1) 186 3 [.ref 107, .int x1, .int x2, .int x3] [] (xLay, I, L, kM R) (0, 0) Φ := by
  intro m
  induction m with
  | zero =>
    intro I L R x2 x3 hm hf k0 k1 f0 f1 t1 hn hM
    omega
  | succ m ih =>
    intro I L R x2 x3 hm hf k0 k1 f0 f1 t1 hn hM
    have bi : 0 ≤ (I 107 59).toInt ∧ (I 107 59).toInt ≤ 70 := hm.2.1 107 59 (0, 70) (by decide +kernel)
    have bt : 0 ≤ (I 107 63).toInt ∧ (I 107 63).toInt ≤ 1001 := hm.2.1 107 63 (0, 1001) (by decide +kernel)
    refine u_X12_searches_3 ⟨fun a => hΦ x2 I L R f0 (by omega) hm hf, fun a => ?_⟩
    have k2 := kl_nlt0 a
    have nk := kl_nat k2
    have v : vp_in x3 70 := kl_in k2 (by omega)
    have bo : 0 ≤ (I 148 x3.toNatClampNeg).toInt ∧ (I 148 x3.toNatClampNeg).toInt ≤ 69 := ml_row hm (p := 148) (n := 70) (q := (0, 69)) (fun _ => rfl) _ (by omega)
    have gap : (I 148 x3.toNatClampNeg).toInt ≤ 54 ∨ 60 ≤ (I 148 x3.toNatClampNeg).toInt := hm.2.2.2.2.2.1 _ (by omega)
    have bn : 0 ≤ (I 150 x3.toNatClampNeg).toInt ∧ (I 150 x3.toNatClampNeg).toInt ≤ 4 := ml_row hm (p := 150) (n := 70) (q := (0, 4)) (fun _ => rfl) _ (by omega)
    have hk := hn x3.toNatClampNeg (by omega)
    obtain ⟨ch, hch⟩ : ∃ ch, ch = ml_ch I (I 148 x3.toNatClampNeg) := ⟨_, rfl⟩
    rw [← hch] at hk
    refine ⟨v, v, mx_choices hm bo.1 bo.2 gap (fun c0 c4 => ⟨_, I, L, R, rfl, fun e => ?_, fun e => ⟨v, v, fun n4 e4 => ⟨v, fun I5 e5 I6 e6 => ?_⟩⟩⟩)⟩
    · rw [← hch] at c0 c4 e
      obtain ⟨y, hy, sd⟩ : ∃ y, y = x3 + (-1 : Int32) ∧ y.toInt = x3.toInt - 1 := ⟨_, rfl, ml_de1 (by omega)⟩
      rw [← hy]
      exact ih I L R x2 y hm hf (by omega) (by omega) f0 f1 t1 (fun j hj => hn j (by omega)) (by omega)
    rw [← hch] at c0 c4 e
    have sk := ml_in1 (x := x3) (by omega)
    have lt : (I 150 x3.toNatClampNeg).toInt < ch.toInt := by
      have : (I 150 x3.toNatClampNeg).toInt ≠ ch.toInt := fun q => e (en_ofI q)
      omega
    obtain ⟨m6, f6, g6, o6, q6⟩ := ml_try (W := ml_SV) (fun _ => rfl) (by decide +kernel) hm hf hn k2 (by omega) t1 (by rw [← hch]; exact lt) (by rw [← hch]; exact c4) e4 e5 e6
    have s6 : (I 107 63 + 1).toInt = (I 107 63).toInt + 1 := ml_in1 (by omega)
    refine ⟨fun g => ?_, fun g I31 e31 => ?_⟩
    · have g := kl_le.mp g
      rw [g6, (by decide : (1000 : Int32).toInt = 1000)] at g
      have tail : ∀ (J : sm_I) (Lj : sm_L) (Rj : sm_R) (r : Int32), en_mem ml_tb mlX (xLay, J, Lj, Rj) → en_fr ml_SV w0 (xLay, J, Lj, Rj) → (∀ p j, p ≠ 143 → p ≠ 150 → p ≠ 154 → p ≠ 155 → p ≠ 156 → ¬ (p = 107 ∧ (j = 63 ∨ j = 52)) → J p j = I p j) → (∀ j, J 150 j = I6 150 j) → J 107 63 = I6 107 63 → ((r = 0 → sm_wp sm_P S (d + 1) 186 3 [.ref 107, .int x1, .int x2, .int x3] [] (xLay, J, Lj, (kM Rj)) (0, 0) Φ) ∧ (¬ r = 0 → (vp_in x3 70) ∧ ∀ I14 : sm_I, I14 = (sm_up J 149 x3.toNatClampNeg (I 150 x3.toNatClampNeg)) → (((I14 107 59) ≤ (x3 + (1 : Int32)) → ((x1 = 0 → Φ (some (.int (1 : Int32)), (xLay, I14, Lj, (kM Rj)))) ∧ (¬ x1 = 0 → sm_wp sm_P S (d + 1) 186 17 [.ref 107, .int x1, .int x2, .int x3, .int (0 : Int32)] [] (xLay, I14, Lj, (kM Rj)) (0, 0) Φ))) ∧ (¬ (I14 107 59) ≤ (x3 + (1 : Int32)) → (vp_in (x3 + (1 : Int32)) 70) ∧ ∀ I16 : sm_I, I16 = (sm_up I14 150 (x3 + (1 : Int32)).toNatClampNeg (0 : Int32)) → sm_wp sm_P S (d + 1) 186 3 [.ref 107, .int x1, .int x2, .int (x3 + (1 : Int32))] [] (xLay, I16, Lj, (kM Rj)) (0, 0) Φ)))) := by
        intro J Lj Rj r hmJ hfJ oJ cJ tJ
        have itJ : J 107 59 = I 107 59 := oJ 107 59 (by decide) (by decide) (by decide) (by decide) (by decide) (by omega)
        have ncJ : ∀ J' : sm_I, (∀ p j, p ≠ 149 → p ≠ 150 → p ≠ 153 → J' p j = J p j) → ∀ k : Int, (∀ j : Nat, (j : Int) ≤ k → (J' 150 j).toInt ≤ (ml_ch I (I 148 j)).toInt) → ml_nc J' k := by
          intro J' oJ' k hk'
          refine ml_nc_cg (I := I) (fun j => ?_) (fun j => ?_) (fun j => ?_) ?_ (fun j => ?_) hk'
          · rw [oJ' _ _ (by decide) (by decide) (by decide), oJ _ _ (by decide) (by decide) (by decide) (by decide) (by decide) (by omega)]
          · rw [oJ' _ _ (by decide) (by decide) (by decide), oJ _ _ (by decide) (by decide) (by decide) (by decide) (by decide) (by omega)]
          · rw [oJ' _ _ (by decide) (by decide) (by decide), oJ _ _ (by decide) (by decide) (by decide) (by decide) (by decide) (by omega)]
          · rw [oJ' _ _ (by decide) (by decide) (by decide), oJ _ _ (by decide) (by decide) (by decide) (by decide) (by decide) (by omega)]
          · rw [oJ' _ _ (by decide) (by decide) (by decide), oJ _ _ (by decide) (by decide) (by decide) (by decide) (by decide) (by omega)]
        refine ⟨fun _ => ?_, fun _ => ⟨v, fun I14 e14 => ?_⟩⟩
        · exact ih J Lj Rj x2 x3 hmJ hfJ k0 (by rw [itJ]; omega) f0 (by rw [tJ, g6]; omega) (by rw [tJ, g6]; omega) (ncJ J (fun _ _ _ _ _ => rfl) _ (fun j hj => by rw [cJ]; exact q6 j hj)) (by rw [tJ, g6]; omega)
        · have m14 : en_mem ml_tb mlX (xLay, I14, Lj, Rj) := by
            rw [e14]
            exact ml_we2 hmJ rfl (n := 70) (q := (0, 3)) rfl (by show 0 ≤ _ ∧ _ ≤ (3 : Int); omega)
          have f14 : en_fr ml_SV w0 (xLay, I14, Lj, Rj) := by rw [e14]; exact ml_fr hfJ rfl
          have o14 : ∀ p j, p ≠ 149 → I14 p j = J p j := fun p j h => by rw [e14, en_up_ne _ _ _ _ (fun c => h c.1)]
          refine ⟨fun q => ⟨fun _ => hΦ _ _ _ _ (by decide) (by decide) m14 f14, fun _ => ?_⟩, fun q => ?_⟩
          · refine mx_search17 f0 (by omega) I14 (fun J' mJ' fJ' oJ' => ?_) 70 I14 0 m14 f14 (fun _ _ _ => rfl) (by decide) (by rw [kl_0, o14 _ _ (by decide), itJ]; omega)
            have t' : J' 107 63 = I 107 63 + 1 := by rw [oJ' _ _ (by decide), o14 _ _ (by decide), tJ, g6]
            have i' : J' 107 59 = I 107 59 := by rw [oJ' _ _ (by decide), o14 _ _ (by decide), itJ]
            have s2 := ml_in1 (x := x2) (by omega)
            refine ih J' Lj Rj _ x3 mJ' fJ' k0 (by rw [i']; omega) (by omega) (by rw [t']; omega) (by rw [t']; omega) (ncJ J' (fun p j h1 h2 h3 => by rw [oJ' _ _ h3, o14 _ _ h1]) _ (fun j hj => by rw [oJ' _ _ (by decide), o14 _ _ (by decide), cJ]; exact q6 j hj)) (by rw [t']; omega)
          · have q := kl_nle q
            rw [o14 _ _ (by decide), itJ] at q
            refine ⟨kl_in (by omega) (by omega), fun I16 e16 => ?_⟩
            have nk1 := kl_nat (i := x3 + 1) (by omega)
            have o16 : ∀ p j, p ≠ 150 → I16 p j = I14 p j := fun p j h => by rw [e16, en_up_ne _ _ _ _ (fun c => h c.1)]
            have m16 : en_mem ml_tb mlX (xLay, I16, Lj, Rj) := by
              rw [e16]
              exact ml_we2 m14 rfl (n := 70) (q := (0, 4)) rfl (by decide)
            have f16 : en_fr ml_SV w0 (xLay, I16, Lj, Rj) := by rw [e16]; exact ml_fr f14 rfl
            have t' : I16 107 63 = I 107 63 + 1 := by rw [o16 _ _ (by decide), o14 _ _ (by decide), tJ, g6]
            have i' : I16 107 59 = I 107 59 := by rw [o16 _ _ (by decide), o14 _ _ (by decide), itJ]
            refine ih I16 Lj Rj x2 _ m16 f16 (by omega) (by rw [i']; omega) f0 (by rw [t']; omega) (by rw [t']; omega) (ncJ I16 (fun p j h1 h2 h3 => by rw [o16 _ _ h2, o14 _ _ h1]) _ (fun j hj => ?_)) (by rw [t']; omega)
            rw [e16]
            by_cases c : j = (x3 + 1).toNatClampNeg
            · have mi : en_mem ml_tb mlX (xLay, I, L, R) := hm
              have bo' : 0 ≤ (I 148 j).toInt ∧ (I 148 j).toInt ≤ 69 := ml_row hm (p := 148) (n := 70) (q := (0, 69)) (fun _ => rfl) _ (by omega)
              rw [c, en_up_eq, kl_0, ← c]
              exact ml_ch0 hm bo'.1 bo'.2 (hm.2.2.2.2.2.1 _ (by omega))
            · rw [en_up_ne _ _ _ _ (fun q => c q.2), o14 _ _ (by decide), cJ]; exact q6 j (by omega)
      refine ml_cv (c := mlc_8) mlh_8 (Nat.zero_le _) ⟨⟨rfl, rfl⟩, ⟨rfl, k2, (by omega : x3.toInt ≤ 69)⟩, ⟨rfl, (by omega : 1 ≤ (x3 + 1).toInt), (by omega : (x3 + 1).toInt ≤ 70)⟩, trivial⟩ m6 ml_pf0 rfl (fun I7 L7 R7 m7 f7 I10 e10 => ?_)
      obtain ⟨m10, f10, o10⟩ := ml_cop ml_s143 (by decide +kernel) m7 f6 f7 (by omega : 0 ≤ (x3 + 1).toInt) (by omega) e10
      have i10 : I10 148 x3.toNatClampNeg = I 148 x3.toNatClampNeg := by rw [o10 _ _ (by decide) (by omega), o6 _ _ (by decide) (by omega)]
      refine ⟨v, ?_⟩
      rw [i10]
      refine ml_chooses hd m10 bo.1 bo.2 gap bn.1 (by omega) (fun r I11 L11 R11 r0 r1 m11 f11 => ?_)
      have f11' : en_fr ml_SV w0 (xLay, I11, L11, R11) := ml_frt f10 f11 ml_s143
      have o11 : ∀ p j, p ≠ 143 → I11 p j = I10 p j := fun p j h1 => ml_g f11 (ml_143 h1)
      refine ⟨fun _ => ?_, fun _ => ⟨v, ?_⟩⟩
      · exact tail I11 L11 R11 r m11 f11' (fun p j h1 h2 h3 h4 h5 h6 => by rw [o11 _ _ h1, o10 _ _ h1 (fun c => h6 ⟨c.1, Or.inr c.2⟩), o6 _ _ h2 (fun c => h6 ⟨c.1, Or.inl c.2⟩)]) (fun j => by rw [o11 _ _ (by decide), o10 _ _ (by decide) (by omega)]) (by rw [o11 _ _ (by decide), o10 _ _ (by decide) (by omega)])
      · have i11 : I11 148 x3.toNatClampNeg = I 148 x3.toNatClampNeg := by rw [o11 _ _ (by decide), i10]
        have t11 : I11 107 63 = I 107 63 + 1 := by rw [o11 _ _ (by decide), o10 _ _ (by decide) (by omega), g6]
        rw [i11]
        refine ml_cv (c := mlc_15) mlh_15 (Nat.zero_le _) ⟨⟨rfl, rfl⟩, ⟨rfl, bo.1, bo.2⟩, ⟨rfl, bn.1, (by omega : _ ≤ (3 : Int))⟩, ⟨rfl, r0, r1⟩, trivial⟩ m11 ?_ rfl (fun I19 L19 R19 m19 f19 => ?_)
        · intro e he
          have he : e ∈ [((107 : Nat), (63 : Nat), (1 : Int), (1000 : Int))] := he
          rw [List.mem_singleton.mp he]
          show (1 : Int) ≤ (I11 107 63).toInt ∧ (I11 107 63).toInt ≤ 1000
          rw [t11]; omega
        · have o19 : ∀ p j, p ≠ 154 → p ≠ 155 → p ≠ 156 → I19 p j = I11 p j := fun p j h1 h2 h3 => ml_g f19 (ml_154 h1 h2 h3)
          exact tail I19 L19 R19 r m19 (ml_frt f11' f19 ml_s154) (fun p j h1 h2 h3 h4 h5 h6 => by rw [o19 _ _ h3 h4 h5, o11 _ _ h1, o10 _ _ h1 (fun c => h6 ⟨c.1, Or.inr c.2⟩), o6 _ _ h2 (fun c => h6 ⟨c.1, Or.inl c.2⟩)]) (fun j => by rw [o19 _ _ (by decide) (by decide) (by decide), o11 _ _ (by decide), o10 _ _ (by decide) (by omega)]) (by rw [o19 _ _ (by decide) (by decide) (by decide), o11 _ _ (by decide), o10 _ _ (by decide) (by omega)])
    · have m31 : en_mem ml_tb mlX (xLay, I31, L, R) := by
        rw [e31]
        exact ml_wf m6 (by decide +kernel) (q := (0, 1)) (by decide +kernel) (by decide)
      exact hΦ x2 I31 L R f0 (by omega) m31 (by rw [e31]; exact ml_fr f6 (by decide +kernel))
end
