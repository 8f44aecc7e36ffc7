/-! readTape once more, its last two calls by contract (wip/pe/mkx.py) -/
theorem sm_cvQ12 {P : Nat → sm_M} {S : sm_C} {d g : Nat} {as : List Value} {w : sm_W} {cs : Nat × Nat} {lay : List (Nat × Nat)} {C : sm_I → sm_L → sm_R → Prop} {K : sm_Z → Prop} (h : sm_wp P S d g 0 as [] w cs (fun z => ∃ (I2 : sm_I) (L2 : sm_L) (R2 : sm_R), z = (none, (lay, I2, L2, kQ12 R2)) ∧ C I2 L2 R2)) (hC : ∀ (I2 : sm_I) (L2 : sm_L) (R2 : sm_R), C I2 L2 R2 → K (none, (lay, I2, L2, kQ12 R2))) : sm_wp P S d g 0 as [] w cs K := sm_wp_mono h (fun z q => by
  obtain ⟨I2, L2, R2, e, c⟩ := q
  subst e
  exact hC I2 L2 R2 c)
theorem s12x_X7_readTape_0 {S : sm_C} {d : Nat} {Φ : sm_Z → Prop} {I : sm_I} {L : sm_L} {R : sm_R} {x2 : Int32} (h : sm_wp sm_P S d 16 0 [.ref 12] [] (xLay, I, L, (kQ12 R)) (0, 0) (fun z => ∃ (I1 : sm_I) (L2 : sm_L), z = (none, (xLay, I1, L2, (kQ12 R))) ∧ sm_wp sm_P S d 301 0 [.ref 3, .ref 1, .int x2] [] (xLay, (sm_up I1 2 5 (0 : Int32)), L2, (kQ12 R)) (0, 0) (fun z => ∃ (I4 : sm_I) (L5 : sm_L), z = (none, (xLay, I4, L5, (kQ12 R))) ∧ sm_wp sm_P S d 277 0 [.ref 2] [] (xLay, I4, L5, (kQ12 R)) (0, 0) (fun z => ∃ (r9 : Int32) (I7 : sm_I) (L8 : sm_L), z = (some (.int r9), (xLay, I7, L8, (kQ12 R))) ∧ ((r9 = 0 → sm_wp sm_P S d 274 0 [.ref 2] [] (xLay, I7, L8, (kQ12 R)) (0, 0) (fun z => ∃ (r21 : Int32) (I19 : sm_I) (L20 : sm_L), z = (some (.int r21), (xLay, I19, L20, (kQ12 R))) ∧ ((r21 = 0 → sm_wp sm_P S d 18 0 [.ref 12] [] (xLay, I19, L20, (kQ12 R)) (0, 0) (fun z => ∃ (I22 : sm_I) (L23 : sm_L) (R23 : sm_R), z = (none, (xLay, I22, L23, (kQ12 R23))) ∧ sm_wp sm_P S d 17 0 [.ref 12] [] (xLay, I22, L23, (kQ12 R23)) (0, 0) (fun z => ∃ (I25 : sm_I) (L26 : sm_L) (R26 : sm_R), z = (none, (xLay, I25, L26, (kQ12 R26))) ∧ Φ (some (.int r21), (xLay, I25, L26, (kQ12 R26)))))) ∧ (¬ r21 = 0 → Φ (some (.int r21), (xLay, I19, L20, (kQ12 R))))))) ∧ (¬ r9 = 0 → ((r9 = 0 → sm_wp sm_P S d 18 0 [.ref 12] [] (xLay, I7, L8, (kQ12 R)) (0, 0) (fun z => ∃ (I10 : sm_I) (L11 : sm_L), z = (none, (xLay, I10, L11, (kQ12 R))) ∧ sm_wp sm_P S d 17 0 [.ref 12] [] (xLay, I10, L11, (kQ12 R)) (0, 0) (fun z => ∃ (I13 : sm_I) (L14 : sm_L), z = (none, (xLay, I13, L14, (kQ12 R))) ∧ Φ (some (.int r9), (xLay, I13, L14, (kQ12 R)))))) ∧ (¬ r9 = 0 → Φ (some (.int r9), (xLay, I7, L8, (kQ12 R))))))))))) : sm_wp sm_P S (d + 1) 276 0 [.ref 2, .ref 1, .int x2] [] (xLay, I, L, (kQ12 R)) (0, 0) Φ := sm_wp_step (sm_cv0 (h) (fun I1 L2 q35 => sm_cv0 (q35) (fun I4 L5 q34 => sm_ci0 (q34) (fun r9 I7 L8 q33 => ⟨fun q32 => sm_ci0 (((q33).1 q32)) (fun r21 I19 L20 q31 => ⟨fun q30 => sm_cvQ12 (((q31).1 q30)) (fun I22 L23 R23 q29 => sm_cvQ12 (q29) (fun I25 L26 R26 q28 => q28)), fun q30 => ((q31).2 q30)⟩), fun q32 => ⟨fun q18 => sm_cv0 (((((q33).2 q32)).1 q18)) (fun I10 L11 q17 => sm_cv0 (q17) (fun I13 L14 q16 => q16)), fun q18 => ((((q33).2 q32)).2 q18)⟩⟩))))
theorem kQ12_r : ∀ t, t ∈ kQ12l → (t.1 = 2 ∧ t.2.1 = 6 ∧ t.2.2 = 12) ∨ en_refs kl_tb t.1 t.2.1 = [t.2.2] := by decide +kernel
theorem kQ12_eq {w : sm_W} (hm : en_mem kl_tb klX w) (h26 : w.2.2.2 2 6 = some 12) : kQ12 w.2.2.2 = w.2.2.2 := by
  funext x j
  unfold kQ12
  split
  · next t ht =>
    have mem := List.mem_of_find?_eq_some ht
    have pr := List.find?_some ht
    obtain ⟨p1, p2⟩ := Bool.and_eq_true_iff.mp pr
    have e1 : t.1 = x := Nat.eq_of_beq_eq_true p1
    have e2 : t.2.1 = j := Nat.eq_of_beq_eq_true p2
    rcases kQ12_r t mem with ⟨q1, q2, q3⟩ | q
    · rw [← e1, ← e2, q1, q2, q3]; exact h26.symm
    · obtain ⟨a, g1, g2⟩ := hm.2.2.1 t.1 t.2.1 (by rw [q]; exact List.cons_ne_nil _ _)
      rw [q] at g1
      rw [← e1, ← e2, g2, List.mem_singleton.mp g1]
  · rfl
theorem sm_cvQ49 {P : Nat → sm_M} {S : sm_C} {d g : Nat} {as : List Value} {w : sm_W} {cs : Nat × Nat} {lay : List (Nat × Nat)} {C : sm_I → sm_L → sm_R → Prop} {K : sm_Z → Prop} (h : sm_wp P S d g 0 as [] w cs (fun z => ∃ (I2 : sm_I) (L2 : sm_L) (R2 : sm_R), z = (none, (lay, I2, L2, kQ49 R2)) ∧ C I2 L2 R2)) (hC : ∀ (I2 : sm_I) (L2 : sm_L) (R2 : sm_R), C I2 L2 R2 → K (none, (lay, I2, L2, kQ49 R2))) : sm_wp P S d g 0 as [] w cs K := sm_wp_mono h (fun z q => by
  obtain ⟨I2, L2, R2, e, c⟩ := q
  subst e
  exact hC I2 L2 R2 c)
theorem s49x_X7_readTape_0 {S : sm_C} {d : Nat} {Φ : sm_Z → Prop} {I : sm_I} {L : sm_L} {R : sm_R} {x2 : Int32} (h : sm_wp sm_P S d 16 0 [.ref 49] [] (xLay, I, L, (kQ49 R)) (0, 0) (fun z => ∃ (I1 : sm_I) (L2 : sm_L), z = (none, (xLay, I1, L2, (kQ49 R))) ∧ sm_wp sm_P S d 301 0 [.ref 3, .ref 1, .int x2] [] (xLay, (sm_up I1 2 5 (0 : Int32)), L2, (kQ49 R)) (0, 0) (fun z => ∃ (I4 : sm_I) (L5 : sm_L), z = (none, (xLay, I4, L5, (kQ49 R))) ∧ sm_wp sm_P S d 277 0 [.ref 2] [] (xLay, I4, L5, (kQ49 R)) (0, 0) (fun z => ∃ (r9 : Int32) (I7 : sm_I) (L8 : sm_L), z = (some (.int r9), (xLay, I7, L8, (kQ49 R))) ∧ ((r9 = 0 → sm_wp sm_P S d 274 0 [.ref 2] [] (xLay, I7, L8, (kQ49 R)) (0, 0) (fun z => ∃ (r21 : Int32) (I19 : sm_I) (L20 : sm_L), z = (some (.int r21), (xLay, I19, L20, (kQ49 R))) ∧ ((r21 = 0 → sm_wp sm_P S d 18 0 [.ref 49] [] (xLay, I19, L20, (kQ49 R)) (0, 0) (fun z => ∃ (I22 : sm_I) (L23 : sm_L) (R23 : sm_R), z = (none, (xLay, I22, L23, (kQ49 R23))) ∧ sm_wp sm_P S d 17 0 [.ref 49] [] (xLay, I22, L23, (kQ49 R23)) (0, 0) (fun z => ∃ (I25 : sm_I) (L26 : sm_L) (R26 : sm_R), z = (none, (xLay, I25, L26, (kQ49 R26))) ∧ Φ (some (.int r21), (xLay, I25, L26, (kQ49 R26)))))) ∧ (¬ r21 = 0 → Φ (some (.int r21), (xLay, I19, L20, (kQ49 R))))))) ∧ (¬ r9 = 0 → ((r9 = 0 → sm_wp sm_P S d 18 0 [.ref 49] [] (xLay, I7, L8, (kQ49 R)) (0, 0) (fun z => ∃ (I10 : sm_I) (L11 : sm_L), z = (none, (xLay, I10, L11, (kQ49 R))) ∧ sm_wp sm_P S d 17 0 [.ref 49] [] (xLay, I10, L11, (kQ49 R)) (0, 0) (fun z => ∃ (I13 : sm_I) (L14 : sm_L), z = (none, (xLay, I13, L14, (kQ49 R))) ∧ Φ (some (.int r9), (xLay, I13, L14, (kQ49 R)))))) ∧ (¬ r9 = 0 → Φ (some (.int r9), (xLay, I7, L8, (kQ49 R))))))))))) : sm_wp sm_P S (d + 1) 276 0 [.ref 2, .ref 1, .int x2] [] (xLay, I, L, (kQ49 R)) (0, 0) Φ := sm_wp_step (sm_cv0 (h) (fun I1 L2 q35 => sm_cv0 (q35) (fun I4 L5 q34 => sm_ci0 (q34) (fun r9 I7 L8 q33 => ⟨fun q32 => sm_ci0 (((q33).1 q32)) (fun r21 I19 L20 q31 => ⟨fun q30 => sm_cvQ49 (((q31).1 q30)) (fun I22 L23 R23 q29 => sm_cvQ49 (q29) (fun I25 L26 R26 q28 => q28)), fun q30 => ((q31).2 q30)⟩), fun q32 => ⟨fun q18 => sm_cv0 (((((q33).2 q32)).1 q18)) (fun I10 L11 q17 => sm_cv0 (q17) (fun I13 L14 q16 => q16)), fun q18 => ((((q33).2 q32)).2 q18)⟩⟩))))
theorem kQ49_r : ∀ t, t ∈ kQ49l → (t.1 = 2 ∧ t.2.1 = 6 ∧ t.2.2 = 49) ∨ en_refs kl_tb t.1 t.2.1 = [t.2.2] := by decide +kernel
theorem kQ49_eq {w : sm_W} (hm : en_mem kl_tb klX w) (h26 : w.2.2.2 2 6 = some 49) : kQ49 w.2.2.2 = w.2.2.2 := by
  funext x j
  unfold kQ49
  split
  · next t ht =>
    have mem := List.mem_of_find?_eq_some ht
    have pr := List.find?_some ht
    obtain ⟨p1, p2⟩ := Bool.and_eq_true_iff.mp pr
    have e1 : t.1 = x := Nat.eq_of_beq_eq_true p1
    have e2 : t.2.1 = j := Nat.eq_of_beq_eq_true p2
    rcases kQ49_r t mem with ⟨q1, q2, q3⟩ | q
    · rw [← e1, ← e2, q1, q2, q3]; exact h26.symm
    · obtain ⟨a, g1, g2⟩ := hm.2.2.1 t.1 t.2.1 (by rw [q]; exact List.cons_ne_nil _ _)
      rw [q] at g1
      rw [← e1, ← e2, g2, List.mem_singleton.mp g1]
  · rfl
