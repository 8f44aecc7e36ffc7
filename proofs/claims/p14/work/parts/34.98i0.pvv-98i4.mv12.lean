section
/-! readTape once more, its last two calls by contract (wip/pe/mkx.py) -/
theorem sm_cvQ12 {P : Nat → sm_M} {S : sm_C} {d g : Nat} {as : List Value} {w : sm_W} {cs : Nat × Nat} {lay : List (Nat × Nat)} {C : sm_I → sm_L → sm_R → Prop} {K : sm_Z → Prop} (h : sm_wp P S d g 0 as [] w cs (fun z => ∃ (I2 : sm_I) (L2 : sm_L) (R2 : sm_R), z = (none, (lay, I2, L2, kQ12 R2)) ∧ C I2 L2 R2)) (hC : ∀ (I2 : sm_I) (L2 : sm_L) (R2 : sm_R), C I2 L2 R2 → K (none, (lay, I2, L2, kQ12 R2))) : sm_wp P S d g 0 as [] w cs K := sm_wp_mono h (fun z q => by
  obtain ⟨I2, L2, R2, e, c⟩ := q
  subst e
  exact hC I2 L2 R2 c)
theorem s12x_X7_readTape_0 {S : sm_C} {d : Nat} {Φ : sm_Z → Prop} {I : sm_I} {L : sm_L} {R : sm_R} {x2 : Int32} (h : sm_wp sm_P S d 16 0 [.ref 12] [] (xLay, I, L, (kQ12 R)) (0, 0) (fun z => ∃ (I1 : sm_I) (L2 : sm_L), z = (none, (xLay, I1, L2, (kQ12 R))) ∧ sm_wp sm_P S d 301 0 [.ref 3, .ref 1, .int x2] [] (xLay, (sm_up I1 2 5 (0 : Int32)), L2, (kQ12 R)) (0, 0) (fun z => ∃ (I4 : sm_I) (L5 : sm_L), z = (none, (xLay, I4, L5, (kQ12 R))) ∧ sm_wp sm_P S d 277 0 [.ref 2] [] (xLay, I4, L5, (kQ12 R)) (0, 0) (fun z => ∃ (r9 : Int32) (I7 : sm_I) (L8 : sm_L), z = (some (.int r9), (xLay, I7, L8, (kQ12 R))) ∧ ((r9 = 0 → sm_wp sm_P S d 274 0 [.ref 2] [] (xLay, I7, L8, (kQ12 R)) (0, 0) (fun z => ∃ (r21 : Int32) (I19 : sm_I) (L20 : sm_L), z = (some (.int r21), (xLay, I19, L20, (kQ12 R))) ∧ ((r21 = 0 → sm_wp sm_P S d 18 0 [.ref 12] [] (xLay, I19, L20, (kQ12 R)) (0, 0) (fun z => ∃ (I22 : sm_I) (L23 : sm_L) (R23 : sm_R), z = (none, (xLay, I22, L23, (kQ12 R23))) ∧ sm_wp sm_P S d 17 0 [.ref 12] [] (xLay, I22, L23, (kQ12 R23)) (0, 0) (fun z => ∃ (I25 : sm_I) (L26 : sm_L) (R26 : sm_R), z = (none, (xLay, I25, L26, (kQ12 R26))) ∧ Φ (some (.int r21), (xLay, I25, L26, (kQ12 R26)))))) ∧ (¬ r21 = 0 → Φ (some (.int r21), (xLay, I19, L20, (kQ12 R))))))) ∧ (¬ r9 = 0 → ((r9 = 0 → sm_wp sm_P S d 18 0 [.ref 12] [] (xLay, I7, L8, (kQ12 R)) (0, 0) (fun z => ∃ (I10 : sm_I) (L11 : sm_L), z = (none, (xLay, I10, L11, (kQ12 R))) ∧ sm_wp sm_P S d 17 0 [.ref 12] [] (xLay, I10, L11, (kQ12 R)) (0, 0) (fun z => ∃ (I13 : sm_I) (L14 : sm_L), z = (none, (xLay, I13, L14, (kQ12 R))) ∧ Φ (some (.int r9), (xLay, I13, L14, (kQ12 R)))))) ∧ (¬ r9 = 0 → Φ (some (.int r9), (xLay, I7, L8, (kQ12 R))))))))))) : sm_wp sm_P S (d + 1) 276 0 [.ref 2, .ref 1, .int x2] [] (xLay, I, L, (kQ12 R)) (0, 0) Φ := sm_wp_step (sm_cv0 (h) (fun I1 L2 q35 => sm_cv0 (q35) (fun I4 L5 q34 => sm_ci0 (q34) (fun r9 I7 L8 q33 => ⟨fun q32 => sm_ci0 (((q33).1 q32)) (fun r21 I19 L20 q31 => ⟨fun q30 => sm_cvQ12 (((q31).1 q30)) (fun I22 L23 R23 q29 => sm_cvQ12 (q29) (fun I25 L26 R26 q28 => q28)), fun q30 => ((q31).2 q30)⟩), fun q32 => ⟨fun q18 => sm_cv0 (((((q33).2 q32)).1 q18)) (fun I10 L11 q17 => sm_cv0 (q17) (fun I13 L14 q16 => q16)), fun q18 => ((((q33).2 q32)).2 q18)⟩⟩))))
theorem kQ12_r : ∀ t, t ∈ kQ12l → (t.1 = 2 ∧ t.2.1 = 6 ∧ t.2.2 = 12) ∨ en_refs kl_tb t.1 t.2.1 = [t.2.2] := by decide +kernel
theorem kQ12_eq {w : sm_W} (hm : en_mem kl_tb klX w) (h26 : w.2.2.2 2 6 = some 12) : kQ12 w.2.2.2 = w.2.2.2 := by
  funext x j
  unfold kQ12
  split
  · next t ht =>
    have mem := List.mem_of_find?_eq_some ht
    have pr := List.find?_some ht
    obtain ⟨p1, p2⟩ := Bool.and_eq_true_iff.mp pr
    have e1 : t.1 = x := Nat.eq_of_beq_eq_true p1
    have e2 : t.2.1 = j := Nat.eq_of_beq_eq_true p2
    rcases kQ12_r t mem with ⟨q1, q2, q3⟩ | q
    · rw [← e1, ← e2, q1, q2, q3]; exact h26.symm
    · obtain ⟨a, g1, g2⟩ := hm.2.2.1 t.1 t.2.1 (by rw [q]; exact List.cons_ne_nil _ _)
      rw [q] at g1
      rw [← e1, ← e2, g2, List.mem_singleton.mp g1]
  · rfl
theorem sm_cvQ49 {P : Nat → sm_M} {S : sm_C} {d g : Nat} {as : List Value} {w : sm_W} {cs : Nat × Nat} {lay : List (Nat × Nat)} {C : sm_I → sm_L → sm_R → Prop} {K : sm_Z → Prop} (h : sm_wp P S d g 0 as [] w cs (fun z => ∃ (I2 : sm_I) (L2 : sm_L) (R2 : sm_R), z = (none, (lay, I2, L2, kQ49 R2)) ∧ C I2 L2 R2)) (hC : ∀ (I2 : sm_I) (L2 : sm_L) (R2 : sm_R), C I2 L2 R2 → K (none, (lay, I2, L2, kQ49 R2))) : sm_wp P S d g 0 as [] w cs K := sm_wp_mono h (fun z q => by
  obtain ⟨I2, L2, R2, e, c⟩ := q
  subst e
  exact hC I2 L2 R2 c)
theorem s49x_X7_readTape_0 {S : sm_C} {d : Nat} {Φ : sm_Z → Prop} {I : sm_I} {L : sm_L} {R : sm_R} {x2 : Int32} (h : sm_wp sm_P S d 16 0 [.ref 49] [] (xLay, I, L, (kQ49 R)) (0, 0) (fun z => ∃ (I1 : sm_I) (L2 : sm_L), z = (none, (xLay, I1, L2, (kQ49 R))) ∧ sm_wp sm_P S d 301 0 [.ref 3, .ref 1, .int x2] [] (xLay, (sm_up I1 2 5 (0 : Int32)), L2, (kQ49 R)) (0, 0) (fun z => ∃ (I4 : sm_I) (L5 : sm_L), z = (none, (xLay, I4, L5, (kQ49 R))) ∧ sm_wp sm_P S d 277 0 [.ref 2] [] (xLay, I4, L5, (kQ49 R)) (0, 0) (fun z => ∃ (r9 : Int32) (I7 : sm_I) (L8 : sm_L), z = (some (.int r9), (xLay, I7, L8, (kQ49 R))) ∧ ((r9 = 0 → sm_wp sm_P S d 274 0 [.ref 2] [] (xLay, I7, L8, (kQ49 R)) (0, 0) (fun z => ∃ (r21 : Int32) (I19 : sm_I) (L20 : sm_L), z = (some (.int r21), (xLay, I19, L20, (kQ49 R))) ∧ ((r21 = 0 → sm_wp sm_P S d 18 0 [.ref 49] [] (xLay, I19, L20, (kQ49 R)) (0, 0) (fun z => ∃ (I22 : sm_I) (L23 : sm_L) (R23 : sm_R), z = (none, (xLay, I22, L23, (kQ49 R23))) ∧ sm_wp sm_P S d 17 0 [.ref 49] [] (xLay, I22, L23, (kQ49 R23)) (0, 0) (fun z => ∃ (I25 : sm_I) (L26 : sm_L) (R26 : sm_R), z = (none, (xLay, I25, L26, (kQ49 R26))) ∧ Φ (some (.int r21), (xLay, I25, L26, (kQ49 R26)))))) ∧ (¬ r21 = 0 → Φ (some (.int r21), (xLay, I19, L20, (kQ49 R))))))) ∧ (¬ r9 = 0 → ((r9 = 0 → sm_wp sm_P S d 18 0 [.ref 49] [] (xLay, I7, L8, (kQ49 R)) (0, 0) (fun z => ∃ (I10 : sm_I) (L11 : sm_L), z = (none, (xLay, I10, L11, (kQ49 R))) ∧ sm_wp sm_P S d 17 0 [.ref 49] [] (xLay, I10, L11, (kQ49 R)) (0, 0) (fun z => ∃ (I13 : sm_I) (L14 : sm_L), z = (none, (xLay, I13, L14, (kQ49 R))) ∧ Φ (some (.int r9), (xLay, I13, L14, (kQ49 R)))))) ∧ (¬ r9 = 0 → Φ (some (.int r9), (xLay, I7, L8, (kQ49 R))))))))))) : sm_wp sm_P S (d + 1) 276 0 [.ref 2, .ref 1, .int x2] [] (xLay, I, L, (kQ49 R)) (0, 0) Φ := sm_wp_step (sm_cv0 (h) (fun I1 L2 q35 => sm_cv0 (q35) (fun I4 L5 q34 => sm_ci0 (q34) (fun r9 I7 L8 q33 => ⟨fun q32 => sm_ci0 (((q33).1 q32)) (fun r21 I19 L20 q31 => ⟨fun q30 => sm_cvQ49 (((q31).1 q30)) (fun I22 L23 R23 q29 => sm_cvQ49 (q29) (fun I25 L26 R26 q28 => q28)), fun q30 => ((q31).2 q30)⟩), fun q32 => ⟨fun q18 => sm_cv0 (((((q33).2 q32)).1 q18)) (fun I10 L11 q17 => sm_cv0 (q17) (fun I13 L14 q16 => q16)), fun q18 => ((((q33).2 q32)).2 q18)⟩⟩))))
theorem kQ49_r : ∀ t, t ∈ kQ49l → (t.1 = 2 ∧ t.2.1 = 6 ∧ t.2.2 = 49) ∨ en_refs kl_tb t.1 t.2.1 = [t.2.2] := by decide +kernel
theorem kQ49_eq {w : sm_W} (hm : en_mem kl_tb klX w) (h26 : w.2.2.2 2 6 = some 49) : kQ49 w.2.2.2 = w.2.2.2 := by
  funext x j
  unfold kQ49
  split
  · next t ht =>
    have mem := List.mem_of_find?_eq_some ht
    have pr := List.find?_some ht
    obtain ⟨p1, p2⟩ := Bool.and_eq_true_iff.mp pr
    have e1 : t.1 = x := Nat.eq_of_beq_eq_true p1
    have e2 : t.2.1 = j := Nat.eq_of_beq_eq_true p2
    rcases kQ49_r t mem with ⟨q1, q2, q3⟩ | q
    · rw [← e1, ← e2, q1, q2, q3]; exact h26.symm
    · obtain ⟨a, g1, g2⟩ := hm.2.2.1 t.1 t.2.1 (by rw [q]; exact List.cons_ne_nil _ _)
      rw [q] at g1
      rw [← e1, ← e2, g2, List.mem_singleton.mp g1]
  · rfl
end
section
/-! conditions of the class's small methods, told = q, and of the reference's (wip/pe/symp.py) -/
def kPl : List (Nat × Nat × Nat) := [(0, 0, 1), (0, 1, 2), (0, 2, 37), (0, 3, 45), (0, 4, 74), (0, 5, 82), (0, 6, 90), (0, 7, 98), (0, 8, 103), (37, 2, 38), (37, 3, 39), (37, 4, 40), (40, 0, 41), (40, 1, 42), (40, 2, 43), (40, 3, 44)]
def kP (q : Nat) (R : sm_R) : sm_R := fun x j => match kPl.find? (fun t => Nat.beq t.1 x && Nat.beq t.2.1 j) with
  | some t => some t.2.2
  | none => bif Nat.beq x 0 && Nat.beq j 9 then some q else R x j
theorem p12_X11_isSaying_0 {S : sm_C} {d : Nat} {Φ : sm_Z → Prop} {I : sm_I} {L : sm_L} {R : sm_R} {x1 : Int32} (h : ((x1 < 0 → Φ (some (.int (0 : Int32)), (xLay, I, L, (kP 12 R)))) ∧ (¬ x1 < 0 → (((I 12 3) ≤ x1 → Φ (some (.int (0 : Int32)), (xLay, I, L, (kP 12 R)))) ∧ (¬ (I 12 3) ≤ x1 → Φ (some (.int (1 : Int32)), (xLay, I, L, (kP 12 R)))))))) : sm_wp sm_P S d 62 0 [.ref 0, .int x1] [] (xLay, I, L, (kP 12 R)) (0, 0) Φ := sm_wp_step (⟨fun q2 => ⟨Or.inl rfl, ((h).1 q2)⟩, fun q2 => ⟨fun q1 => ⟨Or.inl rfl, ((((h).2 q2)).1 q1)⟩, fun q1 => ⟨Or.inr rfl, ((((h).2 q2)).2 q1)⟩⟩⟩)
theorem p49_X11_isSaying_0 {S : sm_C} {d : Nat} {Φ : sm_Z → Prop} {I : sm_I} {L : sm_L} {R : sm_R} {x1 : Int32} (h : ((x1 < 0 → Φ (some (.int (0 : Int32)), (xLay, I, L, (kP 49 R)))) ∧ (¬ x1 < 0 → (((I 49 3) ≤ x1 → Φ (some (.int (0 : Int32)), (xLay, I, L, (kP 49 R)))) ∧ (¬ (I 49 3) ≤ x1 → Φ (some (.int (1 : Int32)), (xLay, I, L, (kP 49 R)))))))) : sm_wp sm_P S d 62 0 [.ref 0, .int x1] [] (xLay, I, L, (kP 49 R)) (0, 0) Φ := sm_wp_step (⟨fun q2 => ⟨Or.inl rfl, ((h).1 q2)⟩, fun q2 => ⟨fun q1 => ⟨Or.inl rfl, ((((h).2 q2)).1 q1)⟩, fun q1 => ⟨Or.inr rfl, ((((h).2 q2)).2 q1)⟩⟩⟩)
theorem p12_X11_isSay_0 {S : sm_C} {d : Nat} {Φ : sm_Z → Prop} {I : sm_I} {L : sm_L} {R : sm_R} {x1 : Int32} (h : sm_wp sm_P S d 62 0 [.ref 0, .int x1] [] (xLay, I, L, (kP 12 R)) (0, 0) (fun z => ∃ (r3 : Int32) (I1 : sm_I) (L2 : sm_L), z = (some (.int r3), (xLay, I1, L2, (kP 12 R))) ∧ ((r3 = 0 → Φ (some (.int (0 : Int32)), (xLay, I1, L2, (kP 12 R)))) ∧ (¬ r3 = 0 → (((((I1 12 6) >>> (x1 &&& 31)) &&& (1 : Int32)) = 0 → Φ (some (.int (1 : Int32)), (xLay, I1, L2, (kP 12 R)))) ∧ (¬ (((I1 12 6) >>> (x1 &&& 31)) &&& (1 : Int32)) = 0 → Φ (some (.int (0 : Int32)), (xLay, I1, L2, (kP 12 R))))))))) : sm_wp sm_P S (d + 1) 61 0 [.ref 0, .int x1] [] (xLay, I, L, (kP 12 R)) (0, 0) Φ := sm_wp_step (sm_ci0 (h) (fun r3 I1 L2 q6 => ⟨fun q5 => ⟨Or.inl rfl, ((q6).1 q5)⟩, fun q5 => ⟨fun q4 => ⟨Or.inr rfl, ((((q6).2 q5)).1 q4)⟩, fun q4 => ⟨Or.inl rfl, ((((q6).2 q5)).2 q4)⟩⟩⟩))
theorem p49_X11_isSay_0 {S : sm_C} {d : Nat} {Φ : sm_Z → Prop} {I : sm_I} {L : sm_L} {R : sm_R} {x1 : Int32} (h : sm_wp sm_P S d 62 0 [.ref 0, .int x1] [] (xLay, I, L, (kP 49 R)) (0, 0) (fun z => ∃ (r3 : Int32) (I1 : sm_I) (L2 : sm_L), z = (some (.int r3), (xLay, I1, L2, (kP 49 R))) ∧ ((r3 = 0 → Φ (some (.int (0 : Int32)), (xLay, I1, L2, (kP 49 R)))) ∧ (¬ r3 = 0 → (((((I1 49 6) >>> (x1 &&& 31)) &&& (1 : Int32)) = 0 → Φ (some (.int (1 : Int32)), (xLay, I1, L2, (kP 49 R)))) ∧ (¬ (((I1 49 6) >>> (x1 &&& 31)) &&& (1 : Int32)) = 0 → Φ (some (.int (0 : Int32)), (xLay, I1, L2, (kP 49 R))))))))) : sm_wp sm_P S (d + 1) 61 0 [.ref 0, .int x1] [] (xLay, I, L, (kP 49 R)) (0, 0) Φ := sm_wp_step (sm_ci0 (h) (fun r3 I1 L2 q6 => ⟨fun q5 => ⟨Or.inl rfl, ((q6).1 q5)⟩, fun q5 => ⟨fun q4 => ⟨Or.inr rfl, ((((q6).2 q5)).1 q4)⟩, fun q4 => ⟨Or.inl rfl, ((((q6).2 q5)).2 q4)⟩⟩⟩))
theorem p12_X11_isTime_0 {S : sm_C} {d : Nat} {Φ : sm_Z → Prop} {I : sm_I} {L : sm_L} {R : sm_R} {x1 : Int32} (h : ((x1 < 0 → Φ (some (.int (0 : Int32)), (xLay, I, L, (kP 12 R)))) ∧ (¬ x1 < 0 → (((I 12 2) ≤ x1 → Φ (some (.int (0 : Int32)), (xLay, I, L, (kP 12 R)))) ∧ (¬ (I 12 2) ≤ x1 → Φ (some (.int (1 : Int32)), (xLay, I, L, (kP 12 R)))))))) : sm_wp sm_P S d 63 0 [.ref 0, .int x1] [] (xLay, I, L, (kP 12 R)) (0, 0) Φ := sm_wp_step (⟨fun q2 => ⟨Or.inl rfl, ((h).1 q2)⟩, fun q2 => ⟨fun q1 => ⟨Or.inl rfl, ((((h).2 q2)).1 q1)⟩, fun q1 => ⟨Or.inr rfl, ((((h).2 q2)).2 q1)⟩⟩⟩)
theorem p49_X11_isTime_0 {S : sm_C} {d : Nat} {Φ : sm_Z → Prop} {I : sm_I} {L : sm_L} {R : sm_R} {x1 : Int32} (h : ((x1 < 0 → Φ (some (.int (0 : Int32)), (xLay, I, L, (kP 49 R)))) ∧ (¬ x1 < 0 → (((I 49 2) ≤ x1 → Φ (some (.int (0 : Int32)), (xLay, I, L, (kP 49 R)))) ∧ (¬ (I 49 2) ≤ x1 → Φ (some (.int (1 : Int32)), (xLay, I, L, (kP 49 R)))))))) : sm_wp sm_P S d 63 0 [.ref 0, .int x1] [] (xLay, I, L, (kP 49 R)) (0, 0) Φ := sm_wp_step (⟨fun q2 => ⟨Or.inl rfl, ((h).1 q2)⟩, fun q2 => ⟨fun q1 => ⟨Or.inl rfl, ((((h).2 q2)).1 q1)⟩, fun q1 => ⟨Or.inr rfl, ((((h).2 q2)).2 q1)⟩⟩⟩)
theorem p_X11_doubt_0 {S : sm_C} {d : Nat} {Φ : sm_Z → Prop} {I : sm_I} {L : sm_L} {R : sm_R} {q : Nat} {x1 : Int32} {x2 : Int32} (h : sm_wp sm_P S d 61 0 [.ref 0, .int x1] [] (xLay, I, L, (kP q R)) (0, 0) (fun z => ∃ (r3 : Int32) (I1 : sm_I) (L2 : sm_L), z = (some (.int r3), (xLay, I1, L2, (kP q R))) ∧ ((r3 = 0 → Φ (some (.int (0 : Int32)), (xLay, I1, L2, (kP q R)))) ∧ (¬ r3 = 0 → ∀ n4 : Int32, n4 = ((1 : Int32) <<< (x1 &&& 31)) → ((x2 = 0 → ∀ n5 : Int32, n5 = ((I1 37 0) &&& (n4 ^^^ (-1 : Int32))) → sm_wp sm_P S d 86 0 [.ref 0] [] (xLay, (sm_up I1 37 0 n5), L2, (kP q R)) (0, 0) (fun z => ∃ (I6 : sm_I) (L7 : sm_L), z = (none, (xLay, I6, L7, (kP q R))) ∧ Φ (some (.int (1 : Int32)), (xLay, I6, L7, (kP q R))))) ∧ (¬ x2 = 0 → ∀ I10 : sm_I, I10 = (sm_up I1 37 0 ((I1 37 0) ||| n4)) → (vp_in x1 55) ∧ ∀ I11 : sm_I, I11 = (sm_up I10 39 x1.toNatClampNeg (-1 : Int32)) → sm_wp sm_P S d 86 0 [.ref 0] [] (xLay, I11, L2, (kP q R)) (0, 0) (fun z => ∃ (I12 : sm_I) (L13 : sm_L), z = (none, (xLay, I12, L13, (kP q R))) ∧ Φ (some (.int (1 : Int32)), (xLay, I12, L13, (kP q R)))))))))) : sm_wp sm_P S (d + 1) 39 0 [.ref 0, .int x1, .int x2] [] (xLay, I, L, (kP q R)) (0, 0) Φ := sm_wp_step (sm_ci0 (h) (fun r3 I1 L2 q18 => ⟨fun q17 => ⟨Or.inl rfl, ((q18).1 q17)⟩, fun q17 => ⟨fun q16 => sm_cv0 (((((((q18).2 q17) _ rfl)).1 q16) _ rfl)) (fun I6 L7 q9 => ⟨Or.inr rfl, q9⟩), fun q16 => ⟨(((((((q18).2 q17) _ rfl)).2 q16) _ rfl)).1, sm_cv0 (((((((((q18).2 q17) _ rfl)).2 q16) _ rfl)).2 _ rfl)) (fun I12 L13 q15 => ⟨Or.inr rfl, q15⟩)⟩⟩⟩))
theorem p_X11_set_0 {S : sm_C} {d : Nat} {Φ : sm_Z → Prop} {I : sm_I} {L : sm_L} {R : sm_R} {q : Nat} {x1 : Int32} {x2 : Int32} (h : sm_wp sm_P S d 63 0 [.ref 0, .int x1] [] (xLay, I, L, (kP q R)) (0, 0) (fun z => ∃ (r3 : Int32) (I1 : sm_I) (L2 : sm_L), z = (some (.int r3), (xLay, I1, L2, (kP q R))) ∧ ((r3 = 0 → Φ (some (.int (0 : Int32)), (xLay, I1, L2, (kP q R)))) ∧ (¬ r3 = 0 → ((x2 = (-1 : Int32) → (vp_in x1 10) ∧ ∀ I4 : sm_I, I4 = (sm_up I1 38 x1.toNatClampNeg x2) → Φ (some (.int (1 : Int32)), (xLay, I4, L2, (kP q R)))) ∧ (¬ x2 = (-1 : Int32) → sm_wp sm_P S d 58 0 [.int x2] [] (xLay, I1, L2, (kP q R)) (0, 0) (fun z => ∃ (r7 : Int32) (I5 : sm_I) (L6 : sm_L), z = (some (.int r7), (xLay, I5, L6, (kP q R))) ∧ ((r7 = 0 → Φ (some (.int (0 : Int32)), (xLay, I5, L6, (kP q R)))) ∧ (¬ r7 = 0 → (vp_in x1 10) ∧ ∀ I8 : sm_I, I8 = (sm_up I5 38 x1.toNatClampNeg x2) → Φ (some (.int (1 : Int32)), (xLay, I8, L6, (kP q R)))))))))))) : sm_wp sm_P S (d + 1) 83 0 [.ref 0, .int x1, .int x2] [] (xLay, I, L, (kP q R)) (0, 0) Φ := sm_wp_step (sm_ci0 (h) (fun r3 I1 L2 q13 => ⟨fun q12 => ⟨Or.inl rfl, ((q13).1 q12)⟩, fun q12 => ⟨fun q11 => ⟨(((((q13).2 q12)).1 q11)).1, ⟨Or.inr rfl, ((((((q13).2 q12)).1 q11)).2 _ rfl)⟩⟩, fun q11 => sm_ci0 (((((q13).2 q12)).2 q11)) (fun r7 I5 L6 q10 => ⟨fun q9 => ⟨Or.inl rfl, ((q10).1 q9)⟩, fun q9 => ⟨(((q10).2 q9)).1, ⟨Or.inr rfl, ((((q10).2 q9)).2 _ rfl)⟩⟩⟩)⟩⟩))
theorem p_X11_more_0 {S : sm_C} {d : Nat} {Φ : sm_Z → Prop} {I : sm_I} {L : sm_L} {R : sm_R} {q : Nat} {x1 : Int32} {x2 : Int32} {x3 : Int32} {x4 : Int32} (h : sm_wp sm_P S d 63 0 [.ref 0, .int x1] [] (xLay, I, L, (kP q R)) (0, 0) (fun z => ∃ (r3 : Int32) (I1 : sm_I) (L2 : sm_L), z = (some (.int r3), (xLay, I1, L2, (kP q R))) ∧ ((r3 = 0 → sm_wp sm_P S (d + 1) 69 5 [.ref 0, .int x1, .int x2, .int x3, .int x4] [.int (0 : Int32)] (xLay, I1, L2, (kP q R)) (0, 0) Φ) ∧ (¬ r3 = 0 → ((x2 = (-1 : Int32) → sm_wp sm_P S (d + 1) 69 5 [.ref 0, .int x1, .int x2, .int x3, .int x4] [.int (1 : Int32)] (xLay, I1, L2, (kP q R)) (0, 0) Φ) ∧ (¬ x2 = (-1 : Int32) → sm_wp sm_P S d 63 0 [.ref 0, .int x2] [] (xLay, I1, L2, (kP q R)) (0, 0) (fun z => ∃ (r6 : Int32) (I4 : sm_I) (L5 : sm_L), z = (some (.int r6), (xLay, I4, L5, (kP q R))) ∧ ((r6 = 0 → sm_wp sm_P S (d + 1) 69 5 [.ref 0, .int x1, .int x2, .int x3, .int x4] [.int (0 : Int32)] (xLay, I4, L5, (kP q R)) (0, 0) Φ) ∧ (¬ r6 = 0 → sm_wp sm_P S (d + 1) 69 5 [.ref 0, .int x1, .int x2, .int x3, .int x4] [.int (1 : Int32)] (xLay, I4, L5, (kP q R)) (0, 0) Φ))))))))) : sm_wp sm_P S (d + 1) 69 0 [.ref 0, .int x1, .int x2, .int x3, .int x4] [] (xLay, I, L, (kP q R)) (0, 0) Φ := sm_wp_step (sm_ci0 (h) (fun r3 I1 L2 q11 => ⟨fun q10 => ((q11).1 q10), fun q10 => ⟨fun q9 => ((((q11).2 q10)).1 q9), fun q9 => sm_ci0 (((((q11).2 q10)).2 q9)) (fun r6 I4 L5 q8 => ⟨fun q7 => ((q8).1 q7), fun q7 => ((q8).2 q7)⟩)⟩⟩))
theorem p_X11_more_5 {S : sm_C} {d : Nat} {Φ : sm_Z → Prop} {I : sm_I} {L : sm_L} {R : sm_R} {q : Nat} {x1 : Int32} {x2 : Int32} {x3 : Int32} {x4 : Int32} {s0 : Int32} (h : ((s0 = 0 → Φ (some (.int (-1 : Int32)), (xLay, I, L, (kP q R)))) ∧ (¬ s0 = 0 → (((if x4 < x3 then x4 else x3) < (-1440 : Int32) → Φ (some (.int (-1 : Int32)), (xLay, I, L, (kP q R)))) ∧ (¬ (if x4 < x3 then x4 else x3) < (-1440 : Int32) → (((if x3 < x4 then x4 else x3) ≤ (1440 : Int32) → (((I 37 1) < (6 : Int32) → sm_wp sm_P S d 294 0 [.ref 40, .int (I 37 1), .int x1, .int x2] [] (xLay, I, L, (kP q R)) (0, 0) (fun z => ∃ (I1 : sm_I) (L2 : sm_L), z = (none, (xLay, I1, L2, (kP q R))) ∧ sm_wp sm_P S d 286 0 [.ref 40, .int (I1 37 1), .int x3, .int x4] [] (xLay, I1, L2, (kP q R)) (0, 0) (fun z => ∃ (I4 : sm_I) (L5 : sm_L), z = (none, (xLay, I4, L5, (kP q R))) ∧ ∀ I7 : sm_I, I7 = (sm_up I4 37 1 ((I4 37 1) + (1 : Int32))) → sm_wp sm_P S d 86 0 [.ref 0] [] (xLay, I7, L5, (kP q R)) (0, 0) (fun z => ∃ (I8 : sm_I) (L9 : sm_L), z = (none, (xLay, I8, L9, (kP q R))) ∧ Φ (some (.int (I8 37 1)), (xLay, I8, L9, (kP q R))))))) ∧ (¬ (I 37 1) < (6 : Int32) → Φ (some (.int (-1 : Int32)), (xLay, I, L, (kP q R)))))) ∧ (¬ (if x3 < x4 then x4 else x3) ≤ (1440 : Int32) → Φ (some (.int (-1 : Int32)), (xLay, I, L, (kP q R)))))))))) : sm_wp sm_P S (d + 1) 69 5 [.ref 0, .int x1, .int x2, .int x3, .int x4] [.int s0] (xLay, I, L, (kP q R)) (0, 0) Φ := sm_wp_step (⟨fun q17 => ((h).1 q17), fun q17 => ⟨fun q16 => ((((h).2 q17)).1 q16), fun q16 => ⟨fun q15 => ⟨fun q14 => sm_cv0 (((((((((h).2 q17)).2 q16)).1 q15)).1 q14)) (fun I1 L2 q13 => sm_cv0 (q13) (fun I4 L5 q12 => sm_cv0 ((q12 _ rfl)) (fun I8 L9 q11 => q11))), fun q14 => ((((((((h).2 q17)).2 q16)).1 q15)).2 q14)⟩, fun q15 => ((((((h).2 q17)).2 q16)).2 q15)⟩⟩⟩)
theorem p_X11_fewer_0 {S : sm_C} {d : Nat} {Φ : sm_Z → Prop} {I : sm_I} {L : sm_L} {R : sm_R} {q : Nat} (h : ((0 < (I 37 1) → ∀ I1 : sm_I, I1 = (sm_up I 37 1 ((I 37 1) - (1 : Int32))) → sm_wp sm_P S d 86 0 [.ref 0] [] (xLay, I1, L, (kP q R)) (0, 0) (fun z => ∃ (I2 : sm_I) (L3 : sm_L), z = (none, (xLay, I2, L3, (kP q R))) ∧ Φ (some (.int (I2 37 1)), (xLay, I2, L3, (kP q R))))) ∧ (¬ 0 < (I 37 1) → Φ (some (.int (-1 : Int32)), (xLay, I, L, (kP q R)))))) : sm_wp sm_P S (d + 1) 43 0 [.ref 0] [] (xLay, I, L, (kP q R)) (0, 0) Φ := sm_wp_step (⟨fun q6 => sm_cv0 ((((h).1 q6) _ rfl)) (fun I2 L3 q5 => q5), fun q6 => ((h).2 q6)⟩)
theorem p_X11_stale_0 {S : sm_C} {d : Nat} {Φ : sm_Z → Prop} {I : sm_I} {L : sm_L} {R : sm_R} {q : Nat} (h : ∀ I1 : sm_I, I1 = (sm_up (sm_up I 0 12 (0 : Int32)) 0 13 (0 : Int32)) → ∀ I2 : sm_I, I2 = (sm_up (sm_up I1 98 8 (0 : Int32)) 103 5 (0 : Int32)) → Φ (none, (xLay, (sm_up I2 98 9 (0 : Int32)), L, (kP q R)))) : sm_wp sm_P S d 86 0 [.ref 0] [] (xLay, I, L, (kP q R)) (0, 0) Φ := sm_wp_step (⟨Or.inl rfl, ⟨Or.inl rfl, ⟨Or.inl rfl, ⟨Or.inl rfl, ⟨Or.inl rfl, ((h _ rfl) _ rfl)⟩⟩⟩⟩⟩)
theorem p_X11_isMinute_0 {S : sm_C} {d : Nat} {Φ : sm_Z → Prop} {I : sm_I} {L : sm_L} {R : sm_R} {q : Nat} {x0 : Int32} (h : ((x0 < 0 → Φ (some (.int (0 : Int32)), (xLay, I, L, (kP q R)))) ∧ (¬ x0 < 0 → (((1440 : Int32) < x0 → Φ (some (.int (0 : Int32)), (xLay, I, L, (kP q R)))) ∧ (¬ (1440 : Int32) < x0 → Φ (some (.int (1 : Int32)), (xLay, I, L, (kP q R)))))))) : sm_wp sm_P S d 58 0 [.int x0] [] (xLay, I, L, (kP q R)) (0, 0) Φ := sm_wp_step (⟨fun q2 => ⟨Or.inl rfl, ((h).1 q2)⟩, fun q2 => ⟨fun q1 => ⟨Or.inl rfl, ((((h).2 q2)).1 q1)⟩, fun q1 => ⟨Or.inr rfl, ((((h).2 q2)).2 q1)⟩⟩⟩)
theorem p40_X8_hasRow_0 {S : sm_C} {d : Nat} {Φ : sm_Z → Prop} {I : sm_I} {L : sm_L} {R : sm_R} {q : Nat} {x1 : Int32} (h : ((x1 < 0 → Φ (some (.int (0 : Int32)), (xLay, I, L, (kP q R)))) ∧ (¬ x1 < 0 → (((Int32.ofNat 6) ≤ x1 → Φ (some (.int (0 : Int32)), (xLay, I, L, (kP q R)))) ∧ (¬ (Int32.ofNat 6) ≤ x1 → Φ (some (.int (1 : Int32)), (xLay, I, L, (kP q R)))))))) : sm_wp sm_P S d 287 0 [.ref 40, .int x1] [] (xLay, I, L, (kP q R)) (0, 0) Φ := sm_wp_step (⟨fun q2 => ⟨Or.inl rfl, ((h).1 q2)⟩, fun q2 => ⟨fun q1 => ⟨Or.inl rfl, ((((h).2 q2)).1 q1)⟩, fun q1 => ⟨Or.inr rfl, ((((h).2 q2)).2 q1)⟩⟩⟩)
theorem p40_X8_put_0 {S : sm_C} {d : Nat} {Φ : sm_Z → Prop} {I : sm_I} {L : sm_L} {R : sm_R} {q : Nat} {x1 : Int32} {x2 : Int32} {x3 : Int32} (h : sm_wp sm_P S d 287 0 [.ref 40, .int x1] [] (xLay, I, L, (kP q R)) (0, 0) (fun z => ∃ (r3 : Int32) (I1 : sm_I) (L2 : sm_L), z = (some (.int r3), (xLay, I1, L2, (kP q R))) ∧ ((r3 = 0 → Φ (none, (xLay, I1, L2, (kP q R)))) ∧ (¬ r3 = 0 → (vp_in x1 6) ∧ ∀ I4 : sm_I, I4 = (sm_up I1 41 x1.toNatClampNeg x2) → (vp_in x1 6) ∧ ∀ I5 : sm_I, I5 = (sm_up I4 42 x1.toNatClampNeg x3) → Φ (none, (xLay, I5, L2, (kP q R))))))) : sm_wp sm_P S (d + 1) 294 0 [.ref 40, .int x1, .int x2, .int x3] [] (xLay, I, L, (kP q R)) (0, 0) Φ := sm_wp_step (sm_ci0 (h) (fun r3 I1 L2 q7 => ⟨fun q6 => ((q7).1 q6), fun q6 => ⟨(((q7).2 q6)).1, ⟨(((((q7).2 q6)).2 _ rfl)).1, ((((((q7).2 q6)).2 _ rfl)).2 _ rfl)⟩⟩⟩))
theorem p40_X8_bound_0 {S : sm_C} {d : Nat} {Φ : sm_Z → Prop} {I : sm_I} {L : sm_L} {R : sm_R} {q : Nat} {x1 : Int32} {x2 : Int32} {x3 : Int32} (h : sm_wp sm_P S d 287 0 [.ref 40, .int x1] [] (xLay, I, L, (kP q R)) (0, 0) (fun z => ∃ (r3 : Int32) (I1 : sm_I) (L2 : sm_L), z = (some (.int r3), (xLay, I1, L2, (kP q R))) ∧ ((r3 = 0 → Φ (none, (xLay, I1, L2, (kP q R)))) ∧ (¬ r3 = 0 → (vp_in x1 6) ∧ ∀ I4 : sm_I, I4 = (sm_up I1 43 x1.toNatClampNeg x2) → (vp_in x1 6) ∧ ∀ I5 : sm_I, I5 = (sm_up I4 44 x1.toNatClampNeg x3) → Φ (none, (xLay, I5, L2, (kP q R))))))) : sm_wp sm_P S (d + 1) 286 0 [.ref 40, .int x1, .int x2, .int x3] [] (xLay, I, L, (kP q R)) (0, 0) Φ := sm_wp_step (sm_ci0 (h) (fun r3 I1 L2 q7 => ⟨fun q6 => ((q7).1 q6), fun q6 => ⟨(((q7).2 q6)).1, ⟨(((((q7).2 q6)).2 _ rfl)).1, ((((((q7).2 q6)).2 _ rfl)).2 _ rfl)⟩⟩⟩))
theorem p_X4_clear_0 {S : sm_C} {d : Nat} {Φ : sm_Z → Prop} {I : sm_I} {L : sm_L} {R : sm_R} {q : Nat} (h : ∀ I1 : sm_I, I1 = (sm_up (sm_up I 37 0 (0 : Int32)) 37 1 (0 : Int32)) → sm_wp sm_P S d 306 0 [.ref 38, .int (-1 : Int32)] [] (xLay, I1, L, (kP q R)) (0, 0) (fun z => ∃ (I2 : sm_I) (L3 : sm_L), z = (none, (xLay, I2, L3, (kP q R))) ∧ sm_wp sm_P S d 306 0 [.ref 39, .int (-1 : Int32)] [] (xLay, I2, L3, (kP q R)) (0, 0) (fun z => ∃ (I5 : sm_I) (L6 : sm_L), z = (none, (xLay, I5, L6, (kP q R))) ∧ Φ (none, (xLay, I5, L6, (kP q R)))))) : sm_wp sm_P S (d + 1) 245 0 [.ref 37] [] (xLay, I, L, (kP q R)) (0, 0) Φ := sm_wp_step (sm_cv0 ((h _ rfl)) (fun I2 L3 q9 => sm_cv0 (q9) (fun I5 L6 q8 => q8)))
theorem p38_J7_fill_53178_0 {S : sm_C} {d : Nat} {Φ : sm_Z → Prop} {I : sm_I} {L : sm_L} {R : sm_R} {q : Nat} {x1 : Int32} (h : sm_wp sm_P S d 306 1 [.ref 38, .int x1, .int (0 : Int32), .int (Int32.ofNat 10)] [] (xLay, I, L, (kP q R)) (0, 0) Φ) : sm_wp sm_P S d 306 0 [.ref 38, .int x1] [] (xLay, I, L, (kP q R)) (0, 0) Φ := sm_wp_step (h)
theorem p38_J7_fill_53178_1 {S : sm_C} {d : Nat} {Φ : sm_Z → Prop} {I : sm_I} {L : sm_L} {R : sm_R} {q : Nat} {x1 : Int32} {x2 : Int32} {x3 : Int32} (h : ((x3 ≤ x2 → Φ (none, (xLay, I, L, (kP q R)))) ∧ (¬ x3 ≤ x2 → (vp_in x2 10) ∧ ∀ I1 : sm_I, I1 = (sm_up I 38 x2.toNatClampNeg x1) → sm_wp sm_P S d 306 1 [.ref 38, .int x1, .int (x2 + (1 : Int32)), .int x3] [] (xLay, I1, L, (kP q R)) (0, 0) Φ))) : sm_wp sm_P S d 306 1 [.ref 38, .int x1, .int x2, .int x3] [] (xLay, I, L, (kP q R)) (0, 0) Φ := sm_wp_step (⟨fun q2 => ((h).1 q2), fun q2 => ⟨(((h).2 q2)).1, ((((h).2 q2)).2 _ rfl)⟩⟩)
theorem p39_J7_fill_53178_0 {S : sm_C} {d : Nat} {Φ : sm_Z → Prop} {I : sm_I} {L : sm_L} {R : sm_R} {q : Nat} {x1 : Int32} (h : sm_wp sm_P S d 306 1 [.ref 39, .int x1, .int (0 : Int32), .int (Int32.ofNat 55)] [] (xLay, I, L, (kP q R)) (0, 0) Φ) : sm_wp sm_P S d 306 0 [.ref 39, .int x1] [] (xLay, I, L, (kP q R)) (0, 0) Φ := sm_wp_step (h)
theorem p39_J7_fill_53178_1 {S : sm_C} {d : Nat} {Φ : sm_Z → Prop} {I : sm_I} {L : sm_L} {R : sm_R} {q : Nat} {x1 : Int32} {x2 : Int32} {x3 : Int32} (h : ((x3 ≤ x2 → Φ (none, (xLay, I, L, (kP q R)))) ∧ (¬ x3 ≤ x2 → (vp_in x2 55) ∧ ∀ I1 : sm_I, I1 = (sm_up I 39 x2.toNatClampNeg x1) → sm_wp sm_P S d 306 1 [.ref 39, .int x1, .int (x2 + (1 : Int32)), .int x3] [] (xLay, I1, L, (kP q R)) (0, 0) Φ))) : sm_wp sm_P S d 306 1 [.ref 39, .int x1, .int x2, .int x3] [] (xLay, I, L, (kP q R)) (0, 0) Φ := sm_wp_step (⟨fun q2 => ((h).1 q2), fun q2 => ⟨(((h).2 q2)).1, ((((h).2 q2)).2 _ rfl)⟩⟩)
theorem p_X12_isTime_0 {S : sm_C} {d : Nat} {Φ : sm_Z → Prop} {I : sm_I} {L : sm_L} {R : sm_R} {x1 : Int32} (h : (vp_in (I 107 18) 2) ∧ ∀ n1 : Int32, n1 = ((I 122 (I 107 18).toNatClampNeg) - (1 : Int32)) → sm_wp sm_P S d 141 0 [.int x1, .int (0 : Int32), .int n1] [] (xLay, I, L, (kM R)) (0, 0) (fun z => ∃ (r4 : Int32) (I2 : sm_I) (L3 : sm_L), z = (some (.int r4), (xLay, I2, L3, (kM R))) ∧ (r4 = 0 ∨ r4 = 1) ∧ Φ (some (.int r4), (xLay, I2, L3, (kM R))))) : sm_wp sm_P S (d + 1) 150 0 [.ref 107, .int x1] [] (xLay, I, L, (kM R)) (0, 0) Φ := sm_wp_step (⟨(h).1, sm_ci0 (((h).2 _ rfl)) (fun r4 I2 L3 q5 => ⟨(q5).1, (q5).2⟩)⟩)
theorem p_X12_isMinute_0 {S : sm_C} {d : Nat} {Φ : sm_Z → Prop} {I : sm_I} {L : sm_L} {R : sm_R} {x1 : Int32} (h : sm_wp sm_P S d 141 0 [.int x1, .int (0 : Int32), .int (1440 : Int32)] [] (xLay, I, L, (kM R)) (0, 0) (fun z => ∃ (r3 : Int32) (I1 : sm_I) (L2 : sm_L), z = (some (.int r3), (xLay, I1, L2, (kM R))) ∧ (r3 = 0 ∨ r3 = 1) ∧ Φ (some (.int r3), (xLay, I1, L2, (kM R))))) : sm_wp sm_P S (d + 1) 147 0 [.ref 107, .int x1] [] (xLay, I, L, (kM R)) (0, 0) Φ := sm_wp_step (sm_ci0 (h) (fun r3 I1 L2 q4 => ⟨(q4).1, (q4).2⟩))
theorem p_X12_doubt_0 {S : sm_C} {d : Nat} {Φ : sm_Z → Prop} {I : sm_I} {L : sm_L} {R : sm_R} {x1 : Int32} {x2 : Int32} (h : sm_wp sm_P S d 149 0 [.ref 107, .int x1] [] (xLay, I, L, (kM R)) (0, 0) (fun z => ∃ (r3 : Int32) (I1 : sm_I) (L2 : sm_L), z = (some (.int r3), (xLay, I1, L2, (kM R))) ∧ ((r3 = 0 → Φ (some (.int (0 : Int32)), (xLay, I1, L2, (kM R)))) ∧ (¬ r3 = 0 → ∀ n4 : Int32, n4 = (((10 : Int32) * (I1 107 18)) + x1) → (vp_in n4 20) ∧ (((I1 126 n4.toNatClampNeg) = 0 → (vp_in x1 10) ∧ ∀ I5 : sm_I, I5 = (sm_up I1 137 x1.toNatClampNeg (vp_nar .boolean x2)) → ((x2 = 0 → sm_wp sm_P S d 110 0 [.ref 107] [] (xLay, I5, L2, (kM R)) (0, 0) (fun z => ∃ (I6 : sm_I) (L7 : sm_L), z = (none, (xLay, I6, L7, (kM R))) ∧ Φ (some (.int (1 : Int32)), (xLay, I6, L7, (kM R))))) ∧ (¬ x2 = 0 → (vp_in x1 60) ∧ ∀ I10 : sm_I, I10 = (sm_up I5 160 x1.toNatClampNeg (-1 : Int32)) → sm_wp sm_P S d 110 0 [.ref 107] [] (xLay, I10, L2, (kM R)) (0, 0) (fun z => ∃ (I11 : sm_I) (L12 : sm_L), z = (none, (xLay, I11, L12, (kM R))) ∧ Φ (some (.int (1 : Int32)), (xLay, I11, L12, (kM R))))))) ∧ (¬ (I1 126 n4.toNatClampNeg) = 0 → Φ (some (.int (0 : Int32)), (xLay, I1, L2, (kM R))))))))) : sm_wp sm_P S (d + 1) 120 0 [.ref 107, .int x1, .int x2] [] (xLay, I, L, (kM R)) (0, 0) Φ := sm_wp_step (sm_ci0 (h) (fun r3 I1 L2 q18 => ⟨fun q17 => ⟨Or.inl rfl, ((q18).1 q17)⟩, fun q17 => ⟨((((q18).2 q17) _ rfl)).1, ⟨fun q16 => ⟨(((((((q18).2 q17) _ rfl)).2).1 q16)).1, ⟨fun q15 => sm_cv0 (((((((((((q18).2 q17) _ rfl)).2).1 q16)).2 _ rfl)).1 q15)) (fun I6 L7 q9 => ⟨Or.inr rfl, q9⟩), fun q15 => ⟨(((((((((((q18).2 q17) _ rfl)).2).1 q16)).2 _ rfl)).2 q15)).1, sm_cv0 (((((((((((((q18).2 q17) _ rfl)).2).1 q16)).2 _ rfl)).2 q15)).2 _ rfl)) (fun I11 L12 q14 => ⟨Or.inr rfl, q14⟩)⟩⟩⟩, fun q16 => ⟨Or.inl rfl, ((((((q18).2 q17) _ rfl)).2).2 q16)⟩⟩⟩⟩))
theorem p_X12_set_0 {S : sm_C} {d : Nat} {Φ : sm_Z → Prop} {I : sm_I} {L : sm_L} {R : sm_R} {x1 : Int32} {x2 : Int32} (h : sm_wp sm_P S d 150 0 [.ref 107, .int x1] [] (xLay, I, L, (kM R)) (0, 0) (fun z => ∃ (r3 : Int32) (I1 : sm_I) (L2 : sm_L), z = (some (.int r3), (xLay, I1, L2, (kM R))) ∧ ((r3 = 0 → Φ (some (.int (0 : Int32)), (xLay, I1, L2, (kM R)))) ∧ (¬ r3 = 0 → ((x2 = (-1 : Int32) → (vp_in x1 10) ∧ ∀ I4 : sm_I, I4 = (sm_up I1 138 x1.toNatClampNeg x2) → Φ (some (.int (1 : Int32)), (xLay, I4, L2, (kM R)))) ∧ (¬ x2 = (-1 : Int32) → sm_wp sm_P S d 147 0 [.ref 107, .int x2] [] (xLay, I1, L2, (kM R)) (0, 0) (fun z => ∃ (r7 : Int32) (I5 : sm_I) (L6 : sm_L), z = (some (.int r7), (xLay, I5, L6, (kM R))) ∧ ((r7 = 0 → Φ (some (.int (0 : Int32)), (xLay, I5, L6, (kM R)))) ∧ (¬ r7 = 0 → (vp_in x1 10) ∧ ∀ I8 : sm_I, I8 = (sm_up I5 138 x1.toNatClampNeg x2) → Φ (some (.int (1 : Int32)), (xLay, I8, L6, (kM R)))))))))))) : sm_wp sm_P S (d + 1) 188 0 [.ref 107, .int x1, .int x2] [] (xLay, I, L, (kM R)) (0, 0) Φ := sm_wp_step (sm_ci0 (h) (fun r3 I1 L2 q13 => ⟨fun q12 => ⟨Or.inl rfl, ((q13).1 q12)⟩, fun q12 => ⟨fun q11 => ⟨(((((q13).2 q12)).1 q11)).1, ⟨Or.inr rfl, ((((((q13).2 q12)).1 q11)).2 _ rfl)⟩⟩, fun q11 => sm_ci0 (((((q13).2 q12)).2 q11)) (fun r7 I5 L6 q10 => ⟨fun q9 => ⟨Or.inl rfl, ((q10).1 q9)⟩, fun q9 => ⟨(((q10).2 q9)).1, ⟨Or.inr rfl, ((((q10).2 q9)).2 _ rfl)⟩⟩⟩)⟩⟩))
theorem p_X12_more_0 {S : sm_C} {d : Nat} {Φ : sm_Z → Prop} {I : sm_I} {L : sm_L} {R : sm_R} {x1 : Int32} {x2 : Int32} {x3 : Int32} {x4 : Int32} (h : (((I 107 54) = (6 : Int32) → Φ (some (.int (-1 : Int32)), (xLay, I, L, (kM R)))) ∧ (¬ (I 107 54) = (6 : Int32) → sm_wp sm_P S d 150 0 [.ref 107, .int x1] [] (xLay, I, L, (kM R)) (0, 0) (fun z => ∃ (r3 : Int32) (I1 : sm_I) (L2 : sm_L), z = (some (.int r3), (xLay, I1, L2, (kM R))) ∧ ((r3 = 0 → Φ (some (.int (-1 : Int32)), (xLay, I1, L2, (kM R)))) ∧ (¬ r3 = 0 → ((x2 = (-1 : Int32) → sm_wp sm_P S d 141 0 [.int x3, .int (-1440 : Int32), .int (1440 : Int32)] [] (xLay, I1, L2, (kM R)) (0, 0) (fun z => ∃ (r6 : Int32) (I4 : sm_I) (L5 : sm_L), z = (some (.int r6), (xLay, I4, L5, (kM R))) ∧ ((r6 = 0 → Φ (some (.int (-1 : Int32)), (xLay, I4, L5, (kM R)))) ∧ (¬ r6 = 0 → sm_wp sm_P S d 141 0 [.int x4, .int (-1440 : Int32), .int (1440 : Int32)] [] (xLay, I4, L5, (kM R)) (0, 0) (fun z => ∃ (r9 : Int32) (I7 : sm_I) (L8 : sm_L), z = (some (.int r9), (xLay, I7, L8, (kM R))) ∧ ((r9 = 0 → Φ (some (.int (-1 : Int32)), (xLay, I7, L8, (kM R)))) ∧ (¬ r9 = 0 → (vp_in (I7 107 54) 6) ∧ ∀ I10 : sm_I, I10 = (sm_up I7 144 (I7 107 54).toNatClampNeg x1) → (vp_in (I10 107 54) 6) ∧ ∀ I11 : sm_I, I11 = (sm_up I10 145 (I10 107 54).toNatClampNeg x2) → (vp_in (I11 107 54) 6) ∧ ∀ I12 : sm_I, I12 = (sm_up I11 146 (I11 107 54).toNatClampNeg x3) → (vp_in (I12 107 54) 6) ∧ ∀ I13 : sm_I, I13 = (sm_up I12 147 (I12 107 54).toNatClampNeg x4) → ∀ I14 : sm_I, I14 = (sm_up I13 107 54 ((I13 107 54) + (1 : Int32))) → sm_wp sm_P S d 110 0 [.ref 107] [] (xLay, I14, L8, (kM R)) (0, 0) (fun z => ∃ (I15 : sm_I) (L16 : sm_L), z = (none, (xLay, I15, L16, (kM R))) ∧ Φ (some (.int (I15 107 54)), (xLay, I15, L16, (kM R))))))))))) ∧ (¬ x2 = (-1 : Int32) → sm_wp sm_P S d 150 0 [.ref 107, .int x2] [] (xLay, I1, L2, (kM R)) (0, 0) (fun z => ∃ (r25 : Int32) (I23 : sm_I) (L24 : sm_L), z = (some (.int r25), (xLay, I23, L24, (kM R))) ∧ ((r25 = 0 → Φ (some (.int (-1 : Int32)), (xLay, I23, L24, (kM R)))) ∧ (¬ r25 = 0 → sm_wp sm_P S d 141 0 [.int x3, .int (-1440 : Int32), .int (1440 : Int32)] [] (xLay, I23, L24, (kM R)) (0, 0) (fun z => ∃ (r28 : Int32) (I26 : sm_I) (L27 : sm_L), z = (some (.int r28), (xLay, I26, L27, (kM R))) ∧ ((r28 = 0 → Φ (some (.int (-1 : Int32)), (xLay, I26, L27, (kM R)))) ∧ (¬ r28 = 0 → sm_wp sm_P S d 141 0 [.int x4, .int (-1440 : Int32), .int (1440 : Int32)] [] (xLay, I26, L27, (kM R)) (0, 0) (fun z => ∃ (r31 : Int32) (I29 : sm_I) (L30 : sm_L), z = (some (.int r31), (xLay, I29, L30, (kM R))) ∧ ((r31 = 0 → Φ (some (.int (-1 : Int32)), (xLay, I29, L30, (kM R)))) ∧ (¬ r31 = 0 → (vp_in (I29 107 54) 6) ∧ ∀ I32 : sm_I, I32 = (sm_up I29 144 (I29 107 54).toNatClampNeg x1) → (vp_in (I32 107 54) 6) ∧ ∀ I33 : sm_I, I33 = (sm_up I32 145 (I32 107 54).toNatClampNeg x2) → (vp_in (I33 107 54) 6) ∧ ∀ I34 : sm_I, I34 = (sm_up I33 146 (I33 107 54).toNatClampNeg x3) → (vp_in (I34 107 54) 6) ∧ ∀ I35 : sm_I, I35 = (sm_up I34 147 (I34 107 54).toNatClampNeg x4) → ∀ I36 : sm_I, I36 = (sm_up I35 107 54 ((I35 107 54) + (1 : Int32))) → sm_wp sm_P S d 110 0 [.ref 107] [] (xLay, I36, L30, (kM R)) (0, 0) (fun z => ∃ (I37 : sm_I) (L38 : sm_L), z = (none, (xLay, I37, L38, (kM R))) ∧ Φ (some (.int (I37 107 54)), (xLay, I37, L38, (kM R))))))))))))))))))))) : sm_wp sm_P S (d + 1) 163 0 [.ref 107, .int x1, .int x2, .int x3, .int x4] [] (xLay, I, L, (kM R)) (0, 0) Φ := sm_wp_step (⟨fun q50 => ((h).1 q50), fun q50 => sm_ci0 (((h).2 q50)) (fun r3 I1 L2 q49 => ⟨fun q48 => ((q49).1 q48), fun q48 => ⟨fun q47 => sm_ci0 (((((q49).2 q48)).1 q47)) (fun r6 I4 L5 q22 => ⟨fun q21 => ((q22).1 q21), fun q21 => sm_ci0 (((q22).2 q21)) (fun r9 I7 L8 q20 => ⟨fun q19 => ((q20).1 q19), fun q19 => ⟨(((q20).2 q19)).1, ⟨(((((q20).2 q19)).2 _ rfl)).1, ⟨(((((((q20).2 q19)).2 _ rfl)).2 _ rfl)).1, ⟨(((((((((q20).2 q19)).2 _ rfl)).2 _ rfl)).2 _ rfl)).1, sm_cv0 ((((((((((((q20).2 q19)).2 _ rfl)).2 _ rfl)).2 _ rfl)).2 _ rfl) _ rfl)) (fun I15 L16 q18 => q18)⟩⟩⟩⟩⟩)⟩), fun q47 => sm_ci0 (((((q49).2 q48)).2 q47)) (fun r25 I23 L24 q46 => ⟨fun q45 => ((q46).1 q45), fun q45 => sm_ci0 (((q46).2 q45)) (fun r28 I26 L27 q44 => ⟨fun q43 => ((q44).1 q43), fun q43 => sm_ci0 (((q44).2 q43)) (fun r31 I29 L30 q42 => ⟨fun q41 => ((q42).1 q41), fun q41 => ⟨(((q42).2 q41)).1, ⟨(((((q42).2 q41)).2 _ rfl)).1, ⟨(((((((q42).2 q41)).2 _ rfl)).2 _ rfl)).1, ⟨(((((((((q42).2 q41)).2 _ rfl)).2 _ rfl)).2 _ rfl)).1, sm_cv0 ((((((((((((q42).2 q41)).2 _ rfl)).2 _ rfl)).2 _ rfl)).2 _ rfl) _ rfl)) (fun I37 L38 q40 => q40)⟩⟩⟩⟩⟩)⟩)⟩)⟩⟩)⟩)
theorem p_X12_fewer_0 {S : sm_C} {d : Nat} {Φ : sm_Z → Prop} {I : sm_I} {L : sm_L} {R : sm_R} (h : (((I 107 54) = 0 → Φ (some (.int (-1 : Int32)), (xLay, I, L, (kM R)))) ∧ (¬ (I 107 54) = 0 → ∀ I1 : sm_I, I1 = (sm_up I 107 54 ((I 107 54) - (1 : Int32))) → sm_wp sm_P S d 110 0 [.ref 107] [] (xLay, I1, L, (kM R)) (0, 0) (fun z => ∃ (I2 : sm_I) (L3 : sm_L), z = (none, (xLay, I2, L3, (kM R))) ∧ Φ (some (.int (I2 107 54)), (xLay, I2, L3, (kM R))))))) : sm_wp sm_P S (d + 1) 125 0 [.ref 107] [] (xLay, I, L, (kM R)) (0, 0) Φ := sm_wp_step (⟨fun q6 => ((h).1 q6), fun q6 => sm_cv0 ((((h).2 q6) _ rfl)) (fun I2 L3 q5 => q5)⟩)
theorem p_X12_changes_0 {S : sm_C} {d : Nat} {Φ : sm_Z → Prop} {I : sm_I} {L : sm_L} {R : sm_R} (h : ∀ I1 : sm_I, I1 = (sm_up (sm_up I 107 70 (0 : Int32)) 107 79 (0 : Int32)) → Φ (none, (xLay, I1, L, (kM R)))) : sm_wp sm_P S d 110 0 [.ref 107] [] (xLay, I, L, (kM R)) (0, 0) Φ := sm_wp_step (⟨Or.inl rfl, ⟨Or.inl rfl, (h _ rfl)⟩⟩)
theorem p_X12_isSaying_0 {S : sm_C} {d : Nat} {Φ : sm_Z → Prop} {I : sm_I} {L : sm_L} {R : sm_R} {x1 : Int32} (h : (vp_in (I 107 18) 2) ∧ ∀ n1 : Int32, n1 = ((I 125 (I 107 18).toNatClampNeg) - (1 : Int32)) → sm_wp sm_P S d 141 0 [.int x1, .int (0 : Int32), .int n1] [] (xLay, I, L, (kM R)) (0, 0) (fun z => ∃ (r4 : Int32) (I2 : sm_I) (L3 : sm_L), z = (some (.int r4), (xLay, I2, L3, (kM R))) ∧ (r4 = 0 ∨ r4 = 1) ∧ Φ (some (.int r4), (xLay, I2, L3, (kM R))))) : sm_wp sm_P S (d + 1) 149 0 [.ref 107, .int x1] [] (xLay, I, L, (kM R)) (0, 0) Φ := sm_wp_step (⟨(h).1, sm_ci0 (((h).2 _ rfl)) (fun r4 I2 L3 q5 => ⟨(q5).1, (q5).2⟩)⟩)
theorem p_X12_in_0 {S : sm_C} {d : Nat} {Φ : sm_Z → Prop} {I : sm_I} {L : sm_L} {R : sm_R} {x0 : Int32} {x1 : Int32} {x2 : Int32} (h : ((x0 < x1 → Φ (some (.int (0 : Int32)), (xLay, I, L, (kM R)))) ∧ (¬ x0 < x1 → ((x2 < x0 → Φ (some (.int (0 : Int32)), (xLay, I, L, (kM R)))) ∧ (¬ x2 < x0 → Φ (some (.int (1 : Int32)), (xLay, I, L, (kM R)))))))) : sm_wp sm_P S d 141 0 [.int x0, .int x1, .int x2] [] (xLay, I, L, (kM R)) (0, 0) Φ := sm_wp_step (⟨fun q2 => ⟨Or.inl rfl, ((h).1 q2)⟩, fun q2 => ⟨fun q1 => ⟨Or.inl rfl, ((((h).2 q2)).1 q1)⟩, fun q1 => ⟨Or.inr rfl, ((((h).2 q2)).2 q1)⟩⟩⟩)
end
section
/-! the small methods, exact: counts, held.clear, stale, doubt, set, more, fewer (wip/pe/mkpyb.py) -/
section
variable {S : sm_C} {d : Nat} {Φ : sm_Z → Prop} {I : sm_I} {L : sm_L} {R : sm_R} {q : Nat}
theorem kP_r : ∀ t, t ∈ kPl → en_refs kl_tb t.1 t.2.1 = [t.2.2] := by decide +kernel
theorem kP_eq {w : sm_W} (hm : en_mem kl_tb klX w) (h : w.2.2.2 0 9 = some q) : kP q w.2.2.2 = w.2.2.2 := by
  funext x j
  unfold kP
  split
  · next t ht =>
    have mem := List.mem_of_find?_eq_some ht
    have pr := List.find?_some ht
    obtain ⟨p1, p2⟩ := Bool.and_eq_true_iff.mp pr
    have e1 : t.1 = x := Nat.eq_of_beq_eq_true p1
    have e2 : t.2.1 = j := Nat.eq_of_beq_eq_true p2
    obtain ⟨a, g1, g2⟩ := hm.2.2.1 t.1 t.2.1 (by rw [kP_r t mem]; exact List.cons_ne_nil _ _)
    rw [kP_r t mem] at g1
    rw [← e1, ← e2, g2, List.mem_singleton.mp g1]
  · cases e : (Nat.beq x 0 && Nat.beq j 9) with
    | false => rfl
    | true =>
      obtain ⟨p1, p2⟩ := Bool.and_eq_true_iff.mp e
      rw [Nat.eq_of_beq_eq_true p1, Nat.eq_of_beq_eq_true p2]
      exact h.symm
theorem kp_inT (hq : q = 12 ∨ q = 49) {x : Int32} (h0 : ¬ (0 ≤ x.toInt ∧ x.toInt < (I q 2).toInt) → Φ (some (.int 0), (xLay, I, L, kP q R))) (h1 : 0 ≤ x.toInt → x.toInt < (I q 2).toInt → Φ (some (.int 1), (xLay, I, L, kP q R))) : sm_wp sm_P S d 63 0 [.ref 0, .int x] [] (xLay, I, L, kP q R) (0, 0) Φ := by
  have g : (x < 0 → Φ (some (.int (0 : Int32)), (xLay, I, L, (kP q R)))) ∧ (¬ x < 0 → (((I q 2) ≤ x → Φ (some (.int (0 : Int32)), (xLay, I, L, (kP q R)))) ∧ (¬ (I q 2) ≤ x → Φ (some (.int (1 : Int32)), (xLay, I, L, (kP q R)))))) := by
    refine ⟨fun a => h0 (fun c => ?_), fun a => ⟨fun b => h0 (fun c => ?_), fun b => h1 ?_ ?_⟩⟩
    · have a := kl_lt.mp a
      rw [kl_0] at a; omega
    · have b := kl_le.mp b
      omega
    · have a := kl_nlt a
      rw [kl_0] at a; exact a
    · exact kl_nle b
  rcases hq with e | e
  · subst e; exact p12_X11_isTime_0 g
  · subst e; exact p49_X11_isTime_0 g
theorem kp_inS (hq : q = 12 ∨ q = 49) {x : Int32} (h0 : ¬ (0 ≤ x.toInt ∧ x.toInt < (I q 3).toInt) → Φ (some (.int 0), (xLay, I, L, kP q R))) (h1 : 0 ≤ x.toInt → x.toInt < (I q 3).toInt → Φ (some (.int 1), (xLay, I, L, kP q R))) : sm_wp sm_P S d 62 0 [.ref 0, .int x] [] (xLay, I, L, kP q R) (0, 0) Φ := by
  have g : (x < 0 → Φ (some (.int (0 : Int32)), (xLay, I, L, (kP q R)))) ∧ (¬ x < 0 → (((I q 3) ≤ x → Φ (some (.int (0 : Int32)), (xLay, I, L, (kP q R)))) ∧ (¬ (I q 3) ≤ x → Φ (some (.int (1 : Int32)), (xLay, I, L, (kP q R)))))) := by
    refine ⟨fun a => h0 (fun c => ?_), fun a => ⟨fun b => h0 (fun c => ?_), fun b => h1 ?_ ?_⟩⟩
    · have a := kl_lt.mp a
      rw [kl_0] at a; omega
    · have b := kl_le.mp b
      omega
    · have a := kl_nlt a
      rw [kl_0] at a; exact a
    · exact kl_nle b
  rcases hq with e | e
  · subst e; exact p12_X11_isSaying_0 g
  · subst e; exact p49_X11_isSaying_0 g
theorem kp_isMin {x : Int32} (h0 : ¬ (0 ≤ x.toInt ∧ x.toInt ≤ 1440) → Φ (some (.int 0), (xLay, I, L, kP q R))) (h1 : 0 ≤ x.toInt → x.toInt ≤ 1440 → Φ (some (.int 1), (xLay, I, L, kP q R))) : sm_wp sm_P S d 58 0 [.int x] [] (xLay, I, L, kP q R) (0, 0) Φ := by
  have c : (1440 : Int32).toInt = 1440 := by decide
  refine p_X11_isMinute_0 ⟨fun a => h0 (fun c => ?_), fun a => ⟨fun b => h0 (fun c => ?_), fun b => h1 ?_ ?_⟩⟩
  · have a := kl_lt.mp a
    rw [kl_0] at a; omega
  · have b := kl_lt.mp b
    omega
  · have a := kl_nlt a
    rw [kl_0] at a; exact a
  · have b := kl_nlt b
    omega
theorem kp_isSay (hq : q = 12 ∨ q = 49) {x : Int32} (h0 : ¬ (0 ≤ x.toInt ∧ x.toInt < (I q 3).toInt) → Φ (some (.int 0), (xLay, I, L, kP q R))) (h1 : 0 ≤ x.toInt → x.toInt < (I q 3).toInt → ((I q 6) >>> (x &&& 31)) &&& (1 : Int32) = 0 → Φ (some (.int 1), (xLay, I, L, kP q R))) (h2 : 0 ≤ x.toInt → x.toInt < (I q 3).toInt → ¬ ((I q 6) >>> (x &&& 31)) &&& (1 : Int32) = 0 → Φ (some (.int 0), (xLay, I, L, kP q R))) : sm_wp sm_P S (d + 1) 61 0 [.ref 0, .int x] [] (xLay, I, L, kP q R) (0, 0) Φ := by
  have g := kp_inS (S := S) (d := d) (L := L) (R := R) hq (x := x) (Φ := fun z => ∃ (r3 : Int32) (I1 : sm_I) (L2 : sm_L), z = (some (.int r3), (xLay, I1, L2, (kP q R))) ∧ ((r3 = 0 → Φ (some (.int (0 : Int32)), (xLay, I1, L2, (kP q R)))) ∧ (¬ r3 = 0 → (((((I1 q 6) >>> (x &&& 31)) &&& (1 : Int32)) = 0 → Φ (some (.int (1 : Int32)), (xLay, I1, L2, (kP q R)))) ∧ (¬ (((I1 q 6) >>> (x &&& 31)) &&& (1 : Int32)) = 0 → Φ (some (.int (0 : Int32)), (xLay, I1, L2, (kP q R)))))))) (fun c => ⟨_, I, L, rfl, fun _ => h0 c, fun n => absurd rfl n⟩) (fun a b => ⟨_, I, L, rfl, fun z => absurd z (by decide), fun _ => ⟨fun e => h1 a b e, fun e => h2 a b e⟩⟩)
  rcases hq with e | e
  · subst e; exact p12_X11_isSay_0 g
  · subst e; exact p49_X11_isSay_0 g
/-- what was gone through is of no use any more: the class, the reference -/
def stI (I : sm_I) : sm_I := sm_up (sm_up (sm_up (sm_up (sm_up I 0 12 0) 0 13 0) 98 8 0) 103 5 0) 98 9 0
def chI (I : sm_I) : sm_I := sm_up (sm_up I 107 70 0) 107 79 0
theorem stI_ne {p j : Nat} (h : ¬ ((p = 0 ∧ (j = 12 ∨ j = 13)) ∨ (p = 98 ∧ (j = 8 ∨ j = 9)) ∨ (p = 103 ∧ j = 5))) : stI I p j = I p j := by
  unfold stI
  rw [en_up_ne _ _ _ _ (by omega), en_up_ne _ _ _ _ (by omega), en_up_ne _ _ _ _ (by omega), en_up_ne _ _ _ _ (by omega), en_up_ne _ _ _ _ (by omega)]
theorem chI_ne {p j : Nat} (h : ¬ (p = 107 ∧ (j = 70 ∨ j = 79))) : chI I p j = I p j := by
  unfold chI
  rw [en_up_ne _ _ _ _ (by omega), en_up_ne _ _ _ _ (by omega)]
theorem kp_stale (h : Φ (none, (xLay, stI I, L, kP q R))) : sm_wp sm_P S d 86 0 [.ref 0] [] (xLay, I, L, kP q R) (0, 0) Φ := p_X11_stale_0 (fun I1 e1 I2 e2 => by
  subst e1
  subst e2
  exact h)
theorem yp_changes (h : Φ (none, (xLay, chI I, L, kM R))) : sm_wp sm_P S d 110 0 [.ref 107] [] (xLay, I, L, kM R) (0, 0) Φ := p_X12_changes_0 (fun I1 e1 => by
  subst e1
  exact h)
/-- doubt -/
def dbK (x y : Int32) (I : sm_I) : sm_I := if y = 0 then sm_up I 37 0 ((I 37 0) &&& (((1 : Int32) <<< (x &&& 31)) ^^^ (-1 : Int32))) else sm_up (sm_up I 37 0 ((I 37 0) ||| ((1 : Int32) <<< (x &&& 31)))) 39 x.toNatClampNeg (-1)
theorem kp_doubt (q2 : q = 12 ∨ q = 49) {x y : Int32} (hq : (I q 3).toInt ≤ 10) (h0 : ¬ (0 ≤ x.toInt ∧ x.toInt < (I q 3).toInt ∧ ((I q 6) >>> (x &&& 31)) &&& (1 : Int32) = 0) → Φ (some (.int 0), (xLay, I, L, kP q R))) (h1 : 0 ≤ x.toInt → x.toInt < (I q 3).toInt → ((I q 6) >>> (x &&& 31)) &&& (1 : Int32) = 0 → Φ (some (.int 1), (xLay, stI (dbK x y I), L, kP q R))) : sm_wp sm_P S (d + 2) 39 0 [.ref 0, .int x, .int y] [] (xLay, I, L, kP q R) (0, 0) Φ := by
  refine p_X11_doubt_0 (kp_isSay q2 (fun c => ⟨_, I, L, rfl, fun _ => h0 (fun k => c ⟨k.1, k.2.1⟩), fun n => absurd rfl n⟩) (fun a b e => ⟨_, I, L, rfl, fun z => absurd z (by decide), fun _ n4 e4 => ⟨fun y0 n5 e5 => kp_stale ⟨_, L, rfl, ?_⟩, fun y0 I10 e10 => ⟨kl_in a (by omega), fun I11 e11 => kp_stale ⟨_, L, rfl, ?_⟩⟩⟩⟩) (fun a b e => ⟨_, I, L, rfl, fun _ => h0 (fun k => e k.2.2), fun n => absurd rfl n⟩))
  · have h := h1 a b e
    unfold dbK at h
    rw [if_pos y0] at h
    rw [e5, e4]; exact h
  · have h := h1 a b e
    unfold dbK at h
    rw [if_neg y0] at h
    rw [e11, e10, e4]; exact h
/-- set -/
theorem kp_set (q2 : q = 12 ∨ q = 49) {x y : Int32} (hq : (I q 2).toInt ≤ 10) (h0 : ¬ ((0 ≤ x.toInt ∧ x.toInt < (I q 2).toInt) ∧ (y = -1 ∨ (0 ≤ y.toInt ∧ y.toInt ≤ 1440))) → Φ (some (.int 0), (xLay, I, L, kP q R))) (h1 : 0 ≤ x.toInt → x.toInt < (I q 2).toInt → (y = -1 ∨ (0 ≤ y.toInt ∧ y.toInt ≤ 1440)) → Φ (some (.int 1), (xLay, sm_up I 38 x.toNatClampNeg y, L, kP q R))) : sm_wp sm_P S (d + 1) 83 0 [.ref 0, .int x, .int y] [] (xLay, I, L, kP q R) (0, 0) Φ := by
  refine p_X11_set_0 (kp_inT q2 (fun c => ⟨_, I, L, rfl, fun _ => h0 (fun k => c k.1), fun n => absurd rfl n⟩) (fun a b => ⟨_, I, L, rfl, fun z => absurd z (by decide), fun _ => ⟨fun e => ⟨kl_in a (by omega), fun I4 e4 => ?_⟩, fun e => kp_isMin (fun c => ⟨_, I, L, rfl, fun _ => h0 (fun k => k.2.elim e c), fun n => absurd rfl n⟩) (fun a2 b2 => ⟨_, I, L, rfl, fun z => absurd z (by decide), fun _ => ⟨kl_in a (by omega), fun I8 e8 => ?_⟩⟩)⟩⟩))
  · rw [e4]; exact h1 a b (Or.inl e)
  · rw [e8]; exact h1 a b (Or.inr ⟨a2, b2⟩)
/-- more -/
def mrK (x y a b : Int32) (I : sm_I) : sm_I := sm_up (sm_up (sm_up (sm_up (sm_up I 41 (I 37 1).toNatClampNeg x) 42 (I 37 1).toNatClampNeg y) 43 (I 37 1).toNatClampNeg a) 44 (I 37 1).toNatClampNeg b) 37 1 (I 37 1 + 1)
def mrok (n m : Int) (x y a b : Int32) : Prop := ((0 ≤ x.toInt ∧ x.toInt < n) ∧ (y = -1 ∨ (0 ≤ y.toInt ∧ y.toInt < n))) ∧ ((-1440 ≤ a.toInt ∧ a.toInt ≤ 1440) ∧ (-1440 ≤ b.toInt ∧ b.toInt ≤ 1440)) ∧ m < 6
theorem kp_put40 {x u v : Int32} (h0 : 0 ≤ x.toInt) (h1 : x.toInt < 6) (h : Φ (none, (xLay, sm_up (sm_up I 41 x.toNatClampNeg u) 42 x.toNatClampNeg v, L, kP q R))) : sm_wp sm_P S (d + 1) 294 0 [.ref 40, .int x, .int u, .int v] [] (xLay, I, L, kP q R) (0, 0) Φ := by
  have c6 : (Int32.ofNat 6).toInt = 6 := by decide
  refine p40_X8_put_0 (p40_X8_hasRow_0 ⟨fun a => ?_, fun _ => ⟨fun b => ?_, fun _ => ⟨_, I, L, rfl, fun z => absurd z (by decide), fun _ => ⟨kl_in h0 h1, fun I4 e4 => ⟨kl_in h0 h1, fun I5 e5 => by rw [e5, e4]; exact h⟩⟩⟩⟩⟩)
  · have a := kl_lt.mp a
    rw [kl_0] at a; omega
  · have b := kl_le.mp b
    omega
theorem kp_bound40 {x u v : Int32} (h0 : 0 ≤ x.toInt) (h1 : x.toInt < 6) (h : Φ (none, (xLay, sm_up (sm_up I 43 x.toNatClampNeg u) 44 x.toNatClampNeg v, L, kP q R))) : sm_wp sm_P S (d + 1) 286 0 [.ref 40, .int x, .int u, .int v] [] (xLay, I, L, kP q R) (0, 0) Φ := by
  have c6 : (Int32.ofNat 6).toInt = 6 := by decide
  refine p40_X8_bound_0 (p40_X8_hasRow_0 ⟨fun a => ?_, fun _ => ⟨fun b => ?_, fun _ => ⟨_, I, L, rfl, fun z => absurd z (by decide), fun _ => ⟨kl_in h0 h1, fun I4 e4 => ⟨kl_in h0 h1, fun I5 e5 => by rw [e5, e4]; exact h⟩⟩⟩⟩⟩)
  · have a := kl_lt.mp a
    rw [kl_0] at a; omega
  · have b := kl_le.mp b
    omega
theorem kp_more (q2 : q = 12 ∨ q = 49) {x y a b : Int32} (hm : 0 ≤ (I 37 1).toInt) (h0 : ¬ mrok (I q 2).toInt (I 37 1).toInt x y a b → Φ (some (.int (-1)), (xLay, I, L, kP q R))) (h1 : mrok (I q 2).toInt (I 37 1).toInt x y a b → Φ (some (.int (I 37 1 + 1)), (xLay, stI (mrK x y a b I), L, kP q R))) : sm_wp sm_P S (d + 2) 69 0 [.ref 0, .int x, .int y, .int a, .int b] [] (xLay, I, L, kP q R) (0, 0) Φ := by
  have cm : (-1440 : Int32).toInt = -1440 := by decide
  have cp : (1440 : Int32).toInt = 1440 := by decide
  have c6 : (6 : Int32).toInt = 6 := by decide
  have no : ¬ ((0 ≤ x.toInt ∧ x.toInt < (I q 2).toInt) ∧ (y = -1 ∨ (0 ≤ y.toInt ∧ y.toInt < (I q 2).toInt))) → sm_wp sm_P S (d + 2) 69 5 [.ref 0, .int x, .int y, .int a, .int b] [.int (0 : Int32)] (xLay, I, L, (kP q R)) (0, 0) Φ := fun c => p_X11_more_5 ⟨fun _ => h0 (fun k => c k.1), fun n => absurd rfl n⟩
  have yes : (0 ≤ x.toInt ∧ x.toInt < (I q 2).toInt) ∧ (y = -1 ∨ (0 ≤ y.toInt ∧ y.toInt < (I q 2).toInt)) → sm_wp sm_P S (d + 2) 69 5 [.ref 0, .int x, .int y, .int a, .int b] [.int (1 : Int32)] (xLay, I, L, (kP q R)) (0, 0) Φ := fun c => by
    have mn : (if b < a then b else a).toInt = (if b.toInt < a.toInt then b.toInt else a.toInt) := by
      by_cases k : b < a
      · rw [if_pos k, if_pos (kl_lt.mp k)]
      · rw [if_neg k, if_neg (by have := kl_nlt k; omega)]
    have mx : (if a < b then b else a).toInt = (if a.toInt < b.toInt then b.toInt else a.toInt) := by
      by_cases k : a < b
      · rw [if_pos k, if_pos (kl_lt.mp k)]
      · rw [if_neg k, if_neg (by have := kl_nlt k; omega)]
    refine p_X11_more_5 ⟨fun z => absurd z (by decide), fun _ => ⟨fun k => h0 (fun o => ?_), fun k => ⟨fun k2 => ⟨fun k3 => ?_, fun k3 => h0 (fun o => ?_)⟩, fun k2 => h0 (fun o => ?_)⟩⟩⟩
    · have k := kl_lt.mp k
      rw [mn, cm] at k
      have := o.2.1
      split at k <;> omega
    · have k := kl_nlt k
      have k2 := kl_le.mp k2
      have k3 := kl_lt.mp k3
      rw [mn, cm] at k
      rw [mx, cp] at k2
      rw [c6] at k3
      have ok : mrok (I q 2).toInt (I 37 1).toInt x y a b := ⟨c, by split at k <;> split at k2 <;> omega, k3⟩
      refine kp_put40 hm k3 ⟨_, L, rfl, kp_bound40 ?_ ?_ ⟨_, L, rfl, fun I7 e7 => kp_stale ⟨_, L, rfl, ?_⟩⟩⟩
      · rw [en_up_ne _ _ _ _ (by omega), en_up_ne _ _ _ _ (by omega)]; exact hm
      · rw [en_up_ne _ _ _ _ (by omega), en_up_ne _ _ _ _ (by omega)]; exact k3
      · have h := h1 ok
        have e : I7 = mrK x y a b I := by
          rw [e7]
          unfold mrK
          rw [en_up_ne _ _ _ _ (by omega), en_up_ne _ _ _ _ (by omega), en_up_ne _ _ _ _ (by omega), en_up_ne _ _ _ _ (by omega), en_up_ne _ _ _ _ (by omega), en_up_ne _ _ _ _ (by omega)]
        rw [e]
        have e2 : stI (mrK x y a b I) 37 1 = I 37 1 + 1 := by
          rw [stI_ne (by omega)]
          exact en_up_eq _ _ _ _
        rw [e2]; exact h
    · have k3 := kl_nlt k3
      rw [c6] at k3
      have := o.2.2
      omega
    · have k2 := kl_nle k2
      rw [mx, cp] at k2
      have := o.2.1
      split at k2 <;> omega
  refine p_X11_more_0 (kp_inT q2 (fun c => ⟨_, I, L, rfl, fun _ => no (fun k => c k.1), fun n => absurd rfl n⟩) (fun a1 b1 => ⟨_, I, L, rfl, fun z => absurd z (by decide), fun _ => ⟨fun e => yes ⟨⟨a1, b1⟩, Or.inl e⟩, fun e => kp_inT q2 (fun c => ⟨_, I, L, rfl, fun _ => no (fun k => k.2.elim e c), fun n => absurd rfl n⟩) (fun a2 b2 => ⟨_, I, L, rfl, fun z => absurd z (by decide), fun _ => yes ⟨⟨a1, b1⟩, Or.inr ⟨a2, b2⟩⟩⟩)⟩⟩))
/-- fewer -/
theorem kp_fewer (h0 : (I 37 1).toInt ≤ 0 → Φ (some (.int (-1)), (xLay, I, L, kP q R))) (h1 : 0 < (I 37 1).toInt → Φ (some (.int (I 37 1 - 1)), (xLay, stI (sm_up I 37 1 (I 37 1 - 1)), L, kP q R))) : sm_wp sm_P S (d + 1) 43 0 [.ref 0] [] (xLay, I, L, kP q R) (0, 0) Φ := by
  refine p_X11_fewer_0 ⟨fun a I1 e1 => kp_stale ⟨_, L, rfl, ?_⟩, fun a => h0 ?_⟩
  · have a := kl_lt.mp a
    rw [kl_0] at a
    have h := h1 a
    rw [e1, stI_ne (by omega), en_up_eq]
    exact h
  · have a := kl_nlt a
    rw [kl_0] at a; exact a
theorem kp_f38a {I0 : sm_I} {x1 : Int32} (h : ∀ J : sm_I, (∀ j, j < 10 → J 38 j = x1) → (∀ a j, a ≠ 38 → J a j = I0 a j) → Φ (none, (xLay, J, L, kP q R))) : ∀ (m i : Nat) (I : sm_I) (x2 : Int32), x2.toInt = i → i + m = 10 → (∀ j, j < i → I 38 j = x1) → (∀ a j, a ≠ 38 → I a j = I0 a j) → sm_wp sm_P S d 306 1 [.ref 38, .int x1, .int x2, .int (Int32.ofNat 10)] [] (xLay, I, L, kP q R) (0, 0) Φ := by
  have cn : (Int32.ofNat 10).toInt = 10 := by decide
  intro m
  induction m with
  | zero =>
    intro i I x2 hx hm h1 h2
    refine p38_J7_fill_53178_1 ⟨fun _ => h I (fun j hj => h1 j (by omega)) h2, fun a => ?_⟩
    have := kl_nle a
    omega
  | succ m ih =>
    intro i I x2 hx hm h1 h2
    have nn := tk_nat hx
    have s := ml_in1 (x := x2) (by omega)
    refine p38_J7_fill_53178_1 ⟨fun a => ?_, fun _ => ⟨kl_in (by omega) (by omega), fun I1 e1 => ?_⟩⟩
    · have := kl_le.mp a
      omega
    · rw [nn] at e1
      refine ih (i + 1) I1 _ (by omega) (by omega) (fun j hj => ?_) (fun a j ha => ?_)
      · by_cases c : j = i
        · subst c; rw [e1, en_up_eq]
        · rw [e1, en_up_ne _ _ _ _ (by omega)]; exact h1 j (by omega)
      · rw [e1, en_up_ne _ _ _ _ (by omega)]; exact h2 a j ha
theorem kp_f38 {x1 : Int32} (h : ∀ J : sm_I, (∀ j, j < 10 → J 38 j = x1) → (∀ a j, a ≠ 38 → J a j = I a j) → Φ (none, (xLay, J, L, kP q R))) : sm_wp sm_P S d 306 0 [.ref 38, .int x1] [] (xLay, I, L, kP q R) (0, 0) Φ := p38_J7_fill_53178_0 (kp_f38a h 10 0 I 0 (by decide) (by decide) (fun j hj => absurd hj (Nat.not_lt_zero j)) (fun _ _ _ => rfl))
theorem kp_f39a {I0 : sm_I} {x1 : Int32} (h : ∀ J : sm_I, (∀ j, j < 55 → J 39 j = x1) → (∀ a j, a ≠ 39 → J a j = I0 a j) → Φ (none, (xLay, J, L, kP q R))) : ∀ (m i : Nat) (I : sm_I) (x2 : Int32), x2.toInt = i → i + m = 55 → (∀ j, j < i → I 39 j = x1) → (∀ a j, a ≠ 39 → I a j = I0 a j) → sm_wp sm_P S d 306 1 [.ref 39, .int x1, .int x2, .int (Int32.ofNat 55)] [] (xLay, I, L, kP q R) (0, 0) Φ := by
  have cn : (Int32.ofNat 55).toInt = 55 := by decide
  intro m
  induction m with
  | zero =>
    intro i I x2 hx hm h1 h2
    refine p39_J7_fill_53178_1 ⟨fun _ => h I (fun j hj => h1 j (by omega)) h2, fun a => ?_⟩
    have := kl_nle a
    omega
  | succ m ih =>
    intro i I x2 hx hm h1 h2
    have nn := tk_nat hx
    have s := ml_in1 (x := x2) (by omega)
    refine p39_J7_fill_53178_1 ⟨fun a => ?_, fun _ => ⟨kl_in (by omega) (by omega), fun I1 e1 => ?_⟩⟩
    · have := kl_le.mp a
      omega
    · rw [nn] at e1
      refine ih (i + 1) I1 _ (by omega) (by omega) (fun j hj => ?_) (fun a j ha => ?_)
      · by_cases c : j = i
        · subst c; rw [e1, en_up_eq]
        · rw [e1, en_up_ne _ _ _ _ (by omega)]; exact h1 j (by omega)
      · rw [e1, en_up_ne _ _ _ _ (by omega)]; exact h2 a j ha
theorem kp_f39 {x1 : Int32} (h : ∀ J : sm_I, (∀ j, j < 55 → J 39 j = x1) → (∀ a j, a ≠ 39 → J a j = I a j) → Φ (none, (xLay, J, L, kP q R))) : sm_wp sm_P S d 306 0 [.ref 39, .int x1] [] (xLay, I, L, kP q R) (0, 0) Φ := p39_J7_fill_53178_0 (kp_f39a h 55 0 I 0 (by decide) (by decide) (fun j hj => absurd hj (Nat.not_lt_zero j)) (fun _ _ _ => rfl))
/-- nothing is DOUBTED, SET, PICKED, MORE -/
def hcK (J : sm_I) : Prop := J 37 0 = 0 ∧ J 37 1 = 0 ∧ (∀ j, j < 10 → J 38 j = -1) ∧ ∀ j, j < 55 → J 39 j = -1
theorem kp_hclear (h : ∀ J : sm_I, hcK J → (∀ a j, a ≠ 37 → a ≠ 38 → a ≠ 39 → J a j = I a j) → Φ (none, (xLay, J, L, kP q R))) : sm_wp sm_P S (d + 1) 245 0 [.ref 37] [] (xLay, I, L, kP q R) (0, 0) Φ := by
  refine p_X4_clear_0 (fun I1 e1 => kp_f38 (fun J2 b2 o2 => ⟨J2, L, rfl, kp_f39 (fun J3 b3 o3 => ⟨J3, L, rfl, h J3 ⟨?_, ?_, fun j hj => ?_, b3⟩ (fun a j a1 a2 a3 => ?_)⟩)⟩))
  · rw [o3 _ _ (by decide), o2 _ _ (by decide), e1, en_up_ne _ _ _ _ (by omega), en_up_eq]
  · rw [o3 _ _ (by decide), o2 _ _ (by decide), e1, en_up_eq]
  · rw [o3 _ _ (by decide)]; exact b2 j hj
  · rw [o3 _ _ a3, o2 _ _ a2, e1, en_up_ne _ _ _ _ (by omega), en_up_ne _ _ _ _ (by omega)]
/-! the reference's -/
theorem yp_in {x a b : Int32} (h0 : ¬ (a.toInt ≤ x.toInt ∧ x.toInt ≤ b.toInt) → Φ (some (.int 0), (xLay, I, L, kM R))) (h1 : a.toInt ≤ x.toInt → x.toInt ≤ b.toInt → Φ (some (.int 1), (xLay, I, L, kM R))) : sm_wp sm_P S d 141 0 [.int x, .int a, .int b] [] (xLay, I, L, kM R) (0, 0) Φ := by
  refine p_X12_in_0 ⟨fun k => h0 (fun c => ?_), fun k => ⟨fun k2 => h0 (fun c => ?_), fun k2 => h1 (kl_nlt k) (kl_nlt k2)⟩⟩
  · have k := kl_lt.mp k
    omega
  · have k2 := kl_lt.mp k2
    omega
theorem yp_inT {x : Int32} {l : Nat} (hl : (I 107 18).toInt = l) (l1 : l ≤ 1) (hb : 0 ≤ (I 122 l).toInt ∧ (I 122 l).toInt ≤ 10) (h0 : ¬ (0 ≤ x.toInt ∧ x.toInt < (I 122 l).toInt) → Φ (some (.int 0), (xLay, I, L, kM R))) (h1 : 0 ≤ x.toInt → x.toInt < (I 122 l).toInt → Φ (some (.int 1), (xLay, I, L, kM R))) : sm_wp sm_P S (d + 1) 150 0 [.ref 107, .int x] [] (xLay, I, L, kM R) (0, 0) Φ := by
  have nl := tk_nat hl
  refine p_X12_isTime_0 ⟨kl_in (by omega) (by omega), fun n1 e1 => ?_⟩
  have s : n1.toInt = (I 122 l).toInt - 1 := by
    rw [e1, nl, Int32.toInt_sub, kl_1]; exact en_bmod (by omega) (by omega) (Or.inl rfl)
  refine yp_in (fun c => ⟨_, I, L, rfl, Or.inl rfl, h0 (fun k => c ?_)⟩) (fun a b => ⟨_, I, L, rfl, Or.inr rfl, h1 ?_ ?_⟩)
  · rw [kl_0]; omega
  · rw [kl_0] at a; exact a
  · omega
theorem yp_inS {x : Int32} {l : Nat} (hl : (I 107 18).toInt = l) (l1 : l ≤ 1) (hb : 0 ≤ (I 125 l).toInt ∧ (I 125 l).toInt ≤ 10) (h0 : ¬ (0 ≤ x.toInt ∧ x.toInt < (I 125 l).toInt) → Φ (some (.int 0), (xLay, I, L, kM R))) (h1 : 0 ≤ x.toInt → x.toInt < (I 125 l).toInt → Φ (some (.int 1), (xLay, I, L, kM R))) : sm_wp sm_P S (d + 1) 149 0 [.ref 107, .int x] [] (xLay, I, L, kM R) (0, 0) Φ := by
  have nl := tk_nat hl
  refine p_X12_isSaying_0 ⟨kl_in (by omega) (by omega), fun n1 e1 => ?_⟩
  have s : n1.toInt = (I 125 l).toInt - 1 := by
    rw [e1, nl, Int32.toInt_sub, kl_1]; exact en_bmod (by omega) (by omega) (Or.inl rfl)
  refine yp_in (fun c => ⟨_, I, L, rfl, Or.inl rfl, h0 (fun k => c ?_)⟩) (fun a b => ⟨_, I, L, rfl, Or.inr rfl, h1 ?_ ?_⟩)
  · rw [kl_0]; omega
  · rw [kl_0] at a; exact a
  · omega
theorem yp_isMin {x : Int32} (h0 : ¬ (0 ≤ x.toInt ∧ x.toInt ≤ 1440) → Φ (some (.int 0), (xLay, I, L, kM R))) (h1 : 0 ≤ x.toInt → x.toInt ≤ 1440 → Φ (some (.int 1), (xLay, I, L, kM R))) : sm_wp sm_P S (d + 1) 147 0 [.ref 107, .int x] [] (xLay, I, L, kM R) (0, 0) Φ := by
  have c : (1440 : Int32).toInt = 1440 := by decide
  refine p_X12_isMinute_0 (yp_in (fun k => ⟨_, I, L, rfl, Or.inl rfl, h0 (fun o => k ?_)⟩) (fun a b => ⟨_, I, L, rfl, Or.inr rfl, h1 ?_ ?_⟩))
  · rw [kl_0, c]; exact o
  · rw [kl_0] at a; exact a
  · rw [c] at b; exact b
def dbM (x y : Int32) (I : sm_I) : sm_I := if y = 0 then sm_up I 137 x.toNatClampNeg (vp_nar .boolean y) else sm_up (sm_up I 137 x.toNatClampNeg (vp_nar .boolean y)) 160 x.toNatClampNeg (-1)
theorem yp_doubt {x y : Int32} {l : Nat} (hl : (I 107 18).toInt = l) (l1 : l ≤ 1) (hb : 0 ≤ (I 125 l).toInt ∧ (I 125 l).toInt ≤ 10) (h0 : ¬ (0 ≤ x.toInt ∧ x.toInt < (I 125 l).toInt ∧ I 126 (10 * l + x.toNatClampNeg) = 0) → Φ (some (.int 0), (xLay, I, L, kM R))) (h1 : 0 ≤ x.toInt → x.toInt < (I 125 l).toInt → I 126 (10 * l + x.toNatClampNeg) = 0 → Φ (some (.int 1), (xLay, chI (dbM x y I), L, kM R))) : sm_wp sm_P S (d + 2) 120 0 [.ref 107, .int x, .int y] [] (xLay, I, L, kM R) (0, 0) Φ := by
  refine p_X12_doubt_0 (yp_inS hl l1 hb (fun c => ⟨_, I, L, rfl, fun _ => h0 (fun k => c ⟨k.1, k.2.1⟩), fun n => absurd rfl n⟩) (fun a b => ⟨_, I, L, rfl, fun z => absurd z (by decide), fun _ n4 e4 => ?_⟩))
  have nx := kl_nat a
  have q1 : ((10 : Int32) * (I 107 18)).toInt = 10 * (l : Int) := ml_mu (by decide) hl (by omega) (by omega)
  have q2 : n4.toInt = ((10 * l + x.toNatClampNeg : Nat) : Int) := by rw [e4, ml_ad q1 rfl (by omega) (by omega)]; omega
  have n4n := tk_nat q2
  refine ⟨kl_in (by omega) (by omega), fun e => ⟨kl_in a (by omega), fun I5 e5 => ⟨fun y0 => yp_changes ⟨_, L, rfl, ?_⟩, fun y0 => ⟨kl_in a (by omega), fun I10 e10 => yp_changes ⟨_, L, rfl, ?_⟩⟩⟩⟩, fun e => h0 (fun k => e ?_)⟩
  · rw [n4n] at e
    have h := h1 a b e
    unfold dbM at h
    rw [if_pos y0] at h
    rw [e5]; exact h
  · rw [n4n] at e
    have h := h1 a b e
    unfold dbM at h
    rw [if_neg y0] at h
    rw [e10, e5]; exact h
  · rw [n4n]; exact k.2.2
theorem yp_set {x y : Int32} {l : Nat} (hl : (I 107 18).toInt = l) (l1 : l ≤ 1) (hb : 0 ≤ (I 122 l).toInt ∧ (I 122 l).toInt ≤ 10) (h0 : ¬ ((0 ≤ x.toInt ∧ x.toInt < (I 122 l).toInt) ∧ (y = -1 ∨ (0 ≤ y.toInt ∧ y.toInt ≤ 1440))) → Φ (some (.int 0), (xLay, I, L, kM R))) (h1 : 0 ≤ x.toInt → x.toInt < (I 122 l).toInt → (y = -1 ∨ (0 ≤ y.toInt ∧ y.toInt ≤ 1440)) → Φ (some (.int 1), (xLay, sm_up I 138 x.toNatClampNeg y, L, kM R))) : sm_wp sm_P S (d + 2) 188 0 [.ref 107, .int x, .int y] [] (xLay, I, L, kM R) (0, 0) Φ := by
  refine p_X12_set_0 (yp_inT hl l1 hb (fun c => ⟨_, I, L, rfl, fun _ => h0 (fun k => c k.1), fun n => absurd rfl n⟩) (fun a b => ⟨_, I, L, rfl, fun z => absurd z (by decide), fun _ => ⟨fun e => ⟨kl_in a (by omega), fun I4 e4 => ?_⟩, fun e => yp_isMin (fun c => ⟨_, I, L, rfl, fun _ => h0 (fun k => k.2.elim e c), fun n => absurd rfl n⟩) (fun a2 b2 => ⟨_, I, L, rfl, fun z => absurd z (by decide), fun _ => ⟨kl_in a (by omega), fun I8 e8 => ?_⟩⟩)⟩⟩))
  · rw [e4]; exact h1 a b (Or.inl e)
  · rw [e8]; exact h1 a b (Or.inr ⟨a2, b2⟩)
def mrM (x y a b : Int32) (I : sm_I) : sm_I := sm_up (sm_up (sm_up (sm_up (sm_up I 144 (I 107 54).toNatClampNeg x) 145 (I 107 54).toNatClampNeg y) 146 (I 107 54).toNatClampNeg a) 147 (I 107 54).toNatClampNeg b) 107 54 (I 107 54 + 1)
theorem yp_more {x y a b : Int32} {l : Nat} (hl : (I 107 18).toInt = l) (l1 : l ≤ 1) (hb : 0 ≤ (I 122 l).toInt ∧ (I 122 l).toInt ≤ 10) (hm : 0 ≤ (I 107 54).toInt ∧ (I 107 54).toInt ≤ 6) (h0 : ¬ mrok (I 122 l).toInt (I 107 54).toInt x y a b → Φ (some (.int (-1)), (xLay, I, L, kM R))) (h1 : mrok (I 122 l).toInt (I 107 54).toInt x y a b → Φ (some (.int (I 107 54 + 1)), (xLay, chI (mrM x y a b I), L, kM R))) : sm_wp sm_P S (d + 2) 163 0 [.ref 107, .int x, .int y, .int a, .int b] [] (xLay, I, L, kM R) (0, 0) Φ := by
  have cm : (-1440 : Int32).toInt = -1440 := by decide
  have cp : (1440 : Int32).toInt = 1440 := by decide
  have c6 : (6 : Int32).toInt = 6 := by decide
  have fin : ∀ (k6 : ¬ (I 107 54) = (6 : Int32)) (cx : 0 ≤ x.toInt ∧ x.toInt < (I 122 l).toInt) (cy : y = -1 ∨ (0 ≤ y.toInt ∧ y.toInt < (I 122 l).toInt)), sm_wp sm_P S (d + 1) 141 0 [.int a, .int (-1440 : Int32), .int (1440 : Int32)] [] (xLay, I, L, (kM R)) (0, 0) (fun z => ∃ (r6 : Int32) (I4 : sm_I) (L5 : sm_L), z = (some (.int r6), (xLay, I4, L5, (kM R))) ∧ ((r6 = 0 → Φ (some (.int (-1 : Int32)), (xLay, I4, L5, (kM R)))) ∧ (¬ r6 = 0 → sm_wp sm_P S (d + 1) 141 0 [.int b, .int (-1440 : Int32), .int (1440 : Int32)] [] (xLay, I4, L5, (kM R)) (0, 0) (fun z => ∃ (r9 : Int32) (I7 : sm_I) (L8 : sm_L), z = (some (.int r9), (xLay, I7, L8, (kM R))) ∧ ((r9 = 0 → Φ (some (.int (-1 : Int32)), (xLay, I7, L8, (kM R)))) ∧ (¬ r9 = 0 → (vp_in (I7 107 54) 6) ∧ ∀ I10 : sm_I, I10 = (sm_up I7 144 (I7 107 54).toNatClampNeg x) → (vp_in (I10 107 54) 6) ∧ ∀ I11 : sm_I, I11 = (sm_up I10 145 (I10 107 54).toNatClampNeg y) → (vp_in (I11 107 54) 6) ∧ ∀ I12 : sm_I, I12 = (sm_up I11 146 (I11 107 54).toNatClampNeg a) → (vp_in (I12 107 54) 6) ∧ ∀ I13 : sm_I, I13 = (sm_up I12 147 (I12 107 54).toNatClampNeg b) → ∀ I14 : sm_I, I14 = (sm_up I13 107 54 ((I13 107 54) + (1 : Int32))) → sm_wp sm_P S (d + 1) 110 0 [.ref 107] [] (xLay, I14, L8, (kM R)) (0, 0) (fun z => ∃ (I15 : sm_I) (L16 : sm_L), z = (none, (xLay, I15, L16, (kM R))) ∧ Φ (some (.int (I15 107 54)), (xLay, I15, L16, (kM R)))))))))) := by
    intro k6 cx cy
    have n6 : (I 107 54).toInt < 6 := by
      have : (I 107 54).toInt ≠ 6 := fun e => k6 (en_ofI (by rw [e]; decide))
      omega
    refine yp_in (fun c => ⟨_, I, L, rfl, fun _ => h0 (fun k => c ?_), fun n => absurd rfl n⟩) (fun a1 a2 => ⟨_, I, L, rfl, fun z => absurd z (by decide), fun _ => yp_in (fun c => ⟨_, I, L, rfl, fun _ => h0 (fun k => c ?_), fun n => absurd rfl n⟩) (fun b1 b2 => ⟨_, I, L, rfl, fun z => absurd z (by decide), fun _ => ?_⟩)⟩)
    · rw [cm, cp]; exact k.2.1.1
    · rw [cm, cp]; exact k.2.1.2
    · rw [cm] at a1 b1
      rw [cp] at a2 b2
      refine ⟨kl_in hm.1 n6, fun I10 e10 => ?_⟩
      have g10 : I10 107 54 = I 107 54 := by rw [e10, en_up_ne _ _ _ _ (by omega)]
      rw [g10]
      refine ⟨kl_in hm.1 n6, fun I11 e11 => ?_⟩
      have g11 : I11 107 54 = I 107 54 := by rw [e11, en_up_ne _ _ _ _ (by omega), g10]
      rw [g11]
      refine ⟨kl_in hm.1 n6, fun I12 e12 => ?_⟩
      have g12 : I12 107 54 = I 107 54 := by rw [e12, en_up_ne _ _ _ _ (by omega), g11]
      rw [g12]
      refine ⟨kl_in hm.1 n6, fun I13 e13 => fun I14 e14 => ?_⟩
      have g13 : I13 107 54 = I 107 54 := by rw [e13, en_up_ne _ _ _ _ (by omega), g12]
      have e : I14 = mrM x y a b I := by rw [e14, g13, e13, e12, e11, e10]; rfl
      refine yp_changes ⟨_, L, rfl, ?_⟩
      have e2 : chI (mrM x y a b I) 107 54 = I 107 54 + 1 := by
        rw [chI_ne (by omega)]
        exact en_up_eq _ _ _ _
      rw [e, e2]
      exact h1 ⟨⟨cx, cy⟩, ⟨⟨a1, a2⟩, ⟨b1, b2⟩⟩, n6⟩
  refine p_X12_more_0 ⟨fun k6 => h0 (fun k => ?_), fun k6 => yp_inT hl l1 hb (fun c => ⟨_, I, L, rfl, fun _ => h0 (fun k => c k.1.1), fun n => absurd rfl n⟩) (fun a1 b1 => ⟨_, I, L, rfl, fun z => absurd z (by decide), fun _ => ⟨fun e => fin k6 ⟨a1, b1⟩ (Or.inl e), fun e => yp_inT hl l1 hb (fun c => ⟨_, I, L, rfl, fun _ => h0 (fun k => k.1.2.elim e c), fun n => absurd rfl n⟩) (fun a2 b2 => ⟨_, I, L, rfl, fun z => absurd z (by decide), fun _ => fin k6 ⟨a1, b1⟩ (Or.inr ⟨a2, b2⟩)⟩)⟩⟩)⟩
  have := k.2.2
  rw [k6, c6] at this
  omega
theorem yp_fewer (hm : 0 ≤ (I 107 54).toInt) (h0 : (I 107 54).toInt = 0 → Φ (some (.int (-1)), (xLay, I, L, kM R))) (h1 : 0 < (I 107 54).toInt → Φ (some (.int (I 107 54 - 1)), (xLay, chI (sm_up I 107 54 (I 107 54 - 1)), L, kM R))) : sm_wp sm_P S (d + 1) 125 0 [.ref 107] [] (xLay, I, L, kM R) (0, 0) Φ := by
  refine p_X12_fewer_0 ⟨fun k => h0 (by rw [k]; decide), fun k I1 e1 => yp_changes ⟨_, L, rfl, ?_⟩⟩
  have k : 0 < (I 107 54).toInt := by
    have : (I 107 54).toInt ≠ 0 := fun e => k (en_ofI (by rw [e]; decide))
    omega
  have h := h1 k
  rw [e1, chI_ne (by omega), en_up_eq]
  exact h
end
end
section
/-! the class's findWalks with into = 12, exact (wip/pe/mkwk.py) -/
section
variable {S : sm_C} {d : Nat} {Φ : sm_Z → Prop} {I : sm_I} {L : sm_L} {R : sm_R}
def w12ok (I : sm_I) : Prop := ∀ i, i < 36 → I 13 i = -2 ∨ 0 ≤ (I 13 i).toInt
theorem w12_wb {x y : Int32} {a b : Nat} (hx : x.toInt = a) (hy : y.toInt = b) (ha : a < 6) (hb : b < 6) (h : Φ (some (.int (I 13 (6 * a + b))), (xLay, I, L, kQ12 R))) : sm_wp sm_P S d 27 0 [.ref 12, .int x, .int y] [] (xLay, I, L, kQ12 R) (0, 0) Φ := by
  have c6 : (6 : Int32).toInt = 6 := by decide
  have q1 : (x * (6 : Int32)).toInt = (a : Int) * 6 := ml_mu hx c6 (by omega) (by omega)
  have q2 : ((x * (6 : Int32)) + y).toInt = ((6 * a + b : Nat) : Int) := (ml_ad q1 hy (by omega) (by omega)).trans (by omega)
  refine s12_X10_walkBetween_0 ⟨fun k => ?_, fun _ => ⟨fun k => ?_, fun _ => ⟨fun k => ?_, fun _ => ⟨fun _ => ⟨kl_in (by omega) (by omega), ?_⟩, fun k => ?_⟩⟩⟩⟩
  · have k := kl_lt.mp k
    rw [kl_0] at k; omega
  · have k := kl_le.mp k
    omega
  · have k := kl_lt.mp k
    rw [kl_0] at k; omega
  · rw [tk_nat q2]; exact h
  · have k := kl_nlt k
    omega
/-- a way that is no better changes nothing; a better one is laid both ways -/
theorem w12_ap {x y v : Int32} {a b : Nat} (hx : x.toInt = a) (hy : y.toInt = b) (ha : a < 6) (hb : b < 6) (h0 : ¬ (I 13 (6 * a + b)).toInt < 0 → (I 13 (6 * a + b)).toInt ≤ v.toInt → Φ (none, (xLay, I, L, kQ12 R))) (h1 : (I 13 (6 * a + b)).toInt < 0 ∨ v.toInt < (I 13 (6 * a + b)).toInt → Φ (none, (xLay, sm_up (sm_up I 13 (6 * a + b) v) 13 (6 * b + a) v, L, kQ12 R))) : sm_wp sm_P S d 13 0 [.ref 12, .int x, .int y, .int v] [] (xLay, I, L, kQ12 R) (0, 0) Φ := by
  have c6 : (6 : Int32).toInt = 6 := by decide
  have q1 : (x * (6 : Int32)).toInt = (a : Int) * 6 := ml_mu hx c6 (by omega) (by omega)
  have q2 : ((x * (6 : Int32)) + y).toInt = ((6 * a + b : Nat) : Int) := (ml_ad q1 hy (by omega) (by omega)).trans (by omega)
  have q3 : (y * (6 : Int32)).toInt = (b : Int) * 6 := ml_mu hy c6 (by omega) (by omega)
  have q4 : ((y * (6 : Int32)) + x).toInt = ((6 * b + a : Nat) : Int) := (ml_ad q3 hx (by omega) (by omega)).trans (by omega)
  have m2 := tk_nat q2
  have m4 := tk_nat q4
  refine s12_X10_addPath_0 ⟨fun k => ?_, fun _ => ⟨fun k => ?_, fun _ => ⟨fun k => ?_, fun _ => ⟨fun _ => ⟨kl_in (by omega) (by omega), fun n1 e1 => ?_⟩, fun k => ?_⟩⟩⟩⟩
  · have k := kl_lt.mp k
    rw [kl_0] at k; omega
  · have k := kl_le.mp k
    omega
  · have k := kl_lt.mp k
    rw [kl_0] at k; omega
  · rw [m2] at e1
    rw [m2, m4]
    refine ⟨fun k => ⟨kl_in (by omega) (by omega), fun I2 e2 => ⟨kl_in (by omega) (by omega), fun I3 e3 => ?_⟩⟩, fun k => ⟨fun k2 => ?_, fun k2 => ⟨kl_in (by omega) (by omega), fun I2 e2 => ⟨kl_in (by omega) (by omega), fun I3 e3 => ?_⟩⟩⟩⟩
    · have k := kl_lt.mp k
      rw [kl_0, e1] at k
      rw [e3, e2]; exact h1 (Or.inl k)
    · have k := kl_nlt k
      have k2 := kl_le.mp k2
      rw [kl_0, e1] at k
      rw [e1] at k2
      exact h0 (by omega) k2
    · have k2 := kl_nle k2
      rw [e1] at k2
      rw [e3, e2]; exact h1 (Or.inr k2)
  · have k := kl_nlt k
    omega
def w12st (p k a b : Nat) (T : Nat → Int) (I0 I : sm_I) : Prop := w12ok I ∧ (∀ u v, u < 6 → v < 6 → v < u → ((u < p ∧ (u < a ∨ (u = a ∧ v < b))) → nv (I 13 (6 * u + v)) = Fn k T (6 * u + v) ∧ nv (I 13 (6 * v + u)) = Fn k T (6 * v + u)) ∧ (¬ (u < p ∧ (u < a ∨ (u = a ∧ v < b))) → nv (I 13 (6 * u + v)) = T (6 * u + v) ∧ nv (I 13 (6 * v + u)) = T (6 * v + u))) ∧ (∀ u, u < 6 → nv (I 13 (7 * u)) = T (7 * u)) ∧ ∀ c j, c ≠ 13 → I c j = I0 c j
theorem w12st_at {p k a b : Nat} {T : Nat → Int} {I0 I : sm_I} (hT : WB 100000 T) (hk : k < 6) (h : w12st p k a b T I0 I) : (∀ u, u < 6 → nv (I 13 (6 * u + k)) = T (6 * u + k)) ∧ ∀ v, v < 6 → nv (I 13 (6 * k + v)) = T (6 * k + v) := by
  obtain ⟨-, h2, h3, -⟩ := h
  have both : ∀ u v, u < 6 → v < 6 → (u = k ∨ v = k) → nv (I 13 (6 * u + v)) = T (6 * u + v) := fun u v hu hv c => by
    have fx : Fn k T (6 * u + v) = T (6 * u + v) := by
      rcases c with c | c
      · rw [c]; exact Fn_col hk hv hT
      · rw [c]; exact Fn_row hk hT
    rcases Nat.lt_trichotomy u v with l | l | l
    · obtain ⟨g1, g2⟩ := h2 v u hv hu l
      by_cases q : v < p ∧ (v < a ∨ (v = a ∧ u < b))
      · rw [(g1 q).2, fx]
      · exact (g2 q).2
    · subst l
      have := h3 u hu
      rw [show 6 * u + u = 7 * u by omega]; exact this
    · obtain ⟨g1, g2⟩ := h2 u v hu hv l
      by_cases q : u < p ∧ (u < a ∨ (u = a ∧ v < b))
      · rw [(g1 q).1, fx]
      · exact (g2 q).1
  exact ⟨fun u hu => both u k hu hk (Or.inr rfl), fun v hv => both k v hk hv (Or.inl rfl)⟩
theorem w12_5 {I0 : sm_I} {T : Nat → Int} {p k a : Nat} (hp : p ≤ 6) (hk : k < 6) (ha : a < p) (hT : WB 100000 T) (hS : WS p T) (h : ∀ (J : sm_I) (x1 x2 : Int32), x1.toInt = k → x2.toInt = a → w12st p k (a + 1) 0 T I0 J → sm_wp sm_P S (d + 1) 18 3 [.ref 12, .int x1, .int (x2 + (1 : Int32))] [] (xLay, J, L, (kQ12 R)) (0, 0) Φ) : ∀ (m b : Nat) (I : sm_I) (x1 x2 x3 : Int32), x1.toInt = k → x2.toInt = a → x3.toInt = b → b + m = a → w12st p k a b T I0 I → sm_wp sm_P S (d + 1) 18 5 [.ref 12, .int x1, .int x2, .int x3] [] (xLay, I, L, (kQ12 R)) (0, 0) Φ := by
  intro m
  induction m with
  | zero =>
    intro b I x1 x2 x3 h1 h2 h3 hm hI
    have e : b = a := by omega
    subst e
    refine s12_X10_findWalks_5 ⟨fun _ => h I x1 x2 h1 h2 ⟨hI.1, fun u v hu hv l => ?_, hI.2.2⟩, fun q => ?_⟩
    · obtain ⟨g1, g2⟩ := hI.2.1 u v hu hv l
      exact ⟨fun q => g1 (by omega), fun q => g2 (by omega)⟩
    · have q := kl_nle q
      omega
  | succ m ih =>
    intro b I x1 x2 x3 h1 h2 h3 hm hI
    have s3 := ml_in1 (x := x3) (by omega)
    obtain ⟨r1, r2⟩ := w12st_at hT hk hI
    have t1 := r1 a (by omega)
    have t2 := r2 b (by omega)
    have ab := hI.2.1 a b (by omega) (by omega) (by omega)
    have t3 := (ab.2 (by omega)).1
    have t4 := (ab.2 (by omega)).2
    have e1 : (6 * a + b) / 6 = a := by omega
    have e2 : (6 * a + b) % 6 = b := by omega
    have symF := (WS_Fn hk hT hS).1 a b (by omega) (by omega)
    have symT := hS.1 a b (by omega) (by omega)
    have B1 := hT.1 (6 * a + k) (by omega)
    have B2 := hT.1 (6 * k + b) (by omega)
    have B3 := hT.1 (6 * a + b) (by omega)
    have ok1 := hI.1 (6 * a + k) (by omega)
    have ok2 := hI.1 (6 * k + b) (by omega)
    have ok3 := hI.1 (6 * a + b) (by omega)
    have same : Fn k T (6 * a + b) = T (6 * a + b) → sm_wp sm_P S (d + 1) 18 5 [.ref 12, .int x1, .int x2, .int (x3 + (1 : Int32))] [] (xLay, I, L, (kQ12 R)) (0, 0) Φ := fun e => ih (b + 1) I x1 x2 _ h1 h2 (by omega) (by omega) ⟨hI.1, fun u v hu hv l => by
      obtain ⟨g1, g2⟩ := hI.2.1 u v hu hv l
      refine ⟨fun q => ?_, fun q => g2 (by omega)⟩
      by_cases c : u = a ∧ v = b
      · obtain ⟨c1, c2⟩ := c
        subst c1; subst c2
        exact ⟨by rw [t3, e], by rw [t4, ← symF, e, symT]⟩
      · exact g1 (by omega), hI.2.2⟩
    refine s12_X10_findWalks_5 ⟨fun q => ?_, fun _ => w12_wb h2 h1 (by omega) (by omega) ⟨_, I, L, rfl, w12_wb h1 h3 (by omega) (by omega) ⟨_, I, L, rfl, fun c => ?_, fun c => ⟨fun c2 => ?_, fun c2 => ?_⟩⟩⟩⟩
    · have q := kl_le.mp q
      omega
    · have c := kl_lt.mp c
      rw [kl_0] at c
      unfold nv at t1
      rw [if_pos c] at t1
      refine same ?_
      unfold Fn
      rw [e1, e2, if_pos (by omega)]
    · have c := kl_nlt c
      have c2 := kl_lt.mp c2
      rw [kl_0] at c c2
      unfold nv at t1 t2
      rw [if_neg (by omega)] at t1
      rw [if_pos c2] at t2
      refine same ?_
      unfold Fn
      rw [e1, e2, if_neg (by omega), if_pos (by omega)]
    · have c := kl_nlt c
      have c2 := kl_nlt c2
      rw [kl_0] at c c2
      unfold nv at t1 t2
      rw [if_neg (by omega)] at t1 t2
      have sum : (I 13 (6 * a + k) + I 13 (6 * k + b)).toInt = T (6 * a + k) + T (6 * k + b) := ml_ad t1 t2 (by omega) (by omega)
      refine w12_ap h2 h3 (by omega) (by omega) (fun c3 c4 => ⟨I, L, rfl, same ?_⟩) (fun c3 => ⟨_, L, rfl, ?_⟩)
      · unfold nv at t3
        rw [if_neg c3] at t3
        rw [sum, t3] at c4
        unfold Fn
        rw [e1, e2, if_neg (by omega), if_neg (by omega), if_neg (by omega), if_neg (by omega)]
      · have Fv : Fn k T (6 * a + b) = T (6 * a + k) + T (6 * k + b) := by
          unfold Fn
          rw [e1, e2, if_neg (by omega), if_neg (by omega)]
          unfold nv at t3
          rcases c3 with c3 | c3
          · rw [if_pos c3] at t3
            rw [if_pos (by omega)]
          · by_cases c5 : (I 13 (6 * a + b)).toInt < 0
            · rw [if_pos c5] at t3
              rw [if_pos (by omega)]
            · rw [if_neg c5] at t3
              rw [sum, t3] at c3
              rw [if_neg (by omega), if_pos c3]
        have nvs : nv (I 13 (6 * a + k) + I 13 (6 * k + b)) = Fn k T (6 * a + b) := by
          unfold nv
          rw [sum, if_neg (by omega), Fv]
        refine ih (b + 1) _ x1 x2 _ h1 h2 (by omega) (by omega) ⟨fun i hi => ?_, fun u v hu hv l => ?_, fun u hu => ?_, fun c j hc => ?_⟩
        · by_cases g1 : i = 6 * b + a
          · rw [g1, en_up_eq]; exact Or.inr (by rw [sum]; omega)
          · rw [en_up_ne _ _ _ _ (by omega)]
            by_cases g2 : i = 6 * a + b
            · rw [g2, en_up_eq]; exact Or.inr (by rw [sum]; omega)
            · rw [en_up_ne _ _ _ _ (by omega)]; exact hI.1 i hi
        · obtain ⟨g1, g2⟩ := hI.2.1 u v hu hv l
          by_cases c : u = a ∧ v = b
          · obtain ⟨c1, c2⟩ := c
            subst c1; subst c2
            refine ⟨fun _ => ⟨?_, ?_⟩, fun q => absurd (by omega) q⟩
            · rw [en_up_ne _ _ _ _ (by omega), en_up_eq]; exact nvs
            · rw [en_up_eq, ← symF]; exact nvs
          · rw [en_up_ne _ _ _ _ (by omega), en_up_ne _ _ _ _ (by omega), en_up_ne _ _ _ _ (by omega), en_up_ne _ _ _ _ (by omega)]
            exact ⟨fun q => g1 (by omega), fun q => g2 (by omega)⟩
        · rw [en_up_ne _ _ _ _ (by omega), en_up_ne _ _ _ _ (by omega)]; exact hI.2.2.1 u hu
        · rw [en_up_ne _ _ _ _ (by omega), en_up_ne _ _ _ _ (by omega)]; exact hI.2.2.2 c j hc
theorem w12_3 {I0 : sm_I} {T : Nat → Int} {p k : Nat} (hp : p ≤ 6) (h1p : (I0 12 1).toInt = p) (hk : k < 6) (hT : WB 100000 T) (hS : WS p T) (h : ∀ (J : sm_I) (x1 : Int32), x1.toInt = k → w12ok J → (∀ i, i < 36 → nv (J 13 i) = Fn k T i) → (∀ c j, c ≠ 13 → J c j = I0 c j) → sm_wp sm_P S (d + 1) 18 1 [.ref 12, .int (x1 + (1 : Int32))] [] (xLay, J, L, (kQ12 R)) (0, 0) Φ) : ∀ (m a : Nat) (I : sm_I) (x1 x2 : Int32), x1.toInt = k → x2.toInt = a → a + m = p → w12st p k a 0 T I0 I → sm_wp sm_P S (d + 1) 18 3 [.ref 12, .int x1, .int x2] [] (xLay, I, L, (kQ12 R)) (0, 0) Φ := by
  intro m
  induction m with
  | zero =>
    intro a I x1 x2 h1 h2 hm hI
    have e : a = p := by omega
    subst e
    have e1 : I 12 1 = I0 12 1 := hI.2.2.2 12 1 (by decide)
    refine s12_X10_findWalks_3 ⟨fun _ => h I x1 h1 hI.1 (fun i hi => ?_) hI.2.2.2, fun q => ?_⟩
    · obtain ⟨u, v, hu, hv, e⟩ : ∃ u v, u < 6 ∧ v < 6 ∧ i = 6 * u + v := ⟨i / 6, i % 6, by omega, by omega, by omega⟩
      subst e
      have F := WS_Fn hk hT hS
      have W2 := WB_Fn hk hT (by decide)
      rcases Nat.lt_trichotomy u v with l | l | l
      · obtain ⟨g1, g2⟩ := hI.2.1 v u hv hu l
        by_cases q : v < a
        · exact (g1 ⟨q, Or.inl q⟩).2
        · rw [(g2 (by omega)).2, hS.1 u v hu hv, hS.2 v u hv hu (by omega) (by omega), F.1 u v hu hv, F.2 v u hv hu (by omega) (by omega)]
      · subst l
        rw [show 6 * u + u = 7 * u by omega, hI.2.2.1 u hu, hT.2 u hu, W2.2 u hu]
      · obtain ⟨g1, g2⟩ := hI.2.1 u v hu hv l
        by_cases q : u < a
        · exact (g1 ⟨q, Or.inl q⟩).1
        · rw [(g2 (by omega)).1, hS.2 u v hu hv (by omega) (by omega), F.2 u v hu hv (by omega) (by omega)]
    · have q := kl_nle q
      rw [e1] at q
      omega
  | succ m ih =>
    intro a I x1 x2 h1 h2 hm hI
    have e1 : I 12 1 = I0 12 1 := hI.2.2.2 12 1 (by decide)
    refine s12_X10_findWalks_3 ⟨fun q => ?_, fun _ => w12_5 (I0 := I0) (T := T) (k := k) (a := a) hp hk (by omega) hT hS (fun J x1 x2 h1 h2 hJ => ih (a + 1) J x1 _ h1 ?_ (by omega) hJ) a 0 I x1 x2 0 h1 h2 (by decide) (by omega) hI⟩
    · have q := kl_le.mp q
      rw [e1] at q
      omega
    · have s := ml_in1 (x := x2) (by omega)
      omega
theorem w12_1 {I0 : sm_I} {N : Nat → Int} {p : Nat} (hp : p ≤ 6) (h1p : (I0 12 1).toInt = p) (hN : WB 1440 N) (hS : WS p N) (h : ∀ J : sm_I, w12ok J → (∀ i, i < 36 → nv (J 13 i) = Ft p N i) → (∀ c j, c ≠ 13 → J c j = I0 c j) → Φ (none, (xLay, J, L, kQ12 R))) : ∀ (m k : Nat) (I : sm_I) (x1 : Int32), x1.toInt = k → k + m = p → w12ok I → (∀ i, i < 36 → nv (I 13 i) = Ft k N i) → (∀ c j, c ≠ 13 → I c j = I0 c j) → sm_wp sm_P S (d + 1) 18 1 [.ref 12, .int x1] [] (xLay, I, L, (kQ12 R)) (0, 0) Φ := by
  intro m
  induction m with
  | zero =>
    intro k I x1 h1 hm ho g o
    have e : k = p := by omega
    subst e
    refine s12_X10_findWalks_1 ⟨fun _ => h I ho g o, fun q => ?_⟩
    have q := kl_nle q
    rw [o 12 1 (by decide)] at q
    omega
  | succ m ih =>
    intro k I x1 h1 hm ho g o
    refine s12_X10_findWalks_1 ⟨fun q => ?_, fun _ => w12_3 (I0 := I0) (T := Ft k N) (k := k) hp h1p (by omega) (WB_F6 hN k (by omega)) (WS_Ft hN hS k (by omega)) (fun J x1 h1 ho gJ oJ => ih (k + 1) J _ ?_ (by omega) ho gJ oJ) p 0 I x1 0 h1 (by decide) (by omega) ⟨ho, fun u v hu hv l => ⟨fun q => absurd q (by omega), fun _ => ⟨g _ (by omega), g _ (by omega)⟩⟩, fun u hu => g _ (by omega), o⟩⟩
    · have q := kl_le.mp q
      rw [o 12 1 (by decide)] at q
      omega
    · have s := ml_in1 (x := x1) (by omega)
      omega
theorem w12_walks {p : Nat} (hp : p ≤ 6) (h1p : (I 12 1).toInt = p) (ho : w12ok I) (hN : WB 1440 (fun i => nv (I 13 i))) (hS : WS p (fun i => nv (I 13 i))) (h : ∀ J : sm_I, w12ok J → (∀ i, i < 36 → nv (J 13 i) = Ft p (fun i => nv (I 13 i)) i) → (∀ c j, c ≠ 13 → J c j = I c j) → Φ (none, (xLay, J, L, kQ12 R))) : sm_wp sm_P S (d + 1) 18 0 [.ref 12] [] (xLay, I, L, (kQ12 R)) (0, 0) Φ := s12_X10_findWalks_0 (w12_1 (I0 := I) hp h1p hN hS h p 0 I 0 (by decide) (by omega) ho (fun i _ => rfl) (fun _ _ _ => rfl))
end
end
section
/-! the class's findWalks with into = 49, exact (wip/pe/mkwk.py) -/
section
variable {S : sm_C} {d : Nat} {Φ : sm_Z → Prop} {I : sm_I} {L : sm_L} {R : sm_R}
def w49ok (I : sm_I) : Prop := ∀ i, i < 36 → I 50 i = -2 ∨ 0 ≤ (I 50 i).toInt
theorem w49_wb {x y : Int32} {a b : Nat} (hx : x.toInt = a) (hy : y.toInt = b) (ha : a < 6) (hb : b < 6) (h : Φ (some (.int (I 50 (6 * a + b))), (xLay, I, L, kQ49 R))) : sm_wp sm_P S d 27 0 [.ref 49, .int x, .int y] [] (xLay, I, L, kQ49 R) (0, 0) Φ := by
  have c6 : (6 : Int32).toInt = 6 := by decide
  have q1 : (x * (6 : Int32)).toInt = (a : Int) * 6 := ml_mu hx c6 (by omega) (by omega)
  have q2 : ((x * (6 : Int32)) + y).toInt = ((6 * a + b : Nat) : Int) := (ml_ad q1 hy (by omega) (by omega)).trans (by omega)
  refine s49_X10_walkBetween_0 ⟨fun k => ?_, fun _ => ⟨fun k => ?_, fun _ => ⟨fun k => ?_, fun _ => ⟨fun _ => ⟨kl_in (by omega) (by omega), ?_⟩, fun k => ?_⟩⟩⟩⟩
  · have k := kl_lt.mp k
    rw [kl_0] at k; omega
  · have k := kl_le.mp k
    omega
  · have k := kl_lt.mp k
    rw [kl_0] at k; omega
  · rw [tk_nat q2]; exact h
  · have k := kl_nlt k
    omega
/-- a way that is no better changes nothing; a better one is laid both ways -/
theorem w49_ap {x y v : Int32} {a b : Nat} (hx : x.toInt = a) (hy : y.toInt = b) (ha : a < 6) (hb : b < 6) (h0 : ¬ (I 50 (6 * a + b)).toInt < 0 → (I 50 (6 * a + b)).toInt ≤ v.toInt → Φ (none, (xLay, I, L, kQ49 R))) (h1 : (I 50 (6 * a + b)).toInt < 0 ∨ v.toInt < (I 50 (6 * a + b)).toInt → Φ (none, (xLay, sm_up (sm_up I 50 (6 * a + b) v) 50 (6 * b + a) v, L, kQ49 R))) : sm_wp sm_P S d 13 0 [.ref 49, .int x, .int y, .int v] [] (xLay, I, L, kQ49 R) (0, 0) Φ := by
  have c6 : (6 : Int32).toInt = 6 := by decide
  have q1 : (x * (6 : Int32)).toInt = (a : Int) * 6 := ml_mu hx c6 (by omega) (by omega)
  have q2 : ((x * (6 : Int32)) + y).toInt = ((6 * a + b : Nat) : Int) := (ml_ad q1 hy (by omega) (by omega)).trans (by omega)
  have q3 : (y * (6 : Int32)).toInt = (b : Int) * 6 := ml_mu hy c6 (by omega) (by omega)
  have q4 : ((y * (6 : Int32)) + x).toInt = ((6 * b + a : Nat) : Int) := (ml_ad q3 hx (by omega) (by omega)).trans (by omega)
  have m2 := tk_nat q2
  have m4 := tk_nat q4
  refine s49_X10_addPath_0 ⟨fun k => ?_, fun _ => ⟨fun k => ?_, fun _ => ⟨fun k => ?_, fun _ => ⟨fun _ => ⟨kl_in (by omega) (by omega), fun n1 e1 => ?_⟩, fun k => ?_⟩⟩⟩⟩
  · have k := kl_lt.mp k
    rw [kl_0] at k; omega
  · have k := kl_le.mp k
    omega
  · have k := kl_lt.mp k
    rw [kl_0] at k; omega
  · rw [m2] at e1
    rw [m2, m4]
    refine ⟨fun k => ⟨kl_in (by omega) (by omega), fun I2 e2 => ⟨kl_in (by omega) (by omega), fun I3 e3 => ?_⟩⟩, fun k => ⟨fun k2 => ?_, fun k2 => ⟨kl_in (by omega) (by omega), fun I2 e2 => ⟨kl_in (by omega) (by omega), fun I3 e3 => ?_⟩⟩⟩⟩
    · have k := kl_lt.mp k
      rw [kl_0, e1] at k
      rw [e3, e2]; exact h1 (Or.inl k)
    · have k := kl_nlt k
      have k2 := kl_le.mp k2
      rw [kl_0, e1] at k
      rw [e1] at k2
      exact h0 (by omega) k2
    · have k2 := kl_nle k2
      rw [e1] at k2
      rw [e3, e2]; exact h1 (Or.inr k2)
  · have k := kl_nlt k
    omega
def w49st (p k a b : Nat) (T : Nat → Int) (I0 I : sm_I) : Prop := w49ok I ∧ (∀ u v, u < 6 → v < 6 → v < u → ((u < p ∧ (u < a ∨ (u = a ∧ v < b))) → nv (I 50 (6 * u + v)) = Fn k T (6 * u + v) ∧ nv (I 50 (6 * v + u)) = Fn k T (6 * v + u)) ∧ (¬ (u < p ∧ (u < a ∨ (u = a ∧ v < b))) → nv (I 50 (6 * u + v)) = T (6 * u + v) ∧ nv (I 50 (6 * v + u)) = T (6 * v + u))) ∧ (∀ u, u < 6 → nv (I 50 (7 * u)) = T (7 * u)) ∧ ∀ c j, c ≠ 50 → I c j = I0 c j
theorem w49st_at {p k a b : Nat} {T : Nat → Int} {I0 I : sm_I} (hT : WB 100000 T) (hk : k < 6) (h : w49st p k a b T I0 I) : (∀ u, u < 6 → nv (I 50 (6 * u + k)) = T (6 * u + k)) ∧ ∀ v, v < 6 → nv (I 50 (6 * k + v)) = T (6 * k + v) := by
  obtain ⟨-, h2, h3, -⟩ := h
  have both : ∀ u v, u < 6 → v < 6 → (u = k ∨ v = k) → nv (I 50 (6 * u + v)) = T (6 * u + v) := fun u v hu hv c => by
    have fx : Fn k T (6 * u + v) = T (6 * u + v) := by
      rcases c with c | c
      · rw [c]; exact Fn_col hk hv hT
      · rw [c]; exact Fn_row hk hT
    rcases Nat.lt_trichotomy u v with l | l | l
    · obtain ⟨g1, g2⟩ := h2 v u hv hu l
      by_cases q : v < p ∧ (v < a ∨ (v = a ∧ u < b))
      · rw [(g1 q).2, fx]
      · exact (g2 q).2
    · subst l
      have := h3 u hu
      rw [show 6 * u + u = 7 * u by omega]; exact this
    · obtain ⟨g1, g2⟩ := h2 u v hu hv l
      by_cases q : u < p ∧ (u < a ∨ (u = a ∧ v < b))
      · rw [(g1 q).1, fx]
      · exact (g2 q).1
  exact ⟨fun u hu => both u k hu hk (Or.inr rfl), fun v hv => both k v hk hv (Or.inl rfl)⟩
theorem w49_5 {I0 : sm_I} {T : Nat → Int} {p k a : Nat} (hp : p ≤ 6) (hk : k < 6) (ha : a < p) (hT : WB 100000 T) (hS : WS p T) (h : ∀ (J : sm_I) (x1 x2 : Int32), x1.toInt = k → x2.toInt = a → w49st p k (a + 1) 0 T I0 J → sm_wp sm_P S (d + 1) 18 3 [.ref 49, .int x1, .int (x2 + (1 : Int32))] [] (xLay, J, L, (kQ49 R)) (0, 0) Φ) : ∀ (m b : Nat) (I : sm_I) (x1 x2 x3 : Int32), x1.toInt = k → x2.toInt = a → x3.toInt = b → b + m = a → w49st p k a b T I0 I → sm_wp sm_P S (d + 1) 18 5 [.ref 49, .int x1, .int x2, .int x3] [] (xLay, I, L, (kQ49 R)) (0, 0) Φ := by
  intro m
  induction m with
  | zero =>
    intro b I x1 x2 x3 h1 h2 h3 hm hI
    have e : b = a := by omega
    subst e
    refine s49_X10_findWalks_5 ⟨fun _ => h I x1 x2 h1 h2 ⟨hI.1, fun u v hu hv l => ?_, hI.2.2⟩, fun q => ?_⟩
    · obtain ⟨g1, g2⟩ := hI.2.1 u v hu hv l
      exact ⟨fun q => g1 (by omega), fun q => g2 (by omega)⟩
    · have q := kl_nle q
      omega
  | succ m ih =>
    intro b I x1 x2 x3 h1 h2 h3 hm hI
    have s3 := ml_in1 (x := x3) (by omega)
    obtain ⟨r1, r2⟩ := w49st_at hT hk hI
    have t1 := r1 a (by omega)
    have t2 := r2 b (by omega)
    have ab := hI.2.1 a b (by omega) (by omega) (by omega)
    have t3 := (ab.2 (by omega)).1
    have t4 := (ab.2 (by omega)).2
    have e1 : (6 * a + b) / 6 = a := by omega
    have e2 : (6 * a + b) % 6 = b := by omega
    have symF := (WS_Fn hk hT hS).1 a b (by omega) (by omega)
    have symT := hS.1 a b (by omega) (by omega)
    have B1 := hT.1 (6 * a + k) (by omega)
    have B2 := hT.1 (6 * k + b) (by omega)
    have B3 := hT.1 (6 * a + b) (by omega)
    have ok1 := hI.1 (6 * a + k) (by omega)
    have ok2 := hI.1 (6 * k + b) (by omega)
    have ok3 := hI.1 (6 * a + b) (by omega)
    have same : Fn k T (6 * a + b) = T (6 * a + b) → sm_wp sm_P S (d + 1) 18 5 [.ref 49, .int x1, .int x2, .int (x3 + (1 : Int32))] [] (xLay, I, L, (kQ49 R)) (0, 0) Φ := fun e => ih (b + 1) I x1 x2 _ h1 h2 (by omega) (by omega) ⟨hI.1, fun u v hu hv l => by
      obtain ⟨g1, g2⟩ := hI.2.1 u v hu hv l
      refine ⟨fun q => ?_, fun q => g2 (by omega)⟩
      by_cases c : u = a ∧ v = b
      · obtain ⟨c1, c2⟩ := c
        subst c1; subst c2
        exact ⟨by rw [t3, e], by rw [t4, ← symF, e, symT]⟩
      · exact g1 (by omega), hI.2.2⟩
    refine s49_X10_findWalks_5 ⟨fun q => ?_, fun _ => w49_wb h2 h1 (by omega) (by omega) ⟨_, I, L, rfl, w49_wb h1 h3 (by omega) (by omega) ⟨_, I, L, rfl, fun c => ?_, fun c => ⟨fun c2 => ?_, fun c2 => ?_⟩⟩⟩⟩
    · have q := kl_le.mp q
      omega
    · have c := kl_lt.mp c
      rw [kl_0] at c
      unfold nv at t1
      rw [if_pos c] at t1
      refine same ?_
      unfold Fn
      rw [e1, e2, if_pos (by omega)]
    · have c := kl_nlt c
      have c2 := kl_lt.mp c2
      rw [kl_0] at c c2
      unfold nv at t1 t2
      rw [if_neg (by omega)] at t1
      rw [if_pos c2] at t2
      refine same ?_
      unfold Fn
      rw [e1, e2, if_neg (by omega), if_pos (by omega)]
    · have c := kl_nlt c
      have c2 := kl_nlt c2
      rw [kl_0] at c c2
      unfold nv at t1 t2
      rw [if_neg (by omega)] at t1 t2
      have sum : (I 50 (6 * a + k) + I 50 (6 * k + b)).toInt = T (6 * a + k) + T (6 * k + b) := ml_ad t1 t2 (by omega) (by omega)
      refine w49_ap h2 h3 (by omega) (by omega) (fun c3 c4 => ⟨I, L, rfl, same ?_⟩) (fun c3 => ⟨_, L, rfl, ?_⟩)
      · unfold nv at t3
        rw [if_neg c3] at t3
        rw [sum, t3] at c4
        unfold Fn
        rw [e1, e2, if_neg (by omega), if_neg (by omega), if_neg (by omega), if_neg (by omega)]
      · have Fv : Fn k T (6 * a + b) = T (6 * a + k) + T (6 * k + b) := by
          unfold Fn
          rw [e1, e2, if_neg (by omega), if_neg (by omega)]
          unfold nv at t3
          rcases c3 with c3 | c3
          · rw [if_pos c3] at t3
            rw [if_pos (by omega)]
          · by_cases c5 : (I 50 (6 * a + b)).toInt < 0
            · rw [if_pos c5] at t3
              rw [if_pos (by omega)]
            · rw [if_neg c5] at t3
              rw [sum, t3] at c3
              rw [if_neg (by omega), if_pos c3]
        have nvs : nv (I 50 (6 * a + k) + I 50 (6 * k + b)) = Fn k T (6 * a + b) := by
          unfold nv
          rw [sum, if_neg (by omega), Fv]
        refine ih (b + 1) _ x1 x2 _ h1 h2 (by omega) (by omega) ⟨fun i hi => ?_, fun u v hu hv l => ?_, fun u hu => ?_, fun c j hc => ?_⟩
        · by_cases g1 : i = 6 * b + a
          · rw [g1, en_up_eq]; exact Or.inr (by rw [sum]; omega)
          · rw [en_up_ne _ _ _ _ (by omega)]
            by_cases g2 : i = 6 * a + b
            · rw [g2, en_up_eq]; exact Or.inr (by rw [sum]; omega)
            · rw [en_up_ne _ _ _ _ (by omega)]; exact hI.1 i hi
        · obtain ⟨g1, g2⟩ := hI.2.1 u v hu hv l
          by_cases c : u = a ∧ v = b
          · obtain ⟨c1, c2⟩ := c
            subst c1; subst c2
            refine ⟨fun _ => ⟨?_, ?_⟩, fun q => absurd (by omega) q⟩
            · rw [en_up_ne _ _ _ _ (by omega), en_up_eq]; exact nvs
            · rw [en_up_eq, ← symF]; exact nvs
          · rw [en_up_ne _ _ _ _ (by omega), en_up_ne _ _ _ _ (by omega), en_up_ne _ _ _ _ (by omega), en_up_ne _ _ _ _ (by omega)]
            exact ⟨fun q => g1 (by omega), fun q => g2 (by omega)⟩
        · rw [en_up_ne _ _ _ _ (by omega), en_up_ne _ _ _ _ (by omega)]; exact hI.2.2.1 u hu
        · rw [en_up_ne _ _ _ _ (by omega), en_up_ne _ _ _ _ (by omega)]; exact hI.2.2.2 c j hc
theorem w49_3 {I0 : sm_I} {T : Nat → Int} {p k : Nat} (hp : p ≤ 6) (h1p : (I0 49 1).toInt = p) (hk : k < 6) (hT : WB 100000 T) (hS : WS p T) (h : ∀ (J : sm_I) (x1 : Int32), x1.toInt = k → w49ok J → (∀ i, i < 36 → nv (J 50 i) = Fn k T i) → (∀ c j, c ≠ 50 → J c j = I0 c j) → sm_wp sm_P S (d + 1) 18 1 [.ref 49, .int (x1 + (1 : Int32))] [] (xLay, J, L, (kQ49 R)) (0, 0) Φ) : ∀ (m a : Nat) (I : sm_I) (x1 x2 : Int32), x1.toInt = k → x2.toInt = a → a + m = p → w49st p k a 0 T I0 I → sm_wp sm_P S (d + 1) 18 3 [.ref 49, .int x1, .int x2] [] (xLay, I, L, (kQ49 R)) (0, 0) Φ := by
  intro m
  induction m with
  | zero =>
    intro a I x1 x2 h1 h2 hm hI
    have e : a = p := by omega
    subst e
    have e1 : I 49 1 = I0 49 1 := hI.2.2.2 49 1 (by decide)
    refine s49_X10_findWalks_3 ⟨fun _ => h I x1 h1 hI.1 (fun i hi => ?_) hI.2.2.2, fun q => ?_⟩
    · obtain ⟨u, v, hu, hv, e⟩ : ∃ u v, u < 6 ∧ v < 6 ∧ i = 6 * u + v := ⟨i / 6, i % 6, by omega, by omega, by omega⟩
      subst e
      have F := WS_Fn hk hT hS
      have W2 := WB_Fn hk hT (by decide)
      rcases Nat.lt_trichotomy u v with l | l | l
      · obtain ⟨g1, g2⟩ := hI.2.1 v u hv hu l
        by_cases q : v < a
        · exact (g1 ⟨q, Or.inl q⟩).2
        · rw [(g2 (by omega)).2, hS.1 u v hu hv, hS.2 v u hv hu (by omega) (by omega), F.1 u v hu hv, F.2 v u hv hu (by omega) (by omega)]
      · subst l
        rw [show 6 * u + u = 7 * u by omega, hI.2.2.1 u hu, hT.2 u hu, W2.2 u hu]
      · obtain ⟨g1, g2⟩ := hI.2.1 u v hu hv l
        by_cases q : u < a
        · exact (g1 ⟨q, Or.inl q⟩).1
        · rw [(g2 (by omega)).1, hS.2 u v hu hv (by omega) (by omega), F.2 u v hu hv (by omega) (by omega)]
    · have q := kl_nle q
      rw [e1] at q
      omega
  | succ m ih =>
    intro a I x1 x2 h1 h2 hm hI
    have e1 : I 49 1 = I0 49 1 := hI.2.2.2 49 1 (by decide)
    refine s49_X10_findWalks_3 ⟨fun q => ?_, fun _ => w49_5 (I0 := I0) (T := T) (k := k) (a := a) hp hk (by omega) hT hS (fun J x1 x2 h1 h2 hJ => ih (a + 1) J x1 _ h1 ?_ (by omega) hJ) a 0 I x1 x2 0 h1 h2 (by decide) (by omega) hI⟩
    · have q := kl_le.mp q
      rw [e1] at q
      omega
    · have s := ml_in1 (x := x2) (by omega)
      omega
theorem w49_1 {I0 : sm_I} {N : Nat → Int} {p : Nat} (hp : p ≤ 6) (h1p : (I0 49 1).toInt = p) (hN : WB 1440 N) (hS : WS p N) (h : ∀ J : sm_I, w49ok J → (∀ i, i < 36 → nv (J 50 i) = Ft p N i) → (∀ c j, c ≠ 50 → J c j = I0 c j) → Φ (none, (xLay, J, L, kQ49 R))) : ∀ (m k : Nat) (I : sm_I) (x1 : Int32), x1.toInt = k → k + m = p → w49ok I → (∀ i, i < 36 → nv (I 50 i) = Ft k N i) → (∀ c j, c ≠ 50 → I c j = I0 c j) → sm_wp sm_P S (d + 1) 18 1 [.ref 49, .int x1] [] (xLay, I, L, (kQ49 R)) (0, 0) Φ := by
  intro m
  induction m with
  | zero =>
    intro k I x1 h1 hm ho g o
    have e : k = p := by omega
    subst e
    refine s49_X10_findWalks_1 ⟨fun _ => h I ho g o, fun q => ?_⟩
    have q := kl_nle q
    rw [o 49 1 (by decide)] at q
    omega
  | succ m ih =>
    intro k I x1 h1 hm ho g o
    refine s49_X10_findWalks_1 ⟨fun q => ?_, fun _ => w49_3 (I0 := I0) (T := Ft k N) (k := k) hp h1p (by omega) (WB_F6 hN k (by omega)) (WS_Ft hN hS k (by omega)) (fun J x1 h1 ho gJ oJ => ih (k + 1) J _ ?_ (by omega) ho gJ oJ) p 0 I x1 0 h1 (by decide) (by omega) ⟨ho, fun u v hu hv l => ⟨fun q => absurd q (by omega), fun _ => ⟨g _ (by omega), g _ (by omega)⟩⟩, fun u hu => g _ (by omega), o⟩⟩
    · have q := kl_le.mp q
      rw [o 49 1 (by decide)] at q
      omega
    · have s := ml_in1 (x := x1) (by omega)
      omega
theorem w49_walks {p : Nat} (hp : p ≤ 6) (h1p : (I 49 1).toInt = p) (ho : w49ok I) (hN : WB 1440 (fun i => nv (I 50 i))) (hS : WS p (fun i => nv (I 50 i))) (h : ∀ J : sm_I, w49ok J → (∀ i, i < 36 → nv (J 50 i) = Ft p (fun i => nv (I 50 i)) i) → (∀ c j, c ≠ 50 → J c j = I c j) → Φ (none, (xLay, J, L, kQ49 R))) : sm_wp sm_P S (d + 1) 18 0 [.ref 49] [] (xLay, I, L, (kQ49 R)) (0, 0) Φ := s49_X10_findWalks_0 (w49_1 (I0 := I) hp h1p hN hS h p 0 I 0 (by decide) (by omega) ho (fun i _ => rfl) (fun _ _ _ => rfl))
end
end
section
/-! the class's findMoves with into = 12, exact (wip/pe/mkmv.py) -/
section
variable {S : sm_C} {d : Nat} {Φ : sm_Z → Prop} {L : sm_L} {R : sm_R}
def mv12 (I0 I : sm_I) (w : List (Nat × Nat)) : Prop := (I 12 5).toInt = ((w.length : Nat) : Int) ∧ (∀ j, j < w.length → I 34 j = Int32.ofNat (w.getD j (0, 0)).1 ∧ I 35 j = Int32.ofNat (w.getD j (0, 0)).2 ∧ I 36 j = I0 13 (6 * (I0 15 (w.getD j (0, 0)).1).toNatClampNeg + (I0 15 (w.getD j (0, 0)).2).toNatClampNeg)) ∧ ∀ p j, ¬ (p = 12 ∧ j = 5) → p ≠ 34 → p ≠ 35 → p ≠ 36 → I p j = I0 p j
def mc12 (I : sm_I) : Nat → Nat → Bool := mvc (I 14) (I 15)
theorem km12_3 {I0 : sm_I} {T a : Nat} (hT : (I0 12 2).toInt = T) (T10 : T ≤ 10) (ha : a < T) (bp : ∀ i, i < T → I0 14 i ≠ -1 → 0 ≤ (I0 15 i).toInt ∧ (I0 15 i).toInt ≤ 5) (h : ∀ (J : sm_I) (x1 : Int32), x1.toInt = a → mv12 I0 J (mall (mc12 I0) T (a + 1)) → sm_wp sm_P S (d + 1) 17 1 [.ref 12, .int (x1 + (1 : Int32))] [] (xLay, J, L, kQ12 R) (0, 0) Φ) : ∀ (m b : Nat) (I : sm_I) (x1 x2 : Int32), x1.toInt = a → x2.toInt = b → a < b → b + m = T → mv12 I0 I (mall (mc12 I0) T a ++ mrow (mc12 I0) a b) → sm_wp sm_P S (d + 1) 17 3 [.ref 12, .int x1, .int x2] [] (xLay, I, L, kQ12 R) (0, 0) Φ := by
  intro m
  induction m with
  | zero =>
    intro b I x1 x2 h1 h2 hab hm hI
    have e : b = T := by omega
    subst e
    have e2 : I 12 2 = I0 12 2 := hI.2.2 12 2 (by omega) (by decide) (by decide) (by decide)
    refine s12_X10_findMoves_3 ⟨fun _ => h I x1 h1 hI, fun q => ?_⟩
    have q := kl_nle q
    rw [e2] at q
    omega
  | succ m ih =>
    intro b I x1 x2 h1 h2 hab hm hI
    have s2 := ml_in1 (x := x2) (by omega)
    obtain ⟨hc, hr, o⟩ := hI
    have e2 : I 12 2 = I0 12 2 := o 12 2 (by omega) (by decide) (by decide) (by decide)
    have len := mv_45 (c := mc12 I0) T10 hab (by omega : b < T)
    have o3 : ∀ j, I 14 j = I0 14 j := fun j => o 14 j (by omega) (by decide) (by decide) (by decide)
    have o4 : ∀ j, I 15 j = I0 15 j := fun j => o 15 j (by omega) (by decide) (by decide) (by decide)
    have o9 : ∀ j, I 13 j = I0 13 j := fun j => o 13 j (by omega) (by decide) (by decide) (by decide)
    have skip : mc12 I0 a b = false → sm_wp sm_P S (d + 1) 17 12 [.ref 12, .int x1, .int x2] [] (xLay, I, L, kQ12 R) (0, 0) Φ := fun q => by
      refine s12_X10_findMoves_12 (ih (b + 1) I x1 _ h1 (by omega) (by omega) (by omega) ?_)
      rw [mrow_s hab, q, if_neg (by decide), List.append_nil]
      exact ⟨hc, hr, o⟩
    have v1 : vp_in x1 10 := kl_in (by omega) (by omega)
    have v2 : vp_in x2 10 := kl_in (by omega) (by omega)
    have m1 := tk_nat h1
    have m2 := tk_nat h2
    have no : mc12 I0 a b = false → sm_wp sm_P S (d + 1) 17 8 [.ref 12, .int x1, .int x2] [.int (0 : Int32)] (xLay, I, L, kQ12 R) (0, 0) Φ := fun q => s12_X10_findMoves_8 ⟨fun _ => skip q, fun z => absurd rfl z⟩
    refine s12_X10_findMoves_3 ⟨fun q => ?_, fun _ => ⟨v1, ?_⟩⟩
    · have q := kl_le.mp q
      rw [e2] at q
      omega
    rw [m1, m2, o3, o3]
    refine ⟨fun c1 => no ?_, fun c1 => ⟨v1, v2, fun c2 => ?_, fun c2 => no ?_⟩⟩
    · unfold mc12 mvc
      simp [c1]
    rotate_left
    · unfold mc12 mvc
      simp [c2]
    refine s12_X10_findMoves_8 ⟨fun z => absurd z (by decide), fun _ => ⟨v1, v2, ?_⟩⟩
    rw [m1, m2, o4, o4]
    refine ⟨fun c3 => skip ?_, fun c3 => ⟨fun q => ?_, fun _ => ?_⟩⟩
    · unfold mc12 mvc
      simp [c3]
    · have q := kl_le.mp q
      rw [hc, (by decide : (45 : Int32).toInt = 45)] at q
      omega
    have yes : mc12 I0 a b = true := by
      unfold mc12 mvc
      simp only [decide_eq_false c1, decide_eq_true c2, decide_eq_false c3]
      rfl
    have ba := bp a ha c1
    have bb := bp b (by omega) (fun q => c1 (c2.trans q))
    have na := kl_nat ba.1
    have nb := kl_nat bb.1
    have vc : vp_in (I 12 5) 45 := kl_in (by omega) (by omega)
    have nc := tk_nat hc
    refine ⟨vc, fun I1 e1 => ?_⟩
    have g1 : I1 12 5 = I 12 5 := by rw [e1, en_up_ne _ _ _ _ (by omega)]
    rw [g1]
    refine ⟨vc, fun I2 e3 => ⟨v1, v2, ?_⟩⟩
    have k2 : ∀ p j, p ≠ 34 → p ≠ 35 → I2 p j = I p j := fun p j a b => by rw [e3, en_up_ne _ _ _ _ (by omega), e1, en_up_ne _ _ _ _ (by omega)]
    rw [k2 15 _ (by decide) (by decide), k2 15 _ (by decide) (by decide), o4, o4, k2 12 5 (by decide) (by decide)]
    refine w12_wb (a := (I0 15 a).toNatClampNeg) (b := (I0 15 b).toNatClampNeg) na.symm nb.symm (by omega) (by omega) ⟨_, I2, L, rfl, vc, fun I6 e6 I7 e7 => ?_⟩
    rw [k2 13 _ (by decide) (by decide), o9] at e6
    have g6 : I6 12 5 = I 12 5 := by rw [e6, en_up_ne _ _ _ _ (by omega), k2 12 5 (by decide) (by decide)]
    rw [g6] at e7
    rw [nc] at e1 e3 e6
    have k7 : ∀ p j, ¬ (p = 12 ∧ j = 5) → p ≠ 34 → p ≠ 35 → p ≠ 36 → I7 p j = I0 p j := fun p j a b c d => by
      rw [e7, en_up_ne _ _ _ _ a, e6, en_up_ne _ _ _ _ (by omega), k2 p j b c, o p j a b c d]
    have s1 := ml_in1 (x := I 12 5) (by omega)
    refine s12_X10_findMoves_12 (ih (b + 1) I7 x1 _ h1 (by omega) (by omega) (by omega) ⟨?_, fun j hj => ?_, k7⟩)
    · rw [mrow_s hab, yes, if_pos rfl, ← List.append_assoc, List.length_append]
      rw [e7, en_up_eq, s1, hc]
      rfl
    · rw [mrow_s hab, yes, if_pos rfl, ← List.append_assoc] at hj ⊢
      rw [List.length_append] at hj
      have hj : j < (mall (mc12 I0) T a ++ mrow (mc12 I0) a b).length + 1 := hj
      by_cases e : j < (mall (mc12 I0) T a ++ mrow (mc12 I0) a b).length
      · rw [gD_l e]
        obtain ⟨r1, r2, r3⟩ := hr j e
        refine ⟨?_, ?_, ?_⟩
        · rw [e7, en_up_ne _ _ _ _ (by omega), e6, en_up_ne _ _ _ _ (by omega), e3, en_up_ne _ _ _ _ (by omega), e1, en_up_ne _ _ _ _ (by omega)]; exact r1
        · rw [e7, en_up_ne _ _ _ _ (by omega), e6, en_up_ne _ _ _ _ (by omega), e3, en_up_ne _ _ _ _ (by omega), e1, en_up_ne _ _ _ _ (by omega)]; exact r2
        · rw [e7, en_up_ne _ _ _ _ (by omega), e6, en_up_ne _ _ _ _ (by omega), e3, en_up_ne _ _ _ _ (by omega), e1, en_up_ne _ _ _ _ (by omega)]; exact r3
      · have e : j = (mall (mc12 I0) T a ++ mrow (mc12 I0) a b).length := by omega
        rw [e, gD_n]
        have ex1 : x1 = Int32.ofNat a := en_ofI (by rw [h1, Int32.toInt_ofNat_of_lt (by omega)])
        have ex2 : x2 = Int32.ofNat b := en_ofI (by rw [h2, Int32.toInt_ofNat_of_lt (by omega)])
        refine ⟨?_, ?_, ?_⟩
        · rw [e7, en_up_ne _ _ _ _ (by omega), e6, en_up_ne _ _ _ _ (by omega), e3, en_up_ne _ _ _ _ (by omega), e1, en_up_eq, ex1]
        · rw [e7, en_up_ne _ _ _ _ (by omega), e6, en_up_ne _ _ _ _ (by omega), e3, en_up_eq, ex2]
        · rw [e7, en_up_ne _ _ _ _ (by omega), e6, en_up_eq]
theorem km12_1 {I0 : sm_I} {T : Nat} (hT : (I0 12 2).toInt = T) (T10 : T ≤ 10) (bp : ∀ i, i < T → I0 14 i ≠ -1 → 0 ≤ (I0 15 i).toInt ∧ (I0 15 i).toInt ≤ 5) (h : ∀ J : sm_I, mv12 I0 J (mall (mc12 I0) T T) → Φ (none, (xLay, J, L, kQ12 R))) : ∀ (m a : Nat) (I : sm_I) (x1 : Int32), x1.toInt = a → a + m = T → mv12 I0 I (mall (mc12 I0) T a) → sm_wp sm_P S (d + 1) 17 1 [.ref 12, .int x1] [] (xLay, I, L, kQ12 R) (0, 0) Φ := by
  intro m
  induction m with
  | zero =>
    intro a I x1 h1 hm hI
    have e : a = T := by omega
    subst e
    have e2 : I 12 2 = I0 12 2 := hI.2.2 12 2 (by omega) (by decide) (by decide) (by decide)
    refine s12_X10_findMoves_1 ⟨fun _ => h I hI, fun q => ?_⟩
    have q := kl_nle q
    rw [e2] at q
    omega
  | succ m ih =>
    intro a I x1 h1 hm hI
    have s1 := ml_in1 (x := x1) (by omega)
    have e2 : I 12 2 = I0 12 2 := hI.2.2 12 2 (by omega) (by decide) (by decide) (by decide)
    refine s12_X10_findMoves_1 ⟨fun q => ?_, fun _ => km12_3 (I0 := I0) (a := a) hT T10 (by omega) bp (fun J x1 h1 hJ => ih (a + 1) J _ ?_ (by omega) hJ) (T - (a + 1)) (a + 1) I x1 _ h1 (by omega) (by omega) (by omega) (by rw [mrow_0 (a + 1) (Nat.le_refl _), List.append_nil]; exact hI)⟩
    · have q := kl_le.mp q
      rw [e2] at q
      omega
    · have s := ml_in1 (x := x1) (by omega)
      omega
theorem k12_moves {I : sm_I} {T : Nat} (hT : (I 12 2).toInt = T) (T10 : T ≤ 10) (bp : ∀ i, i < T → I 14 i ≠ -1 → 0 ≤ (I 15 i).toInt ∧ (I 15 i).toInt ≤ 5) (h : ∀ J : sm_I, mv12 I J (mall (mc12 I) T T) → Φ (none, (xLay, J, L, kQ12 R))) : sm_wp sm_P S (d + 1) 17 0 [.ref 12] [] (xLay, I, L, kQ12 R) (0, 0) Φ := s12_X10_findMoves_0 (km12_1 (I0 := I) hT T10 bp h T 0 _ 0 (by decide) (by omega) ⟨by rw [en_up_eq]; rfl, fun j hj => absurd hj (Nat.not_lt_zero j), fun p j a _ _ _ => by rw [en_up_ne _ _ _ _ a]⟩)
end
end
