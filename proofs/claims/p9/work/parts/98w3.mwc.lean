/-! the reference's contracts with what was gone through (wip/pe/mkYm.py) -/
section
variable {c48 : Nat → Int64}
theorem ml_lvWq {w : sm_W} (hm : en_mem ml_tb3 (mlW c48) w) : mlV w.2.1 (w.2.1 107 18).toNatClampNeg := hm.2.2.2.2.2.2.1 _ (ml_liveWq hm).2.2.1
theorem ml_tWq {w : sm_W} (hm : en_mem ml_tb3 (mlW c48) w) : 0 ≤ (w.2.1 107 11).toInt ∧ (w.2.1 107 11).toInt ≤ 500 := hm.2.1 107 11 (0, 500) (by decide +kernel)
theorem ml_vtWq {I : sm_I} {L : sm_L} {R : sm_R} (hm : en_mem ml_tb3 (mlW c48) (xLay, I, L, R)) : vp_in (I 107 11) 503 := by
  have b : 0 ≤ (I 107 11).toInt ∧ (I 107 11).toInt ≤ 500 := ml_tWq hm
  exact kl_in b.1 (by omega)
theorem ml_ftWq {I : sm_I} {L : sm_L} {R : sm_R} (hm : en_mem ml_tb3 (mlW c48) (xLay, I, L, R)) : 0 ≤ (I 107 13).toInt ∧ (I 107 13).toInt ≤ 5 := hm.2.1 107 13 (0, 5) (by decide +kernel)
theorem ml_f0Wq {I : sm_I} {L : sm_L} {R : sm_R} (hm : en_mem ml_tb3 (mlW c48) (xLay, I, L, R)) (h : I 107 13 ≤ 0) : I 107 13 = 0 := by
  have b := ml_ftWq hm
  have h := kl_le.mp h
  rw [kl_0] at h
  exact en_ofI (by rw [kl_0]; omega)
theorem mx_isWq {S : sm_C} {d : Nat} {Φ : sm_Z → Prop} {I : sm_I} {L : sm_L} {R : sm_R} {x : Int32} (hm : en_mem ml_tb3 (mlW c48) (xLay, I, L, R)) (h : ∀ r : Int32, (r = 0 ∨ r = 1) → (¬ r = 0 → I 107 13 = 0) → Φ (some (.int r), (xLay, I, L, kM R))) : sm_wp sm_P S d 143 0 [.ref 107, .int x] [] (xLay, I, L, kM R) (0, 0) Φ := u_X12_is_0 ⟨fun a => ⟨ml_vtWq hm, fun _ => h 1 (Or.inr rfl) (fun _ => a), fun _ => h 0 (Or.inl rfl) (fun c => absurd rfl c)⟩, fun _ => h 0 (Or.inl rfl) (fun c => absurd rfl c)⟩
theorem mx_failWq {S : sm_C} {d : Nat} {Φ : sm_Z → Prop} {I : sm_I} {L : sm_L} {R : sm_R} {x : Int32} (h1 : 1 ≤ x.toInt) (h5 : x.toInt ≤ 5) (hm : en_mem ml_tb3 (mlW c48) (xLay, I, L, R)) (h : ∀ J : sm_I, en_mem ml_tb3 (mlW c48) (xLay, J, L, R) → ml_pS ml_no I J → ¬ J 107 13 = 0 → Φ (none, (xLay, J, L, kM R))) : sm_wp sm_P S d 123 0 [.ref 107, .int x] [] (xLay, I, L, kM R) (0, 0) Φ := by
  have bt : 0 ≤ (I 107 11).toInt ∧ (I 107 11).toInt ≤ 500 := ml_tWq hm
  have nt := kl_nat bt.1
  have g11 : (sm_up I 107 13 x) 107 11 = I 107 11 := en_up_ne _ _ _ _ (by omega)
  have m1 : en_mem ml_tb3 (mlW c48) (xLay, sm_up I 107 13 x, L, R) := ml_wfWq hm (by decide +kernel) (q := (0, 5)) (by decide +kernel) (by show 0 ≤ _ ∧ _ ≤ (5 : Int); omega)
  refine u_X12_fail_0 ⟨fun a => ⟨by rw [g11]; exact ml_vtWq hm, fun n1 e1 I2 e2 => ?_⟩, fun a => h I hm ml_pS_rf (fun c => a (by rw [c]; decide))⟩
  rw [g11] at e1
  have bn : 0 ≤ n1.toInt ∧ n1.toInt ≤ 2000 := by rw [e1]; exact ml_rowWq m1 (p := 111) (n := 503) (q := (0, 2000)) (fun _ => rfl) _ (by omega)
  have g13 : I2 107 13 = x := by rw [e2, en_up_ne _ _ _ _ (by omega), en_up_eq]
  have n13 : ¬ I2 107 13 = 0 := fun c => by rw [g13] at c; rw [c, kl_0] at h1; omega
  refine h I2 ?_ ⟨fun p j _ hp => ?_, fun c => ?_, fun _ => n13, ?_⟩ n13
  · rw [e2]
    exact ml_wfWq m1 (by decide +kernel) (q := (0, 2000)) (by decide +kernel) bn
  · rw [e2, en_up_ne _ _ _ _ (by omega), en_up_ne _ _ _ _ (by omega)]
  · rw [e2, en_up_ne _ _ _ _ (by omega), en_up_ne _ _ _ _ (by omega)]; exact c
  · rw [e2, en_up_ne _ _ _ _ (by omega), g11]; exact Int.le_refl _
theorem mx_wrongWq {S : sm_C} {d : Nat} {Φ : sm_Z → Prop} {I : sm_I} {L : sm_L} {R : sm_R} {x1 x2 : Int32} (h1 : 1 ≤ x1.toInt) (h5 : x1.toInt ≤ 5) (k0 : 0 ≤ x2.toInt) (k1 : x2.toInt ≤ 502) (hm : en_mem ml_tb3 (mlW c48) (xLay, I, L, R)) (h : ∀ J : sm_I, en_mem ml_tb3 (mlW c48) (xLay, J, L, R) → ml_pS ml_no I J → (I 107 13 = 0 → ¬ J 107 15 = 0) → Φ (none, (xLay, J, L, kM R))) : sm_wp sm_P S d 213 0 [.ref 107, .int x1, .int x2] [] (xLay, I, L, kM R) (0, 0) Φ := by
  have n2 := kl_nat k0
  have bp : 0 ≤ (I 111 x2.toNatClampNeg).toInt ∧ (I 111 x2.toNatClampNeg).toInt ≤ 2000 := ml_rowWq hm (p := 111) (n := 503) (q := (0, 2000)) (fun _ => rfl) _ (by omega)
  have wr : ∀ J : sm_I, J = sm_up (sm_up I 107 15 x1) 107 16 (I 111 x2.toNatClampNeg) → Φ (none, (xLay, J, L, kM R)) := by
    intro J e
    have g15 : J 107 15 = x1 := by rw [e, en_up_ne _ _ _ _ (by omega), en_up_eq]
    have n15 : ¬ J 107 15 = 0 := fun c => by rw [g15] at c; rw [c, kl_0] at h1; omega
    refine h J ?_ ⟨fun p j _ hp => ?_, fun _ => n15, fun c => ?_, ?_⟩ (fun _ => n15)
    · rw [e]
      exact ml_wfWq (ml_wfWq hm (by decide +kernel) (q := (0, 5)) (by decide +kernel) (by show 0 ≤ _ ∧ _ ≤ (5 : Int); omega)) (by decide +kernel) (q := (0, 2000)) (by decide +kernel) bp
    · rw [e, en_up_ne _ _ _ _ (by omega), en_up_ne _ _ _ _ (by omega)]
    · rw [e, en_up_ne _ _ _ _ (by omega), en_up_ne _ _ _ _ (by omega)]; exact c
    · rw [e, en_up_ne _ _ _ _ (by omega), en_up_ne _ _ _ _ (by omega)]; exact Int.le_refl _
  refine u_X12_wrong_0 ⟨kl_in k0 (by omega), fun a => h I hm ml_pS_rf (fun c => ?_), fun _ => ⟨fun _ => wr, fun a => ⟨fun _ => h I hm ml_pS_rf (fun _ => a), fun _ => ⟨fun _ => ⟨fun _ => wr, fun _ => h I hm ml_pS_rf (fun _ => a)⟩, fun _ => wr⟩⟩⟩⟩
  rw [c] at a
  exact absurd a (by decide)
theorem mx_goesOnWq {S : sm_C} {d : Nat} {Φ : sm_Z → Prop} {I : sm_I} {L : sm_L} {R : sm_R} (hm : en_mem ml_tb3 (mlW c48) (xLay, I, L, R)) (h : ∀ J : sm_I, en_mem ml_tb3 (mlW c48) (xLay, J, L, R) → ml_pS ml_no I J → (¬ J 107 13 = 0 ∨ (I 107 11).toInt + 1 ≤ (J 107 11).toInt) → Φ (none, (xLay, J, L, kM R))) : sm_wp sm_P S (d + 1) 136 0 [.ref 107] [] (xLay, I, L, kM R) (0, 0) Φ := by
  have bt : 0 ≤ (I 107 11).toInt ∧ (I 107 11).toInt ≤ 500 := ml_tWq hm
  refine u_X12_goesOn_0 ⟨fun _ => mx_failWq (by decide) (by decide) hm (fun J mJ pJ fJ => ⟨J, L, R, rfl, h J mJ pJ (Or.inl fJ)⟩), fun a I1 e1 => ?_⟩
  have a' : (I 107 11).toInt ≠ 500 := fun c => a (en_ofI (by rw [c]; decide))
  have s := ml_in1 (x := I 107 11) (by omega)
  have g : (I1 107 11).toInt = (I 107 11).toInt + 1 := by rw [e1, en_up_eq]; exact s
  refine h I1 ?_ ⟨fun p j _ hp => ?_, fun c => ?_, fun c => ?_, by omega⟩ (Or.inr (by omega))
  · rw [e1]
    exact ml_wfWq hm (by decide +kernel) (q := (0, 500)) (by decide +kernel) (by show 0 ≤ _ ∧ _ ≤ (500 : Int); omega)
  · rw [e1, en_up_ne _ _ _ _ (by omega)]
  · rw [e1, en_up_ne _ _ _ _ (by omega)]; exact c
  · rw [e1, en_up_ne _ _ _ _ (by omega)]; exact c
theorem mx_mustWq {S : sm_C} {d : Nat} {Φ : sm_Z → Prop} {I : sm_I} {L : sm_L} {R : sm_R} {x : Int32} (hm : en_mem ml_tb3 (mlW c48) (xLay, I, L, R)) (h : ∀ J : sm_I, en_mem ml_tb3 (mlW c48) (xLay, J, L, R) → ml_pS ml_no I J → Φ (none, (xLay, J, L, kM R))) : sm_wp sm_P S (d + 2) 165 0 [.ref 107, .int x] [] (xLay, I, L, kM R) (0, 0) Φ := u_X12_must_0 (mx_isWq hm (fun r _ _ => ⟨r, I, L, R, rfl, fun _ => mx_failWq (by decide) (by decide) hm (fun J mJ pJ _ => ⟨J, L, R, rfl, h J mJ pJ⟩), fun _ => mx_goesOnWq hm (fun J mJ pJ _ => ⟨J, L, R, rfl, h J mJ pJ⟩)⟩))
theorem ml_nmWq {I : sm_I} {L : sm_L} {R : sm_R} (hm : en_mem ml_tb3 (mlW c48) (xLay, I, L, R)) : 0 ≤ (I 107 20).toInt ∧ (I 107 20).toInt ≤ 50 := hm.2.1 107 20 (0, 50) (by decide +kernel)
theorem mx_named1Wq {S : sm_C} {d : Nat} {Φ : sm_Z → Prop} {L : sm_L} {R : sm_R} {x1 : Int32} (k0 : 0 ≤ x1.toInt) (k1 : x1.toInt ≤ 500) (I0 : sm_I) (h : ∀ J : sm_I, en_mem ml_tb3 (mlW c48) (xLay, J, L, R) → ml_pS ml_no I0 J → Φ (some (.int x1), (xLay, J, L, kM R))) : ∀ (m : Nat) (I : sm_I) (x2 : Int32), en_mem ml_tb3 (mlW c48) (xLay, I, L, R) → ml_pS ml_no I0 I → 0 ≤ x2.toInt → (I 107 20).toInt - x2.toInt ≤ m → sm_wp sm_P S (d + 2) 166 1 [.ref 107, .int x1, .int x2] [] (xLay, I, L, kM R) (0, 0) Φ := by
  intro m
  induction m with
  | zero =>
    intro I x2 hm hp h0 hM
    refine u_X12_named_1 ⟨fun _ => h I hm hp, fun a => ?_⟩
    have := kl_nle a
    omega
  | succ m ih =>
    intro I x2 hm hp h0 hM
    have bn := ml_nmWq hm
    refine u_X12_named_1 ⟨fun _ => h I hm hp, fun a => ⟨fun _ => ?_, fun _ => h I hm hp⟩⟩
    have a := kl_nle a
    have s := ml_in1 (x := x2) (by omega)
    refine ⟨kl_in h0 (by omega), kl_in k0 (by omega), fun _ => ?_, fun _ => ih I _ hm hp (by omega) (by omega)⟩
    refine mx_wrongWq (by decide) (by decide) k0 (by omega) hm (fun J mJ pJ _ => ⟨J, L, R, rfl, ih J _ mJ (ml_pS_tr hp pJ) (by omega) ?_⟩)
    rw [ml_pS_g pJ (by omega)]
    omega
theorem mx_namedWq {S : sm_C} {d : Nat} {Φ : sm_Z → Prop} {I : sm_I} {L : sm_L} {R : sm_R} (hm : en_mem ml_tb3 (mlW c48) (xLay, I, L, R)) (h : ∀ (r : Int32) (J : sm_I), 0 ≤ r.toInt → r.toInt ≤ 500 → en_mem ml_tb3 (mlW c48) (xLay, J, L, R) → ml_pS ml_no I J → Φ (some (.int r), (xLay, J, L, kM R))) : sm_wp sm_P S (d + 3) 166 0 [.ref 107] [] (xLay, I, L, kM R) (0, 0) Φ := by
  have bt : 0 ≤ (I 107 11).toInt ∧ (I 107 11).toInt ≤ 500 := ml_tWq hm
  refine u_X12_named_0 (mx_mustWq hm (fun J mJ pJ => ⟨J, L, R, rfl, ?_⟩))
  have bn := ml_nmWq mJ
  exact mx_named1Wq bt.1 bt.2 I (fun K mK pK => h _ K bt.1 bt.2 mK pK) 50 J 0 mJ pJ (by decide) (by rw [kl_0]; omega)
theorem mx_known3Wq {S : sm_C} {d : Nat} {Φ : sm_Z → Prop} {I : sm_I} {L : sm_L} {R : sm_R} {x1 x2 : Int32} (k0 : 0 ≤ x2.toInt) (k1 : x2.toInt ≤ 500) (hm : en_mem ml_tb3 (mlW c48) (xLay, I, L, R)) (hf : I 107 13 = 0) (h : ∀ (r : Int32) (J : sm_I), en_mem ml_tb3 (mlW c48) (xLay, J, L, R) → ml_pS ml_no I J → -1 ≤ r.toInt → r.toInt ≤ 9 → (x1.toInt = 0 → r.toInt ≤ 3) → (x1.toInt = 1 → r.toInt ≤ 5) → (r.toInt = -1 → ¬ J 107 15 = 0) → Φ (some (.int r), (xLay, J, L, kM R))) : ∀ (m : Nat) (x3 x4 : Int32), -1 ≤ x3.toInt → x3.toInt ≤ 9 → (x1.toInt = 0 → x3.toInt ≤ 3) → (x1.toInt = 1 → x3.toInt ≤ 5) → 0 ≤ x4.toInt → (I 107 20).toInt - x4.toInt ≤ m → sm_wp sm_P S (d + 1) 154 3 [.ref 107, .int x1, .int x2, .int x3, .int x4] [] (xLay, I, L, kM R) (0, 0) Φ := by
  have bn := ml_nmWq hm
  have done : ∀ x3 : Int32, -1 ≤ x3.toInt → x3.toInt ≤ 9 → (x1.toInt = 0 → x3.toInt ≤ 3) → (x1.toInt = 1 → x3.toInt ≤ 5) → ((x3 = (-1 : Int32) → sm_wp sm_P S d 213 0 [.ref 107, .int (4 : Int32), .int x2] [] (xLay, I, L, (kM R)) (0, 0) (fun z => ∃ (I1 : sm_I) (L2 : sm_L) (R3 : sm_R), z = (none, (xLay, I1, L2, (kM R3))) ∧ Φ (some (.int x3), (xLay, I1, L2, (kM R3))))) ∧ (¬ x3 = (-1 : Int32) → Φ (some (.int x3), (xLay, I, L, (kM R))))) := fun x3 a1 a2 a3 a4 => ⟨fun _ => mx_wrongWq (by decide) (by decide) k0 (by omega) hm (fun J mJ pJ wJ => ⟨J, L, R, rfl, h x3 J mJ pJ a1 a2 a3 a4 (fun _ => wJ hf)⟩), fun c => h x3 I hm ml_pS_rf a1 a2 a3 a4 (fun q => absurd q (ml_m1 c))⟩
  intro m
  induction m with
  | zero =>
    intro x3 x4 a1 a2 a3 a4 h0 hM
    refine u_X12_known_3 ⟨fun _ => done x3 a1 a2 a3 a4, fun a => ?_⟩
    have := kl_nle a
    omega
  | succ m ih =>
    intro x3 x4 a1 a2 a3 a4 h0 hM
    refine u_X12_known_3 ⟨fun _ => done x3 a1 a2 a3 a4, fun a => ?_⟩
    have a := kl_nle a
    have s := ml_in1 (x := x4) (by omega)
    have n4 := kl_nat h0
    have v : vp_in x4 50 := kl_in h0 (by omega)
    have same : sm_wp sm_P S (d + 1) 154 3 [.ref 107, .int x1, .int x2, .int x3, .int (x4 + 1)] [] (xLay, I, L, kM R) (0, 0) Φ := ih x3 _ a1 a2 a3 a4 (by omega) (by omega)
    refine ⟨fun _ => ⟨v, kl_in k0 (by omega), fun _ => ⟨v, fun e => ⟨v, ?_⟩, fun _ => same⟩, fun _ => same⟩, fun _ => same⟩
    have bw : 0 ≤ (I 117 x4.toNatClampNeg).toInt ∧ (I 117 x4.toNatClampNeg).toInt ≤ 9 := ml_rowWq hm (p := 117) (n := 50) (q := (0, 9)) (fun _ => rfl) _ (by omega)
    have N := hm.2.2.2.2.2.2.2.2.1 x4.toNatClampNeg (by omega)
    have N : ((I 116 x4.toNatClampNeg).toInt = 0 → (I 117 x4.toNatClampNeg).toInt ≤ 3) ∧ ((I 116 x4.toNatClampNeg).toInt = 1 → (I 117 x4.toNatClampNeg).toInt ≤ 5) := N
    rw [e] at N
    exact ih _ _ (by omega) bw.2 N.1 N.2 (by omega) (by omega)
theorem mx_knownWq {S : sm_C} {d : Nat} {Φ : sm_Z → Prop} {I : sm_I} {L : sm_L} {R : sm_R} {x1 : Int32} (hm : en_mem ml_tb3 (mlW c48) (xLay, I, L, R)) (h : ∀ (r : Int32) (J : sm_I), en_mem ml_tb3 (mlW c48) (xLay, J, L, R) → ml_pS ml_no I J → -1 ≤ r.toInt → r.toInt ≤ 9 → (x1.toInt = 0 → r.toInt ≤ 3) → (x1.toInt = 1 → r.toInt ≤ 5) → (r.toInt = -1 → ¬ J 107 15 = 0) → Φ (some (.int r), (xLay, J, L, kM R))) : sm_wp sm_P S (d + 3) 154 0 [.ref 107, .int x1] [] (xLay, I, L, kM R) (0, 0) Φ := by
  have bt : 0 ≤ (I 107 11).toInt ∧ (I 107 11).toInt ≤ 500 := ml_tWq hm
  have z : (0 : Int32).toInt = 0 := kl_0
  refine u_X12_known_0 (mx_mustWq hm (fun J mJ pJ => ⟨J, L, R, rfl, fun a => ?_, fun _ => h _ J mJ pJ (by decide) (by decide) (fun _ => by decide) (fun _ => by decide) (fun c => absurd c (by decide))⟩))
  have bn := ml_nmWq mJ
  exact mx_known3Wq bt.1 bt.2 mJ (ml_f0Wq mJ a) (fun r K mK pK b1 b2 b3 b4 b5 => h r K mK (ml_pS_tr pJ pK) b1 b2 b3 b4 b5) 50 _ 0 (by decide) (by decide) (fun _ => by decide) (fun _ => by decide) (by decide) (by rw [kl_0]; omega)
theorem mx_number7Wq {S : sm_C} {d : Nat} {Φ : sm_Z → Prop} {I : sm_I} {L : sm_L} {R : sm_R} {x2 : Int32} (hm : en_mem ml_tb3 (mlW c48) (xLay, I, L, R)) (h : ∀ (r : Int32) (J : sm_I), en_mem ml_tb3 (mlW c48) (xLay, J, L, R) → ml_pS ml_no I J → Φ (some (.int r), (xLay, J, L, kM R))) : sm_wp sm_P S (d + 3) 169 7 [.ref 107, .int x2] [] (xLay, I, L, kM R) (0, 0) Φ := by
  have bt : 0 ≤ (I 107 11).toInt ∧ (I 107 11).toInt ≤ 500 := ml_tWq hm
  have go : ∀ s0 : Int32, sm_wp sm_P S (d + 3) 169 10 [.ref 107, .int x2, .int (I 107 11)] [.int s0] (xLay, I, L, kM R) (0, 0) Φ := fun s0 => u_X12_number_10 (mx_mustWq hm (fun J mJ pJ => ⟨J, L, R, rfl, fun _ => ⟨fun _ => u_X12_number_13 (h _ J mJ pJ), fun _ => mx_wrongWq (by decide) (by decide) bt.1 (by omega) mJ (fun K mK pK _ => ⟨K, L, R, rfl, u_X12_number_13 (h _ K mK (ml_pS_tr pJ pK))⟩)⟩, fun _ => u_X12_number_13 (h _ J mJ pJ)⟩))
  exact u_X12_number_7 (mx_isWq hm (fun r _ _ => ⟨r, I, L, R, rfl, fun _ => go _, fun _ => ⟨ml_vtWq hm, go _⟩⟩))
theorem mx_numberWq {S : sm_C} {d : Nat} {Φ : sm_Z → Prop} {I : sm_I} {L : sm_L} {R : sm_R} {x1 : Int32} (hm : en_mem ml_tb3 (mlW c48) (xLay, I, L, R)) (h : ∀ (r : Int32) (J : sm_I), en_mem ml_tb3 (mlW c48) (xLay, J, L, R) → ml_pS ml_no I J → Φ (some (.int r), (xLay, J, L, kM R))) : sm_wp sm_P S (d + 3) 169 0 [.ref 107, .int x1] [] (xLay, I, L, kM R) (0, 0) Φ := by
  have g : ∀ {x2 : Int32}, sm_wp sm_P S (d + 3) 169 7 [.ref 107, .int x2] [] (xLay, I, L, kM R) (0, 0) Φ := mx_number7Wq hm h
  have gJ : ∀ {x2 : Int32} (J : sm_I), en_mem ml_tb3 (mlW c48) (xLay, J, L, R) → ml_pS ml_no I J → sm_wp sm_P S (d + 3) 169 7 [.ref 107, .int x2] [] (xLay, J, L, kM R) (0, 0) Φ := fun J mJ pJ => mx_number7Wq mJ (fun r K mK pK => h r K mK (ml_pS_tr pJ pK))
  refine u_X12_number_0 ⟨fun _ => ⟨fun _ => g, fun _ => mx_isWq hm (fun r _ _ => ⟨r, I, L, R, rfl, fun _ => g, fun _ => mx_goesOnWq hm (fun J mJ pJ _ => ⟨J, L, R, rfl, gJ J mJ pJ⟩)⟩)⟩, fun _ => mx_isWq hm (fun r _ _ => ⟨r, I, L, R, rfl, fun _ => ⟨fun _ => g, fun _ => mx_isWq hm (fun r _ _ => ⟨r, I, L, R, rfl, fun _ => g, fun _ => mx_goesOnWq hm (fun J mJ pJ _ => ⟨J, L, R, rfl, gJ J mJ pJ⟩)⟩)⟩, fun _ => ⟨fun _ => g, fun _ => mx_isWq hm (fun r _ _ => ⟨r, I, L, R, rfl, fun _ => g, fun _ => mx_goesOnWq hm (fun J mJ pJ _ => ⟨J, L, R, rfl, gJ J mJ pJ⟩)⟩)⟩⟩)⟩
theorem mx_knowsWq {S : sm_C} {d : Nat} {Φ : sm_Z → Prop} {I : sm_I} {L : sm_L} {R : sm_R} {x1 x2 x3 : Int32} (k0 : 0 ≤ x1.toInt) (k1 : x1.toInt ≤ 500) (b2 : 0 ≤ x2.toInt ∧ x2.toInt ≤ 4) (b3 : 0 ≤ x3.toInt ∧ x3.toInt ≤ 9) (c0 : x2.toInt = 0 → x3.toInt ≤ 3) (c1 : x2.toInt = 1 → x3.toInt ≤ 5) (hn : (I 107 20).toInt ≤ 49) (hm : en_mem ml_tb3 (mlW c48) (xLay, I, L, R)) (h : ∀ (J : sm_I) (L' : sm_L), en_mem ml_tb3 (mlW c48) (xLay, J, L', R) → ml_pS (ml_kn (I 107 20).toNatClampNeg) I J → (J 107 20).toInt = (I 107 20).toInt + 1 → Φ (none, (xLay, J, L', kM R))) : sm_wp sm_P S d 155 0 [.ref 107, .int x1, .int x2, .int x3] [] (xLay, I, L, kM R) (0, 0) Φ := by
  have bn := ml_nmWq hm
  have nn := kl_nat bn.1
  have v : vp_in (I 107 20) 50 := kl_in bn.1 (by omega)
  refine u_X12_knows_0 ⟨kl_in k0 (by omega), v, fun L1 eL => ⟨v, fun I2 e2 => ?_⟩⟩
  have g2 : I2 107 20 = I 107 20 := by rw [e2, en_up_ne _ _ _ _ (by omega)]
  refine ⟨by rw [g2]; exact v, fun I3 e3 I4 e4 => ?_⟩
  rw [g2] at e3
  have g3 : I3 107 20 = I 107 20 := by rw [e3, en_up_ne _ _ _ _ (by omega), g2]
  rw [g3] at e4
  have s := ml_in1 (x := I 107 20) (by omega)
  have o3 : ∀ p j, ¬ ((p = 116 ∨ p = 117) ∧ j = (I 107 20).toNatClampNeg) → I3 p j = I p j := fun p j hp => by rw [e3, en_up_ne _ _ _ _ (by omega), e2, en_up_ne _ _ _ _ (by omega)]
  have e116 : I3 116 (I 107 20).toNatClampNeg = x2 := by rw [e3, en_up_ne _ _ _ _ (by omega), e2, en_up_eq]
  have e117 : I3 117 (I 107 20).toNatClampNeg = x3 := by rw [e3, en_up_eq]
  have m3 : en_mem ml_tb3 (mlW c48) (xLay, I3, L, R) := by
    refine ⟨hm.1, fun a b q hq => ?_, hm.2.2.1, hm.2.2.2.1, ?_⟩
    · show q.1 ≤ (I3 a b).toInt ∧ (I3 a b).toInt ≤ q.2
      by_cases c : (a = 116 ∨ a = 117) ∧ b = (I 107 20).toNatClampNeg
      · obtain ⟨c1 | c1, c2⟩ := c
        · subst c1; subst c2
          have e : en_int ml_tb3 116 (I 107 20).toNatClampNeg = bif Nat.blt (I 107 20).toNatClampNeg 50 then some (0, 4) else none := rfl
          rw [e, show Nat.blt (I 107 20).toNatClampNeg 50 = true from Nat.ble_eq_true_of_le (by omega)] at hq
          rw [← Option.some.inj hq, e116]; exact b2
        · subst c1; subst c2
          have e : en_int ml_tb3 117 (I 107 20).toNatClampNeg = bif Nat.blt (I 107 20).toNatClampNeg 50 then some (0, 9) else none := rfl
          rw [e, show Nat.blt (I 107 20).toNatClampNeg 50 = true from Nat.ble_eq_true_of_le (by omega)] at hq
          rw [← Option.some.inj hq, e117]; exact b3
      · rw [o3 a b c]; exact hm.2.1 a b q hq
    · have X := hm.2.2.2.2
      refine ⟨rfl, fun j hj => ?_, fun l hl => mlV_cg (I := I) (fun p hp j => o3 p j (by omega)) (X.2.2.1 l ?_), mlP_cg (fun j => o3 165 j (by omega)) X.2.2.2.1, fun j hj => ?_, X.2.2.2.2.2⟩
      · show (I3 148 j).toInt ≤ 54 ∨ 60 ≤ (I3 148 j).toInt
        rw [o3 148 j (by omega)]; exact X.2.1 j hj
      · have hl : (l : Int) = (I3 107 18).toInt := hl
        rw [o3 107 18 (by omega)] at hl; exact hl
      · show ((I3 116 j).toInt = 0 → (I3 117 j).toInt ≤ 3) ∧ ((I3 116 j).toInt = 1 → (I3 117 j).toInt ≤ 5)
        by_cases c : j = (I 107 20).toNatClampNeg
        · subst c; rw [e116, e117]; exact ⟨c0, c1⟩
        · rw [o3 116 j (by omega), o3 117 j (by omega)]; exact X.2.2.2.2.1 j hj
  have m4 : en_mem ml_tb3 (mlW c48) (xLay, I4, L, R) := by
    rw [e4]
    exact ml_wfWq m3 (by decide +kernel) (q := (0, 50)) (by decide +kernel) (by show 0 ≤ _ ∧ _ ≤ (50 : Int); omega)
  have m4' : en_mem ml_tb3 (mlW c48) (xLay, I4, L1, R) := ⟨m4.1, m4.2.1, m4.2.2.1, m4.2.2.2.1, m4.2.2.2.2.1, m4.2.2.2.2.2.1, m4.2.2.2.2.2.2.1, m4.2.2.2.2.2.2.2.1, m4.2.2.2.2.2.2.2.2.1, ⟨pk_cg (L := L) (L' := L1) (fun j => by rw [eL]; exact en_up_ne _ _ _ _ (by omega)) m4.2.2.2.2.2.2.2.2.2.1, fun j => by show L1 48 j = c48 j; rw [eL, en_up_ne _ _ _ _ (by omega)]; exact m4.2.2.2.2.2.2.2.2.2.2 j⟩⟩
  refine h I4 L1 m4' ⟨fun p j hp _ => ?_, ?_, ?_, ?_⟩ (by rw [e4, en_up_eq]; exact s)
  · unfold ml_kn at hp
    rw [e4, en_up_ne _ _ _ _ (by omega), o3 p j (by omega)]
  · rw [e4, en_up_ne _ _ _ _ (by omega), o3 107 15 (by omega)]; exact id
  · rw [e4, en_up_ne _ _ _ _ (by omega), o3 107 13 (by omega)]; exact id
  · rw [e4, en_up_ne _ _ _ _ (by omega), o3 107 11 (by omega)]; exact Int.le_refl _
theorem mlV_hlWq {I J : sm_I} {L : sm_L} {R : sm_R} {l : Nat} (hl : l ≤ 1) (hm : en_mem ml_tb3 (mlW c48) (xLay, I, L, R)) (h : ∀ p j, ml_hl l p j → J p j = I p j) (hV : mlV I l) : mlV J l := by
  have b122 : 0 ≤ (I 122 l).toInt ∧ (I 122 l).toInt ≤ 10 := ml_rowWq hm (p := 122) (n := 2) (q := (0, 10)) (fun _ => rfl) _ (by omega)
  have b125 : 0 ≤ (I 125 l).toInt ∧ (I 125 l).toInt ≤ 10 := ml_rowWq hm (p := 125) (n := 2) (q := (0, 10)) (fun _ => rfl) _ (by omega)
  have b128 : ∀ s : Nat, (s : Int) < (I 125 l).toInt → 0 ≤ (I 128 (10 * l + s)).toInt ∧ (I 128 (10 * l + s)).toInt ≤ 4 := fun s hs => ml_rowWq hm (p := 128) (n := 20) (q := (0, 4)) (fun _ => rfl) _ (by omega)
  have b129 : ∀ s c : Nat, (s : Int) < (I 125 l).toInt → (c : Int) < (I 128 (10 * l + s)).toInt → 0 ≤ (I 129 (4 * (10 * l + s) + c)).toInt ∧ (I 129 (4 * (10 * l + s) + c)).toInt ≤ 3 := fun s c hs hc => ml_rowWq hm (p := 129) (n := 80) (q := (0, 3)) (fun _ => rfl) _ (by have := b128 s hs; omega)
  refine mlV_dom (h 122 l (Or.inl ⟨Or.inl rfl, rfl⟩)) (h 125 l (Or.inl ⟨Or.inr rfl, rfl⟩)) (fun i hi => ⟨h 123 _ (Or.inr (Or.inl ⟨Or.inl rfl, by omega⟩)), h 124 _ (Or.inr (Or.inl ⟨Or.inr (Or.inl rfl), by omega⟩))⟩) (fun s hs => h 128 _ (Or.inr (Or.inl ⟨Or.inr (Or.inr rfl), by omega⟩))) (fun s c hs hc => h 129 _ (Or.inr (Or.inr (Or.inl ⟨rfl, by have := b128 s hs; omega⟩)))) (fun s c i hs hc hi => h 130 _ (Or.inr (Or.inr (Or.inr ⟨rfl, by have := b128 s hs; have := b129 s c hs hc; omega⟩)))) hV
theorem ml_wtWq {I : sm_I} {L : sm_L} {R : sm_R} {l p j : Nat} {x : Int32} (hl : l ≤ 1) (hv : (I 107 18).toInt = l) (hD : 116 ≤ p ∧ p ≤ 136 ∧ ¬ ml_hl l p j) (hp : p ≠ 116 ∧ p ≠ 117) (hm : en_mem ml_tb3 (mlW c48) (xLay, I, L, R)) (hq : ∀ q, en_int ml_tb3 p j = some q → q.1 ≤ x.toInt ∧ x.toInt ≤ q.2) : en_mem ml_tb3 (mlW c48) (xLay, sm_up I p j x, L, R) := by
  refine ml_wrWq hm ?_ hq
  have X := hm.2.2.2.2
  refine ⟨rfl, fun k hk => ?_, fun k hk => ?_, mlP_cg (fun k => en_up_ne _ _ _ _ (by omega)) X.2.2.2.1, mlN_cg (fun k => en_up_ne _ _ _ _ (by omega)) (fun k => en_up_ne _ _ _ _ (by omega)) X.2.2.2.2.1, X.2.2.2.2.2⟩
  · show ((sm_up I p j x) 148 k).toInt ≤ 54 ∨ 60 ≤ ((sm_up I p j x) 148 k).toInt
    rw [en_up_ne _ _ _ _ (by omega)]; exact X.2.1 k hk
  · have hk : (k : Int) = ((sm_up I p j x) 107 18).toInt := hk
    rw [en_up_ne _ _ _ _ (by omega), hv] at hk
    have hk : k = l := by omega
    subst hk
    exact mlV_hlWq hl hm (fun a b hab => en_up_ne _ _ _ _ (fun c => hD.2.2 (by rw [← c.1, ← c.2]; exact hab))) (X.2.2.1 k hv.symm)
theorem ml_rqWq {p j n : Nat} {x : Int32} {q : Int × Int} (e : en_int ml_tb3 p j = bif Nat.blt j n then some q else none) (hx : q.1 ≤ x.toInt ∧ x.toInt ≤ q.2) : ∀ r, en_int ml_tb3 p j = some r → r.1 ≤ x.toInt ∧ x.toInt ≤ r.2 := by
  intro r hr
  rw [e] at hr
  cases c : Nat.blt j n with
  | true => rw [c] at hr; rw [← Option.some.inj hr]; exact hx
  | false => rw [c] at hr; cases hr
theorem ml_TI_0Wq {l s : Nat} {I J : sm_I} {L : sm_L} {R : sm_R} (hls : ml_ls l s) (hm : en_mem ml_tb3 (mlW c48) (xLay, I, L, R)) (h : ml_pS (ml_D0 l) I J) (hT : ml_TI l s I) : ml_TI l s J := by
  have hs : s ≤ 1 := by unfold ml_ls at hls; omega
  have o : ∀ p j, ¬ ml_D0 l p j → ¬ (p = 107 ∧ (j = 11 ∨ j = 13 ∨ j = 14 ∨ j = 15 ∨ j = 16)) → J p j = I p j := h.1
  unfold ml_D0 ml_hm at o
  refine ⟨?_, ?_, ?_, fun c => ?_⟩
  · rw [o 107 18 (by omega) (by omega)]; exact hT.1
  · rw [o 107 19 (by omega) (by omega)]; exact hT.2.1
  · unfold ml_sum
    rw [o 107 20 (by omega) (by omega), o 118 s (by omega) (by omega), o 119 s (by omega) (by omega), o 122 s (by omega) (by omega), o 125 s (by omega) (by omega), o 136 s (by omega) (by omega)]
    exact hT.2.2.1
  · have c' : I 107 15 = 0 := by
      by_cases c2 : I 107 15 = 0
      · exact c2
      · exact absurd c (h.2.1 c2)
    refine mlV_hlWq hs hm (fun p j hp => o p j ?_ ?_) (hT.2.2.2 c')
    · unfold ml_hl at hp; omega
    · unfold ml_hl at hp; omega
theorem ml_TI_noWq {l s : Nat} {I J : sm_I} {L : sm_L} {R : sm_R} (hls : ml_ls l s) (hm : en_mem ml_tb3 (mlW c48) (xLay, I, L, R)) (h : ml_pS ml_no I J) (hT : ml_TI l s I) : ml_TI l s J := ml_TI_0Wq hls hm (ml_pS_no h) hT
def ml_okWq (l s : Nat) (R : sm_R) (I J : sm_I) (L : sm_L) : Prop := en_mem ml_tb3 (mlW c48) (xLay, J, L, R) ∧ ml_pS (ml_Dl l) I J ∧ ml_TI l s J ∧ ml_pg I J
theorem ml_csWq {I : sm_I} {L : sm_L} {R : sm_R} {s : Nat} (hs : s ≤ 1) (hm : en_mem ml_tb3 (mlW c48) (xLay, I, L, R)) : (0 ≤ (I 118 s).toInt ∧ (I 118 s).toInt ≤ 4) ∧ (0 ≤ (I 119 s).toInt ∧ (I 119 s).toInt ≤ 6) ∧ (0 ≤ (I 122 s).toInt ∧ (I 122 s).toInt ≤ 10) ∧ (0 ≤ (I 125 s).toInt ∧ (I 125 s).toInt ≤ 10) ∧ (0 ≤ (I 136 s).toInt ∧ (I 136 s).toInt ≤ 5) := ⟨ml_rowWq hm (p := 118) (n := 2) (q := (0, 4)) (fun _ => rfl) _ (by omega), ml_rowWq hm (p := 119) (n := 2) (q := (0, 6)) (fun _ => rfl) _ (by omega), ml_rowWq hm (p := 122) (n := 2) (q := (0, 10)) (fun _ => rfl) _ (by omega), ml_rowWq hm (p := 125) (n := 2) (q := (0, 10)) (fun _ => rfl) _ (by omega), ml_rowWq hm (p := 136) (n := 2) (q := (0, 5)) (fun _ => rfl) _ (by omega)⟩
theorem ml_nm49Wq {I : sm_I} {L : sm_L} {R : sm_R} {l s : Nat} (hls : ml_ls l s) (hT : ml_TI l s I) (hm : en_mem ml_tb3 (mlW c48) (xLay, I, L, R)) : (I 107 20).toInt ≤ 49 := by
  have hs : s ≤ 1 := by unfold ml_ls at hls; omega
  have b := ml_csWq hs hm
  have h := hT.2.2.1
  unfold ml_sum at h
  omega
theorem ml_doneWq {l s p : Nat} {I J3 K J : sm_I} {L L' : sm_L} {R : sm_R} {n : Int32} {mx : Int} (hls : ml_ls l s) (m3 : en_mem ml_tb3 (mlW c48) (xLay, J3, L, R)) (T3 : ml_TI l s J3) (p3 : ml_pS (ml_Dl l) I J3) (g3 : ml_pg I J3) (mK : en_mem ml_tb3 (mlW c48) (xLay, K, L', R)) (pK : ml_pS (ml_kn (J3 107 20).toNatClampNeg) J3 K) (nK : (K 107 20).toInt = (J3 107 20).toInt + 1) (hp : p = 118 ∨ p = 119 ∨ p = 122 ∨ p = 125 ∨ p = 136) (en : en_int ml_tb3 p s = some (0, mx)) (hn : n = K p s + 1) (h0 : 0 ≤ (J3 p s).toInt) (hb : (J3 p s).toInt + 1 ≤ mx) (hmx : mx ≤ 10) (e : J = sm_up K p s n) (hV : J 107 15 = 0 → mlV J s) : ml_okWq (c48 := c48) l s R I J L' := by
  have oK : ∀ a b, ¬ ml_kn (J3 107 20).toNatClampNeg a b → ¬ (a = 107 ∧ (b = 11 ∨ b = 13 ∨ b = 14 ∨ b = 15 ∨ b = 16)) → K a b = J3 a b := pK.1
  unfold ml_kn at oK
  unfold ml_ls at hls
  have sK : K p s = J3 p s := oK p s (by omega) (by omega)
  have nn : n.toInt = (J3 p s).toInt + 1 := by rw [hn, sK]; exact ml_in1 (by omega)
  have hD : 116 ≤ p ∧ p ≤ 136 ∧ ¬ ml_hl l p s := by
    refine ⟨by omega, by omega, fun c => ?_⟩
    unfold ml_hl at c
    omega
  have pJ : ml_pS (ml_Dl l) J3 J := by
    refine ml_pS_tr (J := K) (ml_pS_mo pK (fun a b c => ?_)) (by rw [e]; exact ml_pS_up (Or.inr ⟨hD.1, hD.2.1, hD.2.2, fun c => by unfold ml_hm at c; omega⟩) (by omega))
    unfold ml_kn at c
    unfold ml_Dl ml_hl ml_hm
    omega
  refine ⟨?_, ml_pS_tr p3 pJ, ⟨?_, ?_, ?_, hV⟩, ml_pg_tr g3 pJ⟩
  · rw [e]
    refine ml_wtWq (l := l) (by omega) (by rw [oK 107 18 (by omega) (by omega)]; exact T3.1) hD (by omega) mK (fun q hq => ?_)
    rw [en] at hq
    rw [← Option.some.inj hq]
    show 0 ≤ n.toInt ∧ n.toInt ≤ mx
    omega
  · rw [e, en_up_ne _ _ _ _ (by omega), oK 107 18 (by omega) (by omega)]; exact T3.1
  · rw [e, en_up_ne _ _ _ _ (by omega), oK 107 19 (by omega) (by omega)]; exact T3.2.1
  · have t := T3.2.2.1
    have f : ∀ a, (a = 118 ∨ a = 119 ∨ a = 122 ∨ a = 125 ∨ a = 136) → (J a s).toInt = (J3 a s).toInt + (if a = p then 1 else 0) := by
      intro a ha
      by_cases c : a = p
      · subst c; rw [e, en_up_eq, if_pos rfl]; exact nn
      · rw [e, en_up_ne _ _ _ _ (by omega), oK a s (by omega) (by omega), if_neg c]; omega
    unfold ml_sum at t ⊢
    rw [f 118 (by omega), f 119 (by omega), f 122 (by omega), f 125 (by omega), f 136 (by omega), e, en_up_ne _ _ _ _ (by omega), nK]
    rcases hp with c | c | c | c | c <;> subst c <;> simp <;> omega
theorem ml_V3Wq {l s p : Nat} {J3 K J : sm_I} {L : sm_L} {R : sm_R} {n : Int32} (hls : ml_ls l s) (m3 : en_mem ml_tb3 (mlW c48) (xLay, J3, L, R)) (T3 : ml_TI l s J3) (pK : ml_pS (ml_kn (J3 107 20).toNatClampNeg) J3 K) (hp : p = 118 ∨ p = 119 ∨ p = 136) (e : J = sm_up K p s n) (c : J 107 15 = 0) : mlV J s := by
  have oK : ∀ a b, ¬ ml_kn (J3 107 20).toNatClampNeg a b → ¬ (a = 107 ∧ (b = 11 ∨ b = 13 ∨ b = 14 ∨ b = 15 ∨ b = 16)) → K a b = J3 a b := pK.1
  unfold ml_kn at oK
  have hs : s ≤ 1 := by unfold ml_ls at hls; omega
  rw [e, en_up_ne _ _ _ _ (by omega)] at c
  have c' : J3 107 15 = 0 := by
    by_cases c2 : J3 107 15 = 0
    · exact c2
    · exact absurd c (pK.2.1 c2)
  refine mlV_hlWq hs m3 (fun a b hab => ?_) (T3.2.2.2 c')
  unfold ml_hl at hab
  rw [e, en_up_ne _ _ _ _ (by omega), oK a b (by omega) (by omega)]
theorem mx_tellNameWq {S : sm_C} {d : Nat} {Φ : sm_Z → Prop} {I : sm_I} {L : sm_L} {R : sm_R} {x1 : Int32} {l s : Nat} (hls : ml_ls l s) (hm : en_mem ml_tb3 (mlW c48) (xLay, I, L, R)) (hT : ml_TI l s I) (hx : (x1 = 0 ∧ (I 118 s).toInt ≤ 3) ∨ (x1 = 1 ∧ (I 119 s).toInt ≤ 5)) (h : ∀ (J : sm_I) (L' : sm_L), ml_okWq (c48 := c48) l s R I J L' → Φ (none, (xLay, J, L', kM R))) : sm_wp sm_P S (d + 4) 197 0 [.ref 107, .int x1] [] (xLay, I, L, kM R) (0, 0) Φ := by
  have hs : s ≤ 1 := by unfold ml_ls at hls; omega
  refine u_X12_tellName_0 (mx_goesOnWq hm (fun J1 m1 p1 g1 => ⟨J1, L, R, rfl, mx_namedWq m1 (fun r J2 r0 r1 m2 p2 => ⟨r, J2, L, R, rfl, mx_mustWq m2 (fun J3 m3 p3 => ⟨J3, L, R, rfl, fun a => ?_, fun _ => ?_⟩)⟩)⟩))
  all_goals
    have pI : ml_pS ml_no I J3 := ml_pS_tr p1 (ml_pS_tr p2 p3)
    have T3 : ml_TI l s J3 := ml_TI_noWq hls hm pI hT
    have g3 : ml_pg I J3 := ml_pg_tr g1 (ml_pS_tr p2 p3)
  · obtain ⟨sn, sv⟩ := ml_sn hls T3
    have b3 := ml_csWq hs m3
    have e118 : J3 118 s = I 118 s := ml_pS_g pI (by omega)
    have e119 : J3 119 s = I 119 s := ml_pS_g pI (by omega)
    have t0 : (0 : Int32).toInt = 0 := by decide
    have t1 : (1 : Int32).toInt = 1 := by decide
    rcases hx with ⟨ex, hx⟩ | ⟨ex, hx⟩
    · subst ex
      refine ⟨fun _ => ⟨sv, fun n24 e24 => ?_⟩, fun c => absurd rfl c⟩
      rw [sn] at e24
      refine mx_knowsWq r0 r1 (by decide) (by rw [e24]; omega) (fun _ => by rw [e24, e118]; omega) (fun c => absurd c (by decide)) (ml_nm49Wq hls T3 m3) m3 (fun K L' mK pK nK => ⟨K, L', R, rfl, fun _ => ?_, fun c => absurd rfl c⟩)
      have k19 : K 107 19 = J3 107 19 := pK.1 107 19 (by unfold ml_kn; omega) (by omega)
      rw [k19]
      refine ⟨sv, fun n31 e31 => ⟨sv, fun J e => h J L' ?_⟩⟩
      rw [sn] at e31 e
      exact ml_doneWq hls m3 T3 (ml_pS_no pI) g3 mK pK nK (Or.inl rfl) (mx := 4) (by unfold ml_ls at hls; rcases hls with ⟨-, c⟩ | ⟨-, c⟩ <;> subst c <;> rfl) e31 b3.1.1 (by rw [e118]; omega) (by omega) e (ml_V3Wq hls m3 T3 pK (Or.inl rfl) e)
    · subst ex
      refine ⟨fun c => absurd c (by decide), fun _ => ⟨sv, fun n24 e24 => ?_⟩⟩
      rw [sn] at e24
      refine mx_knowsWq r0 r1 (by decide) (by rw [e24]; omega) (fun c => absurd c (by decide)) (fun _ => by rw [e24, e119]; omega) (ml_nm49Wq hls T3 m3) m3 (fun K L' mK pK nK => ⟨K, L', R, rfl, fun c => absurd c (by decide), fun _ => ?_⟩)
      have k19 : K 107 19 = J3 107 19 := pK.1 107 19 (by unfold ml_kn; omega) (by omega)
      rw [k19]
      refine ⟨sv, fun n31 e31 => ⟨sv, fun J e => h J L' ?_⟩⟩
      rw [sn] at e31 e
      exact ml_doneWq hls m3 T3 (ml_pS_no pI) g3 mK pK nK (Or.inr (Or.inl rfl)) (mx := 6) (by unfold ml_ls at hls; rcases hls with ⟨-, c⟩ | ⟨-, c⟩ <;> subst c <;> rfl) e31 b3.2.1.1 (by rw [e119]; omega) (by omega) e (ml_V3Wq hls m3 T3 pK (Or.inr (Or.inl rfl)) e)
  · exact h J3 L ⟨m3, ml_pS_no pI, T3, g3⟩
end
