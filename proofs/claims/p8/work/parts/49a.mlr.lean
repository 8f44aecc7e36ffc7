/-! the reference's parser: what reads on -/
def ml_pS (D : Nat → Nat → Prop) (I J : sm_I) : Prop := (∀ p j, ¬ D p j → ¬ (p = 107 ∧ (j = 11 ∨ j = 13 ∨ j = 14 ∨ j = 15 ∨ j = 16)) → J p j = I p j) ∧ (¬ I 107 15 = 0 → ¬ J 107 15 = 0) ∧ (¬ I 107 13 = 0 → ¬ J 107 13 = 0) ∧ (I 107 11).toInt ≤ (J 107 11).toInt
def ml_no (_ _ : Nat) : Prop := False
theorem ml_pS_rf {D : Nat → Nat → Prop} {I : sm_I} : ml_pS D I I := ⟨fun _ _ _ _ => rfl, id, id, Int.le_refl _⟩
theorem ml_pS_tr {D : Nat → Nat → Prop} {I J K : sm_I} (h : ml_pS D I J) (g : ml_pS D J K) : ml_pS D I K := ⟨fun p j a b => (g.1 p j a b).trans (h.1 p j a b), fun a => g.2.1 (h.2.1 a), fun a => g.2.2.1 (h.2.2.1 a), Int.le_trans h.2.2.2 g.2.2.2⟩
theorem ml_pS_mo {D D' : Nat → Nat → Prop} {I J : sm_I} (h : ml_pS D I J) (m : ∀ p j, D p j → D' p j) : ml_pS D' I J := ⟨fun p j a b => h.1 p j (fun c => a (m p j c)) b, h.2⟩
theorem ml_pS_no {D : Nat → Nat → Prop} {I J : sm_I} (h : ml_pS ml_no I J) : ml_pS D I J := ml_pS_mo h (fun _ _ c => c.elim)
theorem ml_pS_g {I J : sm_I} (h : ml_pS ml_no I J) {p j : Nat} (hp : ¬ (p = 107 ∧ (j = 11 ∨ j = 13 ∨ j = 14 ∨ j = 15 ∨ j = 16))) : J p j = I p j := h.1 p j id hp
theorem ml_pS_up {D : Nat → Nat → Prop} {I : sm_I} {p j : Nat} {x : Int32} (hD : D p j) (h11 : ¬ (p = 107 ∧ (j = 11 ∨ j = 13 ∨ j = 15))) : ml_pS D I (sm_up I p j x) := by
  refine ⟨fun a b h _ => en_up_ne _ _ _ _ (fun c => h (by rw [c.1, c.2]; exact hD)), ?_, ?_, ?_⟩
  · rw [en_up_ne _ _ _ _ (by omega)]; exact id
  · rw [en_up_ne _ _ _ _ (by omega)]; exact id
  · rw [en_up_ne _ _ _ _ (by omega)]; exact Int.le_refl _
theorem ml_t {w : sm_W} (hm : en_mem ml_tb mlX w) : 0 ≤ (w.2.1 107 11).toInt ∧ (w.2.1 107 11).toInt ≤ 500 := hm.2.1 107 11 (0, 500) (by decide +kernel)
theorem ml_vt {I : sm_I} {L : sm_L} {R : sm_R} (hm : en_mem ml_tb mlX (xLay, I, L, R)) : vp_in (I 107 11) 503 := by
  have b : 0 ≤ (I 107 11).toInt ∧ (I 107 11).toInt ≤ 500 := ml_t hm
  exact kl_in b.1 (by omega)
theorem ml_ft {I : sm_I} {L : sm_L} {R : sm_R} (hm : en_mem ml_tb mlX (xLay, I, L, R)) : 0 ≤ (I 107 13).toInt ∧ (I 107 13).toInt ≤ 5 := hm.2.1 107 13 (0, 5) (by decide +kernel)
theorem ml_f0 {I : sm_I} {L : sm_L} {R : sm_R} (hm : en_mem ml_tb mlX (xLay, I, L, R)) (h : I 107 13 ≤ 0) : I 107 13 = 0 := by
  have b := ml_ft hm
  have h := kl_le.mp h
  rw [kl_0] at h
  exact en_ofI (by rw [kl_0]; omega)
theorem mx_is {S : sm_C} {d : Nat} {Φ : sm_Z → Prop} {I : sm_I} {L : sm_L} {R : sm_R} {x : Int32} (hm : en_mem ml_tb mlX (xLay, I, L, R)) (h : ∀ r : Int32, (r = 0 ∨ r = 1) → (¬ r = 0 → I 107 13 = 0) → Φ (some (.int r), (xLay, I, L, kM R))) : sm_wp sm_P S d 143 0 [.ref 107, .int x] [] (xLay, I, L, kM R) (0, 0) Φ := u_X12_is_0 ⟨fun a => ⟨ml_vt hm, fun _ => h 1 (Or.inr rfl) (fun _ => a), fun _ => h 0 (Or.inl rfl) (fun c => absurd rfl c)⟩, fun _ => h 0 (Or.inl rfl) (fun c => absurd rfl c)⟩
theorem mx_fail {S : sm_C} {d : Nat} {Φ : sm_Z → Prop} {I : sm_I} {L : sm_L} {R : sm_R} {x : Int32} (h1 : 1 ≤ x.toInt) (h5 : x.toInt ≤ 5) (hm : en_mem ml_tb mlX (xLay, I, L, R)) (h : ∀ J : sm_I, en_mem ml_tb mlX (xLay, J, L, R) → ml_pS ml_no I J → ¬ J 107 13 = 0 → Φ (none, (xLay, J, L, kM R))) : sm_wp sm_P S d 123 0 [.ref 107, .int x] [] (xLay, I, L, kM R) (0, 0) Φ := by
  have bt : 0 ≤ (I 107 11).toInt ∧ (I 107 11).toInt ≤ 500 := ml_t hm
  have nt := kl_nat bt.1
  have g11 : (sm_up I 107 13 x) 107 11 = I 107 11 := en_up_ne _ _ _ _ (by omega)
  have m1 : en_mem ml_tb mlX (xLay, sm_up I 107 13 x, L, R) := ml_wf hm (by decide +kernel) (q := (0, 5)) (by decide +kernel) (by show 0 ≤ _ ∧ _ ≤ (5 : Int); omega)
  refine u_X12_fail_0 ⟨fun a => ⟨by rw [g11]; exact ml_vt hm, fun n1 e1 I2 e2 => ?_⟩, fun a => h I hm ml_pS_rf (fun c => a (by rw [c]; decide))⟩
  rw [g11] at e1
  have bn : 0 ≤ n1.toInt ∧ n1.toInt ≤ 2000 := by rw [e1]; exact ml_row m1 (p := 111) (n := 503) (q := (0, 2000)) (fun _ => rfl) _ (by omega)
  have g13 : I2 107 13 = x := by rw [e2, en_up_ne _ _ _ _ (by omega), en_up_eq]
  have n13 : ¬ I2 107 13 = 0 := fun c => by rw [g13] at c; rw [c, kl_0] at h1; omega
  refine h I2 ?_ ⟨fun p j _ hp => ?_, fun c => ?_, fun _ => n13, ?_⟩ n13
  · rw [e2]
    exact ml_wf m1 (by decide +kernel) (q := (0, 2000)) (by decide +kernel) bn
  · rw [e2, en_up_ne _ _ _ _ (by omega), en_up_ne _ _ _ _ (by omega)]
  · rw [e2, en_up_ne _ _ _ _ (by omega), en_up_ne _ _ _ _ (by omega)]; exact c
  · rw [e2, en_up_ne _ _ _ _ (by omega), g11]; exact Int.le_refl _
theorem mx_wrong {S : sm_C} {d : Nat} {Φ : sm_Z → Prop} {I : sm_I} {L : sm_L} {R : sm_R} {x1 x2 : Int32} (h1 : 1 ≤ x1.toInt) (h5 : x1.toInt ≤ 5) (k0 : 0 ≤ x2.toInt) (k1 : x2.toInt ≤ 502) (hm : en_mem ml_tb mlX (xLay, I, L, R)) (h : ∀ J : sm_I, en_mem ml_tb mlX (xLay, J, L, R) → ml_pS ml_no I J → (I 107 13 = 0 → ¬ J 107 15 = 0) → Φ (none, (xLay, J, L, kM R))) : sm_wp sm_P S d 213 0 [.ref 107, .int x1, .int x2] [] (xLay, I, L, kM R) (0, 0) Φ := by
  have n2 := kl_nat k0
  have bp : 0 ≤ (I 111 x2.toNatClampNeg).toInt ∧ (I 111 x2.toNatClampNeg).toInt ≤ 2000 := ml_row hm (p := 111) (n := 503) (q := (0, 2000)) (fun _ => rfl) _ (by omega)
  have wr : ∀ J : sm_I, J = sm_up (sm_up I 107 15 x1) 107 16 (I 111 x2.toNatClampNeg) → Φ (none, (xLay, J, L, kM R)) := by
    intro J e
    have g15 : J 107 15 = x1 := by rw [e, en_up_ne _ _ _ _ (by omega), en_up_eq]
    have n15 : ¬ J 107 15 = 0 := fun c => by rw [g15] at c; rw [c, kl_0] at h1; omega
    refine h J ?_ ⟨fun p j _ hp => ?_, fun _ => n15, fun c => ?_, ?_⟩ (fun _ => n15)
    · rw [e]
      exact ml_wf (ml_wf hm (by decide +kernel) (q := (0, 5)) (by decide +kernel) (by show 0 ≤ _ ∧ _ ≤ (5 : Int); omega)) (by decide +kernel) (q := (0, 2000)) (by decide +kernel) bp
    · rw [e, en_up_ne _ _ _ _ (by omega), en_up_ne _ _ _ _ (by omega)]
    · rw [e, en_up_ne _ _ _ _ (by omega), en_up_ne _ _ _ _ (by omega)]; exact c
    · rw [e, en_up_ne _ _ _ _ (by omega), en_up_ne _ _ _ _ (by omega)]; exact Int.le_refl _
  refine u_X12_wrong_0 ⟨kl_in k0 (by omega), fun a => h I hm ml_pS_rf (fun c => ?_), fun _ => ⟨fun _ => wr, fun a => ⟨fun _ => h I hm ml_pS_rf (fun _ => a), fun _ => ⟨fun _ => ⟨fun _ => wr, fun _ => h I hm ml_pS_rf (fun _ => a)⟩, fun _ => wr⟩⟩⟩⟩
  rw [c] at a
  exact absurd a (by decide)
theorem mx_goesOn {S : sm_C} {d : Nat} {Φ : sm_Z → Prop} {I : sm_I} {L : sm_L} {R : sm_R} (hm : en_mem ml_tb mlX (xLay, I, L, R)) (h : ∀ J : sm_I, en_mem ml_tb mlX (xLay, J, L, R) → ml_pS ml_no I J → (¬ J 107 13 = 0 ∨ (I 107 11).toInt + 1 ≤ (J 107 11).toInt) → Φ (none, (xLay, J, L, kM R))) : sm_wp sm_P S (d + 1) 136 0 [.ref 107] [] (xLay, I, L, kM R) (0, 0) Φ := by
  have bt : 0 ≤ (I 107 11).toInt ∧ (I 107 11).toInt ≤ 500 := ml_t hm
  refine u_X12_goesOn_0 ⟨fun _ => mx_fail (by decide) (by decide) hm (fun J mJ pJ fJ => ⟨J, L, R, rfl, h J mJ pJ (Or.inl fJ)⟩), fun a I1 e1 => ?_⟩
  have a' : (I 107 11).toInt ≠ 500 := fun c => a (en_ofI (by rw [c]; decide))
  have s := ml_in1 (x := I 107 11) (by omega)
  have g : (I1 107 11).toInt = (I 107 11).toInt + 1 := by rw [e1, en_up_eq]; exact s
  refine h I1 ?_ ⟨fun p j _ hp => ?_, fun c => ?_, fun c => ?_, by omega⟩ (Or.inr (by omega))
  · rw [e1]
    exact ml_wf hm (by decide +kernel) (q := (0, 500)) (by decide +kernel) (by show 0 ≤ _ ∧ _ ≤ (500 : Int); omega)
  · rw [e1, en_up_ne _ _ _ _ (by omega)]
  · rw [e1, en_up_ne _ _ _ _ (by omega)]; exact c
  · rw [e1, en_up_ne _ _ _ _ (by omega)]; exact c
theorem mx_must {S : sm_C} {d : Nat} {Φ : sm_Z → Prop} {I : sm_I} {L : sm_L} {R : sm_R} {x : Int32} (hm : en_mem ml_tb mlX (xLay, I, L, R)) (h : ∀ J : sm_I, en_mem ml_tb mlX (xLay, J, L, R) → ml_pS ml_no I J → Φ (none, (xLay, J, L, kM R))) : sm_wp sm_P S (d + 2) 165 0 [.ref 107, .int x] [] (xLay, I, L, kM R) (0, 0) Φ := u_X12_must_0 (mx_is hm (fun r _ _ => ⟨r, I, L, R, rfl, fun _ => mx_fail (by decide) (by decide) hm (fun J mJ pJ _ => ⟨J, L, R, rfl, h J mJ pJ⟩), fun _ => mx_goesOn hm (fun J mJ pJ _ => ⟨J, L, R, rfl, h J mJ pJ⟩)⟩))
theorem ml_nm {I : sm_I} {L : sm_L} {R : sm_R} (hm : en_mem ml_tb mlX (xLay, I, L, R)) : 0 ≤ (I 107 20).toInt ∧ (I 107 20).toInt ≤ 50 := hm.2.1 107 20 (0, 50) (by decide +kernel)
theorem mx_named1 {S : sm_C} {d : Nat} {Φ : sm_Z → Prop} {L : sm_L} {R : sm_R} {x1 : Int32} (k0 : 0 ≤ x1.toInt) (k1 : x1.toInt ≤ 500) (I0 : sm_I) (h : ∀ J : sm_I, en_mem ml_tb mlX (xLay, J, L, R) → ml_pS ml_no I0 J → Φ (some (.int x1), (xLay, J, L, kM R))) : ∀ (m : Nat) (I : sm_I) (x2 : Int32), en_mem ml_tb mlX (xLay, I, L, R) → ml_pS ml_no I0 I → 0 ≤ x2.toInt → (I 107 20).toInt - x2.toInt ≤ m → sm_wp sm_P S (d + 2) 166 1 [.ref 107, .int x1, .int x2] [] (xLay, I, L, kM R) (0, 0) Φ := by
  intro m
  induction m with
  | zero =>
    intro I x2 hm hp h0 hM
    refine u_X12_named_1 ⟨fun _ => h I hm hp, fun a => ?_⟩
    have := kl_nle a
    omega
  | succ m ih =>
    intro I x2 hm hp h0 hM
    have bn := ml_nm hm
    refine u_X12_named_1 ⟨fun _ => h I hm hp, fun a => ⟨fun _ => ?_, fun _ => h I hm hp⟩⟩
    have a := kl_nle a
    have s := ml_in1 (x := x2) (by omega)
    refine ⟨kl_in h0 (by omega), kl_in k0 (by omega), fun _ => ?_, fun _ => ih I _ hm hp (by omega) (by omega)⟩
    refine mx_wrong (by decide) (by decide) k0 (by omega) hm (fun J mJ pJ _ => ⟨J, L, R, rfl, ih J _ mJ (ml_pS_tr hp pJ) (by omega) ?_⟩)
    rw [ml_pS_g pJ (by omega)]
    omega
theorem mx_named {S : sm_C} {d : Nat} {Φ : sm_Z → Prop} {I : sm_I} {L : sm_L} {R : sm_R} (hm : en_mem ml_tb mlX (xLay, I, L, R)) (h : ∀ (r : Int32) (J : sm_I), 0 ≤ r.toInt → r.toInt ≤ 500 → en_mem ml_tb mlX (xLay, J, L, R) → ml_pS ml_no I J → Φ (some (.int r), (xLay, J, L, kM R))) : sm_wp sm_P S (d + 3) 166 0 [.ref 107] [] (xLay, I, L, kM R) (0, 0) Φ := by
  have bt : 0 ≤ (I 107 11).toInt ∧ (I 107 11).toInt ≤ 500 := ml_t hm
  refine u_X12_named_0 (mx_must hm (fun J mJ pJ => ⟨J, L, R, rfl, ?_⟩))
  have bn := ml_nm mJ
  exact mx_named1 bt.1 bt.2 I (fun K mK pK => h _ K bt.1 bt.2 mK pK) 50 J 0 mJ pJ (by decide) (by rw [kl_0]; omega)
theorem mx_known3 {S : sm_C} {d : Nat} {Φ : sm_Z → Prop} {I : sm_I} {L : sm_L} {R : sm_R} {x1 x2 : Int32} (k0 : 0 ≤ x2.toInt) (k1 : x2.toInt ≤ 500) (hm : en_mem ml_tb mlX (xLay, I, L, R)) (hf : I 107 13 = 0) (h : ∀ (r : Int32) (J : sm_I), en_mem ml_tb mlX (xLay, J, L, R) → ml_pS ml_no I J → -1 ≤ r.toInt → r.toInt ≤ 9 → (x1.toInt = 0 → r.toInt ≤ 3) → (x1.toInt = 1 → r.toInt ≤ 5) → (r.toInt = -1 → ¬ J 107 15 = 0) → Φ (some (.int r), (xLay, J, L, kM R))) : ∀ (m : Nat) (x3 x4 : Int32), -1 ≤ x3.toInt → x3.toInt ≤ 9 → (x1.toInt = 0 → x3.toInt ≤ 3) → (x1.toInt = 1 → x3.toInt ≤ 5) → 0 ≤ x4.toInt → (I 107 20).toInt - x4.toInt ≤ m → sm_wp sm_P S (d + 1) 154 3 [.ref 107, .int x1, .int x2, .int x3, .int x4] [] (xLay, I, L, kM R) (0, 0) Φ := by
  have bn := ml_nm hm
  have done : ∀ x3 : Int32, -1 ≤ x3.toInt → x3.toInt ≤ 9 → (x1.toInt = 0 → x3.toInt ≤ 3) → (x1.toInt = 1 → x3.toInt ≤ 5) → ((x3 = (-1 : Int32) → sm_wp sm_P S d 213 0 [.ref 107, .int (4 : Int32), .int x2] [] (xLay, I, L, (kM R)) (0, 0) (fun z => ∃ (I1 : sm_I) (L2 : sm_L) (R3 : sm_R), z = (none, (xLay, I1, L2, (kM R3))) ∧ Φ (some (.int x3), (xLay, I1, L2, (kM R3))))) ∧ (¬ x3 = (-1 : Int32) → Φ (some (.int x3), (xLay, I, L, (kM R))))) := fun x3 a1 a2 a3 a4 => ⟨fun _ => mx_wrong (by decide) (by decide) k0 (by omega) hm (fun J mJ pJ wJ => ⟨J, L, R, rfl, h x3 J mJ pJ a1 a2 a3 a4 (fun _ => wJ hf)⟩), fun c => h x3 I hm ml_pS_rf a1 a2 a3 a4 (fun q => absurd q (ml_m1 c))⟩
  intro m
  induction m with
  | zero =>
    intro x3 x4 a1 a2 a3 a4 h0 hM
    refine u_X12_known_3 ⟨fun _ => done x3 a1 a2 a3 a4, fun a => ?_⟩
    have := kl_nle a
    omega
  | succ m ih =>
    intro x3 x4 a1 a2 a3 a4 h0 hM
    refine u_X12_known_3 ⟨fun _ => done x3 a1 a2 a3 a4, fun a => ?_⟩
    have a := kl_nle a
    have s := ml_in1 (x := x4) (by omega)
    have n4 := kl_nat h0
    have v : vp_in x4 50 := kl_in h0 (by omega)
    have same : sm_wp sm_P S (d + 1) 154 3 [.ref 107, .int x1, .int x2, .int x3, .int (x4 + 1)] [] (xLay, I, L, kM R) (0, 0) Φ := ih x3 _ a1 a2 a3 a4 (by omega) (by omega)
    refine ⟨fun _ => ⟨v, kl_in k0 (by omega), fun _ => ⟨v, fun e => ⟨v, ?_⟩, fun _ => same⟩, fun _ => same⟩, fun _ => same⟩
    have bw : 0 ≤ (I 117 x4.toNatClampNeg).toInt ∧ (I 117 x4.toNatClampNeg).toInt ≤ 9 := ml_row hm (p := 117) (n := 50) (q := (0, 9)) (fun _ => rfl) _ (by omega)
    have N := hm.2.2.2.2.2.2.2.2.1 x4.toNatClampNeg (by omega)
    have N : ((I 116 x4.toNatClampNeg).toInt = 0 → (I 117 x4.toNatClampNeg).toInt ≤ 3) ∧ ((I 116 x4.toNatClampNeg).toInt = 1 → (I 117 x4.toNatClampNeg).toInt ≤ 5) := N
    rw [e] at N
    exact ih _ _ (by omega) bw.2 N.1 N.2 (by omega) (by omega)
theorem mx_known {S : sm_C} {d : Nat} {Φ : sm_Z → Prop} {I : sm_I} {L : sm_L} {R : sm_R} {x1 : Int32} (hm : en_mem ml_tb mlX (xLay, I, L, R)) (h : ∀ (r : Int32) (J : sm_I), en_mem ml_tb mlX (xLay, J, L, R) → ml_pS ml_no I J → -1 ≤ r.toInt → r.toInt ≤ 9 → (x1.toInt = 0 → r.toInt ≤ 3) → (x1.toInt = 1 → r.toInt ≤ 5) → (r.toInt = -1 → ¬ J 107 15 = 0) → Φ (some (.int r), (xLay, J, L, kM R))) : sm_wp sm_P S (d + 3) 154 0 [.ref 107, .int x1] [] (xLay, I, L, kM R) (0, 0) Φ := by
  have bt : 0 ≤ (I 107 11).toInt ∧ (I 107 11).toInt ≤ 500 := ml_t hm
  have z : (0 : Int32).toInt = 0 := kl_0
  refine u_X12_known_0 (mx_must hm (fun J mJ pJ => ⟨J, L, R, rfl, fun a => ?_, fun _ => h _ J mJ pJ (by decide) (by decide) (fun _ => by decide) (fun _ => by decide) (fun c => absurd c (by decide))⟩))
  have bn := ml_nm mJ
  exact mx_known3 bt.1 bt.2 mJ (ml_f0 mJ a) (fun r K mK pK b1 b2 b3 b4 b5 => h r K mK (ml_pS_tr pJ pK) b1 b2 b3 b4 b5) 50 _ 0 (by decide) (by decide) (fun _ => by decide) (fun _ => by decide) (by decide) (by rw [kl_0]; omega)
theorem mx_number7 {S : sm_C} {d : Nat} {Φ : sm_Z → Prop} {I : sm_I} {L : sm_L} {R : sm_R} {x2 : Int32} (hm : en_mem ml_tb mlX (xLay, I, L, R)) (h : ∀ (r : Int32) (J : sm_I), en_mem ml_tb mlX (xLay, J, L, R) → ml_pS ml_no I J → Φ (some (.int r), (xLay, J, L, kM R))) : sm_wp sm_P S (d + 3) 169 7 [.ref 107, .int x2] [] (xLay, I, L, kM R) (0, 0) Φ := by
  have bt : 0 ≤ (I 107 11).toInt ∧ (I 107 11).toInt ≤ 500 := ml_t hm
  have go : ∀ s0 : Int32, sm_wp sm_P S (d + 3) 169 10 [.ref 107, .int x2, .int (I 107 11)] [.int s0] (xLay, I, L, kM R) (0, 0) Φ := fun s0 => u_X12_number_10 (mx_must hm (fun J mJ pJ => ⟨J, L, R, rfl, fun _ => ⟨fun _ => u_X12_number_13 (h _ J mJ pJ), fun _ => mx_wrong (by decide) (by decide) bt.1 (by omega) mJ (fun K mK pK _ => ⟨K, L, R, rfl, u_X12_number_13 (h _ K mK (ml_pS_tr pJ pK))⟩)⟩, fun _ => u_X12_number_13 (h _ J mJ pJ)⟩))
  exact u_X12_number_7 (mx_is hm (fun r _ _ => ⟨r, I, L, R, rfl, fun _ => go _, fun _ => ⟨ml_vt hm, go _⟩⟩))
theorem mx_number {S : sm_C} {d : Nat} {Φ : sm_Z → Prop} {I : sm_I} {L : sm_L} {R : sm_R} {x1 : Int32} (hm : en_mem ml_tb mlX (xLay, I, L, R)) (h : ∀ (r : Int32) (J : sm_I), en_mem ml_tb mlX (xLay, J, L, R) → ml_pS ml_no I J → Φ (some (.int r), (xLay, J, L, kM R))) : sm_wp sm_P S (d + 3) 169 0 [.ref 107, .int x1] [] (xLay, I, L, kM R) (0, 0) Φ := by
  have g : ∀ {x2 : Int32}, sm_wp sm_P S (d + 3) 169 7 [.ref 107, .int x2] [] (xLay, I, L, kM R) (0, 0) Φ := mx_number7 hm h
  have gJ : ∀ {x2 : Int32} (J : sm_I), en_mem ml_tb mlX (xLay, J, L, R) → ml_pS ml_no I J → sm_wp sm_P S (d + 3) 169 7 [.ref 107, .int x2] [] (xLay, J, L, kM R) (0, 0) Φ := fun J mJ pJ => mx_number7 mJ (fun r K mK pK => h r K mK (ml_pS_tr pJ pK))
  refine u_X12_number_0 ⟨fun _ => ⟨fun _ => g, fun _ => mx_is hm (fun r _ _ => ⟨r, I, L, R, rfl, fun _ => g, fun _ => mx_goesOn hm (fun J mJ pJ _ => ⟨J, L, R, rfl, gJ J mJ pJ⟩)⟩)⟩, fun _ => mx_is hm (fun r _ _ => ⟨r, I, L, R, rfl, fun _ => ⟨fun _ => g, fun _ => mx_is hm (fun r _ _ => ⟨r, I, L, R, rfl, fun _ => g, fun _ => mx_goesOn hm (fun J mJ pJ _ => ⟨J, L, R, rfl, gJ J mJ pJ⟩)⟩)⟩, fun _ => ⟨fun _ => g, fun _ => mx_is hm (fun r _ _ => ⟨r, I, L, R, rfl, fun _ => g, fun _ => mx_goesOn hm (fun J mJ pJ _ => ⟨J, L, R, rfl, gJ J mJ pJ⟩)⟩)⟩⟩)⟩
/-- a name is known from now on -/
def ml_kn (n : Nat) (p j : Nat) : Prop := (p = 107 ∧ j = 20) ∨ ((p = 116 ∨ p = 117) ∧ j = n)
theorem mx_knows {S : sm_C} {d : Nat} {Φ : sm_Z → Prop} {I : sm_I} {L : sm_L} {R : sm_R} {x1 x2 x3 : Int32} (k0 : 0 ≤ x1.toInt) (k1 : x1.toInt ≤ 500) (b2 : 0 ≤ x2.toInt ∧ x2.toInt ≤ 4) (b3 : 0 ≤ x3.toInt ∧ x3.toInt ≤ 9) (c0 : x2.toInt = 0 → x3.toInt ≤ 3) (c1 : x2.toInt = 1 → x3.toInt ≤ 5) (hn : (I 107 20).toInt ≤ 49) (hm : en_mem ml_tb mlX (xLay, I, L, R)) (h : ∀ (J : sm_I) (L' : sm_L), en_mem ml_tb mlX (xLay, J, L', R) → ml_pS (ml_kn (I 107 20).toNatClampNeg) I J → (J 107 20).toInt = (I 107 20).toInt + 1 → Φ (none, (xLay, J, L', kM R))) : sm_wp sm_P S d 155 0 [.ref 107, .int x1, .int x2, .int x3] [] (xLay, I, L, kM R) (0, 0) Φ := by
  have bn := ml_nm hm
  have nn := kl_nat bn.1
  have v : vp_in (I 107 20) 50 := kl_in bn.1 (by omega)
  refine u_X12_knows_0 ⟨kl_in k0 (by omega), v, fun L1 eL => ⟨v, fun I2 e2 => ?_⟩⟩
  have g2 : I2 107 20 = I 107 20 := by rw [e2, en_up_ne _ _ _ _ (by omega)]
  refine ⟨by rw [g2]; exact v, fun I3 e3 I4 e4 => ?_⟩
  rw [g2] at e3
  have g3 : I3 107 20 = I 107 20 := by rw [e3, en_up_ne _ _ _ _ (by omega), g2]
  rw [g3] at e4
  have s := ml_in1 (x := I 107 20) (by omega)
  have o3 : ∀ p j, ¬ ((p = 116 ∨ p = 117) ∧ j = (I 107 20).toNatClampNeg) → I3 p j = I p j := fun p j hp => by rw [e3, en_up_ne _ _ _ _ (by omega), e2, en_up_ne _ _ _ _ (by omega)]
  have e116 : I3 116 (I 107 20).toNatClampNeg = x2 := by rw [e3, en_up_ne _ _ _ _ (by omega), e2, en_up_eq]
  have e117 : I3 117 (I 107 20).toNatClampNeg = x3 := by rw [e3, en_up_eq]
  have m3 : en_mem ml_tb mlX (xLay, I3, L, R) := by
    refine ⟨hm.1, fun a b q hq => ?_, hm.2.2.1, hm.2.2.2.1, ?_⟩
    · show q.1 ≤ (I3 a b).toInt ∧ (I3 a b).toInt ≤ q.2
      by_cases c : (a = 116 ∨ a = 117) ∧ b = (I 107 20).toNatClampNeg
      · obtain ⟨c1 | c1, c2⟩ := c
        · subst c1; subst c2
          have e : en_int ml_tb 116 (I 107 20).toNatClampNeg = bif Nat.blt (I 107 20).toNatClampNeg 50 then some (0, 4) else none := rfl
          rw [e, show Nat.blt (I 107 20).toNatClampNeg 50 = true from Nat.ble_eq_true_of_le (by omega)] at hq
          rw [← Option.some.inj hq, e116]; exact b2
        · subst c1; subst c2
          have e : en_int ml_tb 117 (I 107 20).toNatClampNeg = bif Nat.blt (I 107 20).toNatClampNeg 50 then some (0, 9) else none := rfl
          rw [e, show Nat.blt (I 107 20).toNatClampNeg 50 = true from Nat.ble_eq_true_of_le (by omega)] at hq
          rw [← Option.some.inj hq, e117]; exact b3
      · rw [o3 a b c]; exact hm.2.1 a b q hq
    · have X := hm.2.2.2.2
      refine ⟨rfl, fun j hj => ?_, fun l hl => mlV_cg (I := I) (fun p hp j => o3 p j (by omega)) (X.2.2.1 l ?_), mlP_cg (fun j => o3 165 j (by omega)) X.2.2.2.1, fun j hj => ?_, X.2.2.2.2.2⟩
      · show (I3 148 j).toInt ≤ 54 ∨ 60 ≤ (I3 148 j).toInt
        rw [o3 148 j (by omega)]; exact X.2.1 j hj
      · have hl : (l : Int) = (I3 107 18).toInt := hl
        rw [o3 107 18 (by omega)] at hl; exact hl
      · show ((I3 116 j).toInt = 0 → (I3 117 j).toInt ≤ 3) ∧ ((I3 116 j).toInt = 1 → (I3 117 j).toInt ≤ 5)
        by_cases c : j = (I 107 20).toNatClampNeg
        · subst c; rw [e116, e117]; exact ⟨c0, c1⟩
        · rw [o3 116 j (by omega), o3 117 j (by omega)]; exact X.2.2.2.2.1 j hj
  have m4 : en_mem ml_tb mlX (xLay, I4, L, R) := by
    rw [e4]
    exact ml_wf m3 (by decide +kernel) (q := (0, 50)) (by decide +kernel) (by show 0 ≤ _ ∧ _ ≤ (50 : Int); omega)
  have m4' : en_mem ml_tb mlX (xLay, I4, L1, R) := ⟨m4.1, m4.2.1, m4.2.2.1, m4.2.2.2.1, m4.2.2.2.2.1, m4.2.2.2.2.2.1, m4.2.2.2.2.2.2.1, m4.2.2.2.2.2.2.2.1, m4.2.2.2.2.2.2.2.2.1, pk_cg (L := L) (L' := L1) (fun j => by rw [eL]; exact en_up_ne _ _ _ _ (by omega)) m4.2.2.2.2.2.2.2.2.2⟩
  refine h I4 L1 m4' ⟨fun p j hp _ => ?_, ?_, ?_, ?_⟩ (by rw [e4, en_up_eq]; exact s)
  · unfold ml_kn at hp
    rw [e4, en_up_ne _ _ _ _ (by omega), o3 p j (by omega)]
  · rw [e4, en_up_ne _ _ _ _ (by omega), o3 107 15 (by omega)]; exact id
  · rw [e4, en_up_ne _ _ _ _ (by omega), o3 107 13 (by omega)]; exact id
  · rw [e4, en_up_ne _ _ _ _ (by omega), o3 107 11 (by omega)]; exact Int.le_refl _
