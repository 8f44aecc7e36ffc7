/-! searches -/
def ml_nc (I : sm_I) (k : Int) : Prop := ∀ j : Nat, (j : Int) ≤ k → (I 150 j).toInt ≤ (ml_ch I (I 148 j)).toInt
def ml_SV : en_W := mlc_16.2.2.2.2.1
def ml_SW : en_W := mlc_42.2.2.2.2.1
theorem ml_143 {p j : Nat} (h : p ≠ 143) : en_wok [(143, [])] p j = false := by
  cases c : en_wok [(143, [])] p j with
  | false => rfl
  | true =>
    exfalso
    obtain ⟨q, h1, h2⟩ := List.any_eq_true.mp c
    rw [List.mem_singleton.mp h1] at h2
    exact h (Nat.eq_of_beq_eq_true (Bool.and_eq_true_iff.mp h2).1).symm
theorem ml_154 {p j : Nat} (h1 : p ≠ 154) (h2 : p ≠ 155) (h3 : p ≠ 156) : en_wok [(154, []), (155, []), (156, [])] p j = false := by
  cases c : en_wok [(154, []), (155, []), (156, [])] p j with
  | false => rfl
  | true =>
    exfalso
    obtain ⟨q, g1, g2⟩ := List.any_eq_true.mp c
    have e : q.1 = p := Nat.eq_of_beq_eq_true (Bool.and_eq_true_iff.mp g2).1
    simp only [List.mem_cons, List.not_mem_nil, or_false] at g1
    rcases g1 with g | g | g <;> subst g <;> simp at e <;> omega
theorem ml_ch0 {I : sm_I} {L : sm_L} {R : sm_R} {x : Int32} (hm : en_mem ml_tb mlX (xLay, I, L, R)) (h0 : 0 ≤ x.toInt) (h1 : x.toInt ≤ 69) (hh : x.toInt ≤ 54 ∨ 60 ≤ x.toInt) : 0 ≤ (ml_ch I x).toInt := by
  have t0 : (0 : Int32).toInt = 0 := by decide
  have t2 : (2 : Int32).toInt = 2 := by decide
  have c10 : (10 : Int32).toInt = 10 := by decide
  unfold ml_ch
  split
  · split
    · split
      · omega
      · omega
    · split
      · omega
      · omega
  · next a =>
    have a := kl_nle a
    have l : 0 ≤ (I 107 18).toInt ∧ (I 107 18).toInt ≤ 1 := hm.2.1 107 18 (0, 1) (by decide +kernel)
    have m1 : ((10 : Int32) * I 107 18).toInt = 10 * (I 107 18).toInt := ml_mu c10 rfl (by omega) (by omega)
    have m2 : ((10 : Int32) * I 107 18 + x).toInt = 10 * (I 107 18).toInt + x.toInt := ml_ad m1 rfl (by omega) (by omega)
    have nn := kl_nat (i := (10 : Int32) * I 107 18 + x) (by omega)
    exact (ml_row hm (p := 128) (n := 20) (q := (0, 4)) (fun _ => rfl) _ (by omega)).1
theorem ml_ch_cg {I J : sm_I} (h128 : ∀ j, J 128 j = I 128 j) (h142 : ∀ j, J 142 j = I 142 j) (h152 : ∀ j, J 152 j = I 152 j) (h18 : J 107 18 = I 107 18) (x : Int32) : ml_ch J x = ml_ch I x := by
  unfold ml_ch
  rw [h128, h142, h152, h18]
theorem ml_nc_cg {I J : sm_I} {k : Int} (h128 : ∀ j, J 128 j = I 128 j) (h142 : ∀ j, J 142 j = I 142 j) (h152 : ∀ j, J 152 j = I 152 j) (h18 : J 107 18 = I 107 18) (h148 : ∀ j, J 148 j = I 148 j) (h150 : ∀ j : Nat, (j : Int) ≤ k → (J 150 j).toInt ≤ (ml_ch I (I 148 j)).toInt) : ml_nc J k := fun j hj => by
  rw [ml_ch_cg h128 h142 h152 h18, h148]; exact h150 j hj
theorem ml_chooses {S : sm_C} {d : Nat} {I : sm_I} {L : sm_L} {R : sm_R} {x y : Int32} {C : Int32 → sm_I → sm_L → sm_R → Prop} (hd : 4 ≤ d) (hm : en_mem ml_tb mlX (xLay, I, L, R)) (h0 : 0 ≤ x.toInt) (h1 : x.toInt ≤ 69) (hh : x.toInt ≤ 54 ∨ 60 ≤ x.toInt) (c0 : 0 ≤ y.toInt) (c1 : y.toInt ≤ 3) (k : ∀ (r : Int32) (I' : sm_I) (L' : sm_L) (R' : sm_R), 0 ≤ r.toInt → r.toInt ≤ 1 → en_mem ml_tb mlX (xLay, I', L', R') → en_fr [(143, [])] (xLay, I, L, R) (xLay, I', L', R') → C r I' L' R') : sm_wp sm_P S d 115 0 [.ref 107, .int x, .int y] [] (xLay, I, L, kM R) (0, 0) (fun z => ∃ (r : Int32) (I2 : sm_I) (L2 : sm_L) (R2 : sm_R), z = (some (.int r), (xLay, I2, L2, kM R2)) ∧ C r I2 L2 R2) := by
  rcases hh with hh | hh
  · exact ml_ci (c := mlc_6) mlh_6 hd ⟨⟨rfl, rfl⟩, ⟨rfl, h0, hh⟩, ⟨rfl, c0, c1⟩, trivial⟩ hm ml_pf0 rfl k
  · exact ml_ci (c := mlc_7) mlh_7 (Nat.le_trans (by decide) hd) ⟨⟨rfl, rfl⟩, ⟨rfl, hh, h1⟩, ⟨rfl, c0, c1⟩, trivial⟩ hm ml_pf0 rfl k
theorem ml_s143 : ml_ws [(143, [])] ml_SV = true := by decide +kernel
theorem ml_t143 : ml_ws [(143, [])] ml_SW = true := by decide +kernel
theorem ml_s154 : ml_ws [(154, []), (155, []), (156, [])] ml_SV = true := by decide +kernel
theorem ml_90 {p j : Nat} (h : ¬ (p = 107 ∧ 90 ≤ j)) : en_wok [(107, [90, 91, 92])] p j = false := by
  cases c : en_wok [(107, [90, 91, 92])] p j with
  | false => rfl
  | true =>
    exfalso
    obtain ⟨q, g1, g2⟩ := List.any_eq_true.mp c
    rw [List.mem_singleton.mp g1] at g2
    obtain ⟨g2, g3⟩ := Bool.and_eq_true_iff.mp g2
    have e : 107 = p := Nat.eq_of_beq_eq_true g2
    obtain ⟨i, k1, k2⟩ := List.any_eq_true.mp g3
    have k2 : i = j := Nat.eq_of_beq_eq_true k2
    simp only [List.mem_cons, List.not_mem_nil, or_false] at k1
    omega
/-- one more TRY is counted -/
theorem ml_try {W : en_W} (w150 : ∀ j, en_wok W 150 j = true) (w63 : en_wok W 107 63 = true) {I I5 I6 : sm_I} {L : sm_L} {R : sm_R} {w0 : sm_W} {k n4 : Int32} (hm : en_mem ml_tb mlX (xLay, I, L, R)) (hf : en_fr W w0 (xLay, I, L, R)) (hn : ml_nc I k.toInt) (h0 : 0 ≤ k.toInt) (h1 : k.toInt ≤ 69) (ht : (I 107 63).toInt ≤ 1000) (lt : (I 150 k.toNatClampNeg).toInt < (ml_ch I (I 148 k.toNatClampNeg)).toInt) (c4 : (ml_ch I (I 148 k.toNatClampNeg)).toInt ≤ 4) (e4 : n4 = I 150 k.toNatClampNeg + 1) (e5 : I5 = sm_up I 150 k.toNatClampNeg n4) (e6 : I6 = sm_up I5 107 63 (I5 107 63 + 1)) : en_mem ml_tb mlX (xLay, I6, L, R) ∧ en_fr W w0 (xLay, I6, L, R) ∧ I6 107 63 = I 107 63 + 1 ∧ (∀ p j, p ≠ 150 → ¬ (p = 107 ∧ j = 63) → I6 p j = I p j) ∧ (∀ j : Nat, (j : Int) ≤ k.toInt → (I6 150 j).toInt ≤ (ml_ch I (I 148 j)).toInt) := by
  have nk := kl_nat h0
  have bn : 0 ≤ (I 150 k.toNatClampNeg).toInt ∧ (I 150 k.toNatClampNeg).toInt ≤ 4 := ml_row hm (p := 150) (n := 70) (q := (0, 4)) (fun _ => rfl) _ (by omega)
  have bt : 0 ≤ (I 107 63).toInt ∧ (I 107 63).toInt ≤ 1001 := hm.2.1 107 63 (0, 1001) (by decide +kernel)
  have s4 : n4.toInt = (I 150 k.toNatClampNeg).toInt + 1 := by rw [e4]; exact ml_in1 (by omega)
  have m5 : en_mem ml_tb mlX (xLay, I5, L, R) := by
    rw [e5]
    exact ml_we2 hm rfl (n := 70) (q := (0, 4)) rfl (by show 0 ≤ _ ∧ _ ≤ (4 : Int); omega)
  have f5 : en_fr W w0 (xLay, I5, L, R) := by rw [e5]; exact ml_fr hf (w150 _)
  have g5 : I5 107 63 = I 107 63 := by rw [e5, en_up_ne _ _ _ _ (fun c => absurd c.1 (by decide))]
  have s6 : (I 107 63 + 1).toInt = (I 107 63).toInt + 1 := ml_in1 (by omega)
  refine ⟨?_, ?_, ?_, fun p j h1 h2 => ?_, fun j hj => ?_⟩
  · rw [e6, g5]
    exact ml_wf m5 (by decide +kernel) (q := (0, 1001)) (by decide +kernel) (by show 0 ≤ _ ∧ _ ≤ (1001 : Int); omega)
  · rw [e6]; exact ml_fr f5 w63
  · rw [e6, g5, en_up_eq]
  · rw [e6, en_up_ne _ _ _ _ h2, e5, en_up_ne _ _ _ _ (fun c => h1 c.1)]
  · rw [e6, en_up_ne _ _ _ _ (fun c => absurd c.1 (by decide)), e5]
    by_cases c : j = k.toNatClampNeg
    · rw [c, en_up_eq]; omega
    · rw [en_up_ne _ _ _ _ (fun q => c q.2)]; exact hn j hj
/-- behind copies: the page -/
theorem ml_cop {W : en_W} (w143 : ml_ws [(143, [])] W = true) (w52 : en_wok W 107 52 = true) {I6 I7 I10 : sm_I} {L L7 : sm_L} {R R7 : sm_R} {w0 : sm_W} {y : Int32} (m7 : en_mem ml_tb mlX (xLay, I7, L7, R7)) (f6 : en_fr W w0 (xLay, I6, L, R)) (f7 : en_fr [(143, [])] (xLay, I6, L, R) (xLay, I7, L7, R7)) (h0 : 0 ≤ y.toInt) (h1 : y.toInt ≤ 70) (e10 : I10 = sm_up I7 107 52 y) : en_mem ml_tb mlX (xLay, I10, L7, R7) ∧ en_fr W w0 (xLay, I10, L7, R7) ∧ (∀ p j, p ≠ 143 → ¬ (p = 107 ∧ j = 52) → I10 p j = I6 p j) := by
  refine ⟨?_, ?_, fun p j h1 h2 => ?_⟩
  · rw [e10]
    exact ml_wf m7 (by decide +kernel) (q := (0, 70)) (by decide +kernel) ⟨h0, h1⟩
  · rw [e10]; exact ml_fr (ml_frt f6 f7 w143) w52
  · rw [e10, en_up_ne _ _ _ _ h2]
    exact ml_g f7 (ml_143 h1)
theorem mx_search17 {S : sm_C} {d : Nat} {Φ : sm_Z → Prop} {w0 : sm_W} {L : sm_L} {R : sm_R} {x1 x2 x3 : Int32} (f0 : 0 ≤ x2.toInt) (f1 : x2.toInt ≤ 999) (I0 : sm_I) (hk : ∀ J : sm_I, en_mem ml_tb mlX (xLay, J, L, R) → en_fr ml_SV w0 (xLay, J, L, R) → (∀ p j, p ≠ 153 → J p j = I0 p j) → sm_wp sm_P S (d + 1) 186 3 [.ref 107, .int x1, .int (x2 + 1), .int x3] [] (xLay, J, L, kM R) (0, 0) Φ) : ∀ (m : Nat) (I : sm_I) (x6 : Int32), en_mem ml_tb mlX (xLay, I, L, R) → en_fr ml_SV w0 (xLay, I, L, R) → (∀ p j, p ≠ 153 → I p j = I0 p j) → 0 ≤ x6.toInt → (I 107 59).toInt - x6.toInt ≤ m → sm_wp sm_P S (d + 1) 186 17 [.ref 107, .int x1, .int x2, .int x3, .int x6] [] (xLay, I, L, kM R) (0, 0) Φ := by
  intro m
  induction m with
  | zero =>
    intro I x6 hm hf ho h0 hM
    refine u_X12_searches_17 ⟨fun _ => hk I hm hf ho, fun a => ?_⟩
    have := kl_nle a
    omega
  | succ m ih =>
    intro I x6 hm hf ho h0 hM
    have bi : 0 ≤ (I 107 59).toInt ∧ (I 107 59).toInt ≤ 70 := hm.2.1 107 59 (0, 70) (by decide +kernel)
    refine u_X12_searches_17 ⟨fun _ => hk I hm hf ho, fun a => ?_⟩
    have a := kl_nle a
    have n6 := kl_nat h0
    have bc : 0 ≤ (I 149 x6.toNatClampNeg).toInt ∧ (I 149 x6.toNatClampNeg).toInt ≤ 3 := ml_row hm (p := 149) (n := 70) (q := (0, 3)) (fun _ => rfl) _ (by omega)
    have c55 : (55 : Int32).toInt = 55 := by decide
    have e1 : ((55 : Int32) * x2).toInt = 55 * x2.toInt := ml_mu c55 rfl (by omega) (by omega)
    have e2 : ((55 : Int32) * x2 + x6).toInt = 55 * x2.toInt + x6.toInt := ml_ad e1 rfl (by omega) (by omega)
    refine ⟨kl_in h0 (by omega), fun n1 hn1 => ⟨kl_in (by omega) (by omega), fun I2 hI2 => ?_⟩⟩
    have s := ml_in1 (x := x6) (by omega)
    have g2 : I2 107 59 = I 107 59 := by rw [hI2, en_up_ne _ _ _ _ (fun c => absurd c.1 (by decide))]
    refine ih I2 _ ?_ ?_ ?_ (by omega) (by rw [g2]; omega)
    · rw [hI2, hn1]
      exact ml_we2 hm rfl (n := 55100) (q := (0, 3)) rfl (ml_b3 bc.1 bc.2)
    · rw [hI2]; exact ml_fr hf rfl
    · intro p j hp
      rw [hI2, en_up_ne _ _ _ _ (fun c => hp c.1)]; exact ho p j hp
