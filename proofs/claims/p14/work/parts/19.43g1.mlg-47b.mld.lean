section
/-! searches -/
def ml_nc (I : sm_I) (k : Int) : Prop := ∀ j : Nat, (j : Int) ≤ k → (I 150 j).toInt ≤ (ml_ch I (I 148 j)).toInt
def ml_SV : en_W := mlc_16.2.2.2.2.1
def ml_SW : en_W := mlc_42.2.2.2.2.1
theorem ml_143 {p j : Nat} (h : p ≠ 143) : en_wok [(143, [])] p j = false := by
  cases c : en_wok [(143, [])] p j with
  | false => rfl
  | true =>
    exfalso
    obtain ⟨q, h1, h2⟩ := List.any_eq_true.mp c
    rw [List.mem_singleton.mp h1] at h2
    exact h (Nat.eq_of_beq_eq_true (Bool.and_eq_true_iff.mp h2).1).symm
theorem ml_154 {p j : Nat} (h1 : p ≠ 154) (h2 : p ≠ 155) (h3 : p ≠ 156) : en_wok [(154, []), (155, []), (156, [])] p j = false := by
  cases c : en_wok [(154, []), (155, []), (156, [])] p j with
  | false => rfl
  | true =>
    exfalso
    obtain ⟨q, g1, g2⟩ := List.any_eq_true.mp c
    have e : q.1 = p := Nat.eq_of_beq_eq_true (Bool.and_eq_true_iff.mp g2).1
    simp only [List.mem_cons, List.not_mem_nil, or_false] at g1
    rcases g1 with g | g | g <;> subst g <;> simp at e <;> omega
theorem ml_ch0 {I : sm_I} {L : sm_L} {R : sm_R} {x : Int32} (hm : en_mem ml_tb mlX (xLay, I, L, R)) (h0 : 0 ≤ x.toInt) (h1 : x.toInt ≤ 69) (hh : x.toInt ≤ 54 ∨ 60 ≤ x.toInt) : 0 ≤ (ml_ch I x).toInt := by
  have t0 : (0 : Int32).toInt = 0 := by decide
  have t2 : (2 : Int32).toInt = 2 := by decide
  have c10 : (10 : Int32).toInt = 10 := by decide
  unfold ml_ch
  split
  · split
    · split
      · omega
      · omega
    · split
      · omega
      · omega
  · next a =>
    have a := kl_nle a
    have l : 0 ≤ (I 107 18).toInt ∧ (I 107 18).toInt ≤ 1 := hm.2.1 107 18 (0, 1) (by decide +kernel)
    have m1 : ((10 : Int32) * I 107 18).toInt = 10 * (I 107 18).toInt := ml_mu c10 rfl (by omega) (by omega)
    have m2 : ((10 : Int32) * I 107 18 + x).toInt = 10 * (I 107 18).toInt + x.toInt := ml_ad m1 rfl (by omega) (by omega)
    have nn := kl_nat (i := (10 : Int32) * I 107 18 + x) (by omega)
    exact (ml_row hm (p := 128) (n := 20) (q := (0, 4)) (fun _ => rfl) _ (by omega)).1
theorem ml_ch_cg {I J : sm_I} (h128 : ∀ j, J 128 j = I 128 j) (h142 : ∀ j, J 142 j = I 142 j) (h152 : ∀ j, J 152 j = I 152 j) (h18 : J 107 18 = I 107 18) (x : Int32) : ml_ch J x = ml_ch I x := by
  unfold ml_ch
  rw [h128, h142, h152, h18]
theorem ml_nc_cg {I J : sm_I} {k : Int} (h128 : ∀ j, J 128 j = I 128 j) (h142 : ∀ j, J 142 j = I 142 j) (h152 : ∀ j, J 152 j = I 152 j) (h18 : J 107 18 = I 107 18) (h148 : ∀ j, J 148 j = I 148 j) (h150 : ∀ j : Nat, (j : Int) ≤ k → (J 150 j).toInt ≤ (ml_ch I (I 148 j)).toInt) : ml_nc J k := fun j hj => by
  rw [ml_ch_cg h128 h142 h152 h18, h148]; exact h150 j hj
theorem ml_chooses {S : sm_C} {d : Nat} {I : sm_I} {L : sm_L} {R : sm_R} {x y : Int32} {C : Int32 → sm_I → sm_L → sm_R → Prop} (hd : 4 ≤ d) (hm : en_mem ml_tb mlX (xLay, I, L, R)) (h0 : 0 ≤ x.toInt) (h1 : x.toInt ≤ 69) (hh : x.toInt ≤ 54 ∨ 60 ≤ x.toInt) (c0 : 0 ≤ y.toInt) (c1 : y.toInt ≤ 3) (k : ∀ (r : Int32) (I' : sm_I) (L' : sm_L) (R' : sm_R), 0 ≤ r.toInt → r.toInt ≤ 1 → en_mem ml_tb mlX (xLay, I', L', R') → en_fr [(143, [])] (xLay, I, L, R) (xLay, I', L', R') → C r I' L' R') : sm_wp sm_P S d 115 0 [.ref 107, .int x, .int y] [] (xLay, I, L, kM R) (0, 0) (fun z => ∃ (r : Int32) (I2 : sm_I) (L2 : sm_L) (R2 : sm_R), z = (some (.int r), (xLay, I2, L2, kM R2)) ∧ C r I2 L2 R2) := by
  rcases hh with hh | hh
  · exact ml_ci (c := mlc_6) mlh_6 hd ⟨⟨rfl, rfl⟩, ⟨rfl, h0, hh⟩, ⟨rfl, c0, c1⟩, trivial⟩ hm ml_pf0 rfl k
  · exact ml_ci (c := mlc_7) mlh_7 (Nat.le_trans (by decide) hd) ⟨⟨rfl, rfl⟩, ⟨rfl, hh, h1⟩, ⟨rfl, c0, c1⟩, trivial⟩ hm ml_pf0 rfl k
theorem ml_s143 : ml_ws [(143, [])] ml_SV = true := by decide +kernel
theorem ml_t143 : ml_ws [(143, [])] ml_SW = true := by decide +kernel
theorem ml_s154 : ml_ws [(154, []), (155, []), (156, [])] ml_SV = true := by decide +kernel
theorem ml_90 {p j : Nat} (h : ¬ (p = 107 ∧ 90 ≤ j)) : en_wok [(107, [90, 91, 92])] p j = false := by
  cases c : en_wok [(107, [90, 91, 92])] p j with
  | false => rfl
  | true =>
    exfalso
    obtain ⟨q, g1, g2⟩ := List.any_eq_true.mp c
    rw [List.mem_singleton.mp g1] at g2
    obtain ⟨g2, g3⟩ := Bool.and_eq_true_iff.mp g2
    have e : 107 = p := Nat.eq_of_beq_eq_true g2
    obtain ⟨i, k1, k2⟩ := List.any_eq_true.mp g3
    have k2 : i = j := Nat.eq_of_beq_eq_true k2
    simp only [List.mem_cons, List.not_mem_nil, or_false] at k1
    omega
/-- one more TRY is counted -/
theorem ml_try {W : en_W} (w150 : ∀ j, en_wok W 150 j = true) (w63 : en_wok W 107 63 = true) {I I5 I6 : sm_I} {L : sm_L} {R : sm_R} {w0 : sm_W} {k n4 : Int32} (hm : en_mem ml_tb mlX (xLay, I, L, R)) (hf : en_fr W w0 (xLay, I, L, R)) (hn : ml_nc I k.toInt) (h0 : 0 ≤ k.toInt) (h1 : k.toInt ≤ 69) (ht : (I 107 63).toInt ≤ 1000) (lt : (I 150 k.toNatClampNeg).toInt < (ml_ch I (I 148 k.toNatClampNeg)).toInt) (c4 : (ml_ch I (I 148 k.toNatClampNeg)).toInt ≤ 4) (e4 : n4 = I 150 k.toNatClampNeg + 1) (e5 : I5 = sm_up I 150 k.toNatClampNeg n4) (e6 : I6 = sm_up I5 107 63 (I5 107 63 + 1)) : en_mem ml_tb mlX (xLay, I6, L, R) ∧ en_fr W w0 (xLay, I6, L, R) ∧ I6 107 63 = I 107 63 + 1 ∧ (∀ p j, p ≠ 150 → ¬ (p = 107 ∧ j = 63) → I6 p j = I p j) ∧ (∀ j : Nat, (j : Int) ≤ k.toInt → (I6 150 j).toInt ≤ (ml_ch I (I 148 j)).toInt) := by
  have nk := kl_nat h0
  have bn : 0 ≤ (I 150 k.toNatClampNeg).toInt ∧ (I 150 k.toNatClampNeg).toInt ≤ 4 := ml_row hm (p := 150) (n := 70) (q := (0, 4)) (fun _ => rfl) _ (by omega)
  have bt : 0 ≤ (I 107 63).toInt ∧ (I 107 63).toInt ≤ 1001 := hm.2.1 107 63 (0, 1001) (by decide +kernel)
  have s4 : n4.toInt = (I 150 k.toNatClampNeg).toInt + 1 := by rw [e4]; exact ml_in1 (by omega)
  have m5 : en_mem ml_tb mlX (xLay, I5, L, R) := by
    rw [e5]
    exact ml_we2 hm rfl (n := 70) (q := (0, 4)) rfl (by show 0 ≤ _ ∧ _ ≤ (4 : Int); omega)
  have f5 : en_fr W w0 (xLay, I5, L, R) := by rw [e5]; exact ml_fr hf (w150 _)
  have g5 : I5 107 63 = I 107 63 := by rw [e5, en_up_ne _ _ _ _ (fun c => absurd c.1 (by decide))]
  have s6 : (I 107 63 + 1).toInt = (I 107 63).toInt + 1 := ml_in1 (by omega)
  refine ⟨?_, ?_, ?_, fun p j h1 h2 => ?_, fun j hj => ?_⟩
  · rw [e6, g5]
    exact ml_wf m5 (by decide +kernel) (q := (0, 1001)) (by decide +kernel) (by show 0 ≤ _ ∧ _ ≤ (1001 : Int); omega)
  · rw [e6]; exact ml_fr f5 w63
  · rw [e6, g5, en_up_eq]
  · rw [e6, en_up_ne _ _ _ _ h2, e5, en_up_ne _ _ _ _ (fun c => h1 c.1)]
  · rw [e6, en_up_ne _ _ _ _ (fun c => absurd c.1 (by decide)), e5]
    by_cases c : j = k.toNatClampNeg
    · rw [c, en_up_eq]; omega
    · rw [en_up_ne _ _ _ _ (fun q => c q.2)]; exact hn j hj
/-- behind copies: the page -/
theorem ml_cop {W : en_W} (w143 : ml_ws [(143, [])] W = true) (w52 : en_wok W 107 52 = true) {I6 I7 I10 : sm_I} {L L7 : sm_L} {R R7 : sm_R} {w0 : sm_W} {y : Int32} (m7 : en_mem ml_tb mlX (xLay, I7, L7, R7)) (f6 : en_fr W w0 (xLay, I6, L, R)) (f7 : en_fr [(143, [])] (xLay, I6, L, R) (xLay, I7, L7, R7)) (h0 : 0 ≤ y.toInt) (h1 : y.toInt ≤ 70) (e10 : I10 = sm_up I7 107 52 y) : en_mem ml_tb mlX (xLay, I10, L7, R7) ∧ en_fr W w0 (xLay, I10, L7, R7) ∧ (∀ p j, p ≠ 143 → ¬ (p = 107 ∧ j = 52) → I10 p j = I6 p j) := by
  refine ⟨?_, ?_, fun p j h1 h2 => ?_⟩
  · rw [e10]
    exact ml_wf m7 (by decide +kernel) (q := (0, 70)) (by decide +kernel) ⟨h0, h1⟩
  · rw [e10]; exact ml_fr (ml_frt f6 f7 w143) w52
  · rw [e10, en_up_ne _ _ _ _ h2]
    exact ml_g f7 (ml_143 h1)
theorem mx_search17 {S : sm_C} {d : Nat} {Φ : sm_Z → Prop} {w0 : sm_W} {L : sm_L} {R : sm_R} {x1 x2 x3 : Int32} (f0 : 0 ≤ x2.toInt) (f1 : x2.toInt ≤ 999) (I0 : sm_I) (hk : ∀ J : sm_I, en_mem ml_tb mlX (xLay, J, L, R) → en_fr ml_SV w0 (xLay, J, L, R) → (∀ p j, p ≠ 153 → J p j = I0 p j) → sm_wp sm_P S (d + 1) 186 3 [.ref 107, .int x1, .int (x2 + 1), .int x3] [] (xLay, J, L, kM R) (0, 0) Φ) : ∀ (m : Nat) (I : sm_I) (x6 : Int32), en_mem ml_tb mlX (xLay, I, L, R) → en_fr ml_SV w0 (xLay, I, L, R) → (∀ p j, p ≠ 153 → I p j = I0 p j) → 0 ≤ x6.toInt → (I 107 59).toInt - x6.toInt ≤ m → sm_wp sm_P S (d + 1) 186 17 [.ref 107, .int x1, .int x2, .int x3, .int x6] [] (xLay, I, L, kM R) (0, 0) Φ := by
  intro m
  induction m with
  | zero =>
    intro I x6 hm hf ho h0 hM
    refine u_X12_searches_17 ⟨fun _ => hk I hm hf ho, fun a => ?_⟩
    have := kl_nle a
    omega
  | succ m ih =>
    intro I x6 hm hf ho h0 hM
    have bi : 0 ≤ (I 107 59).toInt ∧ (I 107 59).toInt ≤ 70 := hm.2.1 107 59 (0, 70) (by decide +kernel)
    refine u_X12_searches_17 ⟨fun _ => hk I hm hf ho, fun a => ?_⟩
    have a := kl_nle a
    have n6 := kl_nat h0
    have bc : 0 ≤ (I 149 x6.toNatClampNeg).toInt ∧ (I 149 x6.toNatClampNeg).toInt ≤ 3 := ml_row hm (p := 149) (n := 70) (q := (0, 3)) (fun _ => rfl) _ (by omega)
    have c55 : (55 : Int32).toInt = 55 := by decide
    have e1 : ((55 : Int32) * x2).toInt = 55 * x2.toInt := ml_mu c55 rfl (by omega) (by omega)
    have e2 : ((55 : Int32) * x2 + x6).toInt = 55 * x2.toInt + x6.toInt := ml_ad e1 rfl (by omega) (by omega)
    refine ⟨kl_in h0 (by omega), fun n1 hn1 => ⟨kl_in (by omega) (by omega), fun I2 hI2 => ?_⟩⟩
    have s := ml_in1 (x := x6) (by omega)
    have g2 : I2 107 59 = I 107 59 := by rw [hI2, en_up_ne _ _ _ _ (fun c => absurd c.1 (by decide))]
    refine ih I2 _ ?_ ?_ ?_ (by omega) (by rw [g2]; omega)
    · rw [hI2, hn1]
      exact ml_we2 hm rfl (n := 55100) (q := (0, 3)) rfl (ml_b3 bc.1 bc.2)
    · rw [hI2]; exact ml_fr hf rfl
    · intro p j hp
      rw [hI2, en_up_ne _ _ _ _ (fun c => hp c.1)]; exact ho p j hp
end
section
/-! searches: the loop -/
theorem mx_search3 {S : sm_C} {d : Nat} {Φ : sm_Z → Prop} {w0 : sm_W} {x1 : Int32} (hd : 4 ≤ d) (hx1 : 0 ≤ x1.toInt ∧ x1.toInt ≤ 1) (hΦ : ∀ (r : Int32) (I : sm_I) (L : sm_L) (R : sm_R), 0 ≤ r.toInt → r.toInt ≤ 1000 → en_mem ml_tb mlX (xLay, I, L, R) → en_fr ml_SV w0 (xLay, I, L, R) → Φ (some (.int r), (xLay, I, L, kM R))) : ∀ (m : Nat) (I : sm_I) (L : sm_L) (R : sm_R) (x2 x3 : Int32), en_mem ml_tb mlX (xLay, I, L, R) → en_fr ml_SV w0 (xLay, I, L, R) → -1 ≤ x3.toInt → x3.toInt < (I 107 59).toInt → 0 ≤ x2.toInt → x2.toInt ≤ (I 107 63).toInt → (I 107 63).toInt ≤ 1000 → ml_nc I x3.toInt → 2 * (1000 - (I 107 63).toInt) + x3.toInt + 1 < m → sm_wp sm_P S (d + 1) 186 3 [.ref 107, .int x1, .int x2, .int x3] [] (xLay, I, L, kM R) (0, 0) Φ := by
  intro m
  induction m with
  | zero =>
    intro I L R x2 x3 hm hf k0 k1 f0 f1 t1 hn hM
    omega
  | succ m ih =>
    intro I L R x2 x3 hm hf k0 k1 f0 f1 t1 hn hM
    have bi : 0 ≤ (I 107 59).toInt ∧ (I 107 59).toInt ≤ 70 := hm.2.1 107 59 (0, 70) (by decide +kernel)
    have bt : 0 ≤ (I 107 63).toInt ∧ (I 107 63).toInt ≤ 1001 := hm.2.1 107 63 (0, 1001) (by decide +kernel)
    refine u_X12_searches_3 ⟨fun a => hΦ x2 I L R f0 (by omega) hm hf, fun a => ?_⟩
    have k2 := kl_nlt0 a
    have nk := kl_nat k2
    have v : vp_in x3 70 := kl_in k2 (by omega)
    have bo : 0 ≤ (I 148 x3.toNatClampNeg).toInt ∧ (I 148 x3.toNatClampNeg).toInt ≤ 69 := ml_row hm (p := 148) (n := 70) (q := (0, 69)) (fun _ => rfl) _ (by omega)
    have gap : (I 148 x3.toNatClampNeg).toInt ≤ 54 ∨ 60 ≤ (I 148 x3.toNatClampNeg).toInt := hm.2.2.2.2.2.1 _ (by omega)
    have bn : 0 ≤ (I 150 x3.toNatClampNeg).toInt ∧ (I 150 x3.toNatClampNeg).toInt ≤ 4 := ml_row hm (p := 150) (n := 70) (q := (0, 4)) (fun _ => rfl) _ (by omega)
    have hk := hn x3.toNatClampNeg (by omega)
    obtain ⟨ch, hch⟩ : ∃ ch, ch = ml_ch I (I 148 x3.toNatClampNeg) := ⟨_, rfl⟩
    rw [← hch] at hk
    refine ⟨v, v, mx_choices hm bo.1 bo.2 gap (fun c0 c4 => ⟨_, I, L, R, rfl, fun e => ?_, fun e => ⟨v, v, fun n4 e4 => ⟨v, fun I5 e5 I6 e6 => ?_⟩⟩⟩)⟩
    · rw [← hch] at c0 c4 e
      obtain ⟨y, hy, sd⟩ : ∃ y, y = x3 + (-1 : Int32) ∧ y.toInt = x3.toInt - 1 := ⟨_, rfl, ml_de1 (by omega)⟩
      rw [← hy]
      exact ih I L R x2 y hm hf (by omega) (by omega) f0 f1 t1 (fun j hj => hn j (by omega)) (by omega)
    rw [← hch] at c0 c4 e
    have sk := ml_in1 (x := x3) (by omega)
    have lt : (I 150 x3.toNatClampNeg).toInt < ch.toInt := by
      have : (I 150 x3.toNatClampNeg).toInt ≠ ch.toInt := fun q => e (en_ofI q)
      omega
    obtain ⟨m6, f6, g6, o6, q6⟩ := ml_try (W := ml_SV) (fun _ => rfl) (by decide +kernel) hm hf hn k2 (by omega) t1 (by rw [← hch]; exact lt) (by rw [← hch]; exact c4) e4 e5 e6
    have s6 : (I 107 63 + 1).toInt = (I 107 63).toInt + 1 := ml_in1 (by omega)
    refine ⟨fun g => ?_, fun g I31 e31 => ?_⟩
    · have g := kl_le.mp g
      rw [g6, (by decide : (1000 : Int32).toInt = 1000)] at g
      have tail : ∀ (J : sm_I) (Lj : sm_L) (Rj : sm_R) (r : Int32), en_mem ml_tb mlX (xLay, J, Lj, Rj) → en_fr ml_SV w0 (xLay, J, Lj, Rj) → (∀ p j, p ≠ 143 → p ≠ 150 → p ≠ 154 → p ≠ 155 → p ≠ 156 → ¬ (p = 107 ∧ (j = 63 ∨ j = 52)) → J p j = I p j) → (∀ j, J 150 j = I6 150 j) → J 107 63 = I6 107 63 → ((r = 0 → sm_wp sm_P S (d + 1) 186 3 [.ref 107, .int x1, .int x2, .int x3] [] (xLay, J, Lj, (kM Rj)) (0, 0) Φ) ∧ (¬ r = 0 → (vp_in x3 70) ∧ ∀ I14 : sm_I, I14 = (sm_up J 149 x3.toNatClampNeg (I 150 x3.toNatClampNeg)) → (((I14 107 59) ≤ (x3 + (1 : Int32)) → ((x1 = 0 → Φ (some (.int (1 : Int32)), (xLay, I14, Lj, (kM Rj)))) ∧ (¬ x1 = 0 → sm_wp sm_P S (d + 1) 186 17 [.ref 107, .int x1, .int x2, .int x3, .int (0 : Int32)] [] (xLay, I14, Lj, (kM Rj)) (0, 0) Φ))) ∧ (¬ (I14 107 59) ≤ (x3 + (1 : Int32)) → (vp_in (x3 + (1 : Int32)) 70) ∧ ∀ I16 : sm_I, I16 = (sm_up I14 150 (x3 + (1 : Int32)).toNatClampNeg (0 : Int32)) → sm_wp sm_P S (d + 1) 186 3 [.ref 107, .int x1, .int x2, .int (x3 + (1 : Int32))] [] (xLay, I16, Lj, (kM Rj)) (0, 0) Φ)))) := by
        intro J Lj Rj r hmJ hfJ oJ cJ tJ
        have itJ : J 107 59 = I 107 59 := oJ 107 59 (by decide) (by decide) (by decide) (by decide) (by decide) (by omega)
        have ncJ : ∀ J' : sm_I, (∀ p j, p ≠ 149 → p ≠ 150 → p ≠ 153 → J' p j = J p j) → ∀ k : Int, (∀ j : Nat, (j : Int) ≤ k → (J' 150 j).toInt ≤ (ml_ch I (I 148 j)).toInt) → ml_nc J' k := by
          intro J' oJ' k hk'
          refine ml_nc_cg (I := I) (fun j => ?_) (fun j => ?_) (fun j => ?_) ?_ (fun j => ?_) hk'
          · rw [oJ' _ _ (by decide) (by decide) (by decide), oJ _ _ (by decide) (by decide) (by decide) (by decide) (by decide) (by omega)]
          · rw [oJ' _ _ (by decide) (by decide) (by decide), oJ _ _ (by decide) (by decide) (by decide) (by decide) (by decide) (by omega)]
          · rw [oJ' _ _ (by decide) (by decide) (by decide), oJ _ _ (by decide) (by decide) (by decide) (by decide) (by decide) (by omega)]
          · rw [oJ' _ _ (by decide) (by decide) (by decide), oJ _ _ (by decide) (by decide) (by decide) (by decide) (by decide) (by omega)]
          · rw [oJ' _ _ (by decide) (by decide) (by decide), oJ _ _ (by decide) (by decide) (by decide) (by decide) (by decide) (by omega)]
        refine ⟨fun _ => ?_, fun _ => ⟨v, fun I14 e14 => ?_⟩⟩
        · exact ih J Lj Rj x2 x3 hmJ hfJ k0 (by rw [itJ]; omega) f0 (by rw [tJ, g6]; omega) (by rw [tJ, g6]; omega) (ncJ J (fun _ _ _ _ _ => rfl) _ (fun j hj => by rw [cJ]; exact q6 j hj)) (by rw [tJ, g6]; omega)
        · have m14 : en_mem ml_tb mlX (xLay, I14, Lj, Rj) := by
            rw [e14]
            exact ml_we2 hmJ rfl (n := 70) (q := (0, 3)) rfl (by show 0 ≤ _ ∧ _ ≤ (3 : Int); omega)
          have f14 : en_fr ml_SV w0 (xLay, I14, Lj, Rj) := by rw [e14]; exact ml_fr hfJ rfl
          have o14 : ∀ p j, p ≠ 149 → I14 p j = J p j := fun p j h => by rw [e14, en_up_ne _ _ _ _ (fun c => h c.1)]
          refine ⟨fun q => ⟨fun _ => hΦ _ _ _ _ (by decide) (by decide) m14 f14, fun _ => ?_⟩, fun q => ?_⟩
          · refine mx_search17 f0 (by omega) I14 (fun J' mJ' fJ' oJ' => ?_) 70 I14 0 m14 f14 (fun _ _ _ => rfl) (by decide) (by rw [kl_0, o14 _ _ (by decide), itJ]; omega)
            have t' : J' 107 63 = I 107 63 + 1 := by rw [oJ' _ _ (by decide), o14 _ _ (by decide), tJ, g6]
            have i' : J' 107 59 = I 107 59 := by rw [oJ' _ _ (by decide), o14 _ _ (by decide), itJ]
            have s2 := ml_in1 (x := x2) (by omega)
            refine ih J' Lj Rj _ x3 mJ' fJ' k0 (by rw [i']; omega) (by omega) (by rw [t']; omega) (by rw [t']; omega) (ncJ J' (fun p j h1 h2 h3 => by rw [oJ' _ _ h3, o14 _ _ h1]) _ (fun j hj => by rw [oJ' _ _ (by decide), o14 _ _ (by decide), cJ]; exact q6 j hj)) (by rw [t']; omega)
          · have q := kl_nle q
            rw [o14 _ _ (by decide), itJ] at q
            refine ⟨kl_in (by omega) (by omega), fun I16 e16 => ?_⟩
            have nk1 := kl_nat (i := x3 + 1) (by omega)
            have o16 : ∀ p j, p ≠ 150 → I16 p j = I14 p j := fun p j h => by rw [e16, en_up_ne _ _ _ _ (fun c => h c.1)]
            have m16 : en_mem ml_tb mlX (xLay, I16, Lj, Rj) := by
              rw [e16]
              exact ml_we2 m14 rfl (n := 70) (q := (0, 4)) rfl (by decide)
            have f16 : en_fr ml_SV w0 (xLay, I16, Lj, Rj) := by rw [e16]; exact ml_fr f14 rfl
            have t' : I16 107 63 = I 107 63 + 1 := by rw [o16 _ _ (by decide), o14 _ _ (by decide), tJ, g6]
            have i' : I16 107 59 = I 107 59 := by rw [o16 _ _ (by decide), o14 _ _ (by decide), itJ]
            refine ih I16 Lj Rj x2 _ m16 f16 (by omega) (by rw [i']; omega) f0 (by rw [t']; omega) (by rw [t']; omega) (ncJ I16 (fun p j h1 h2 h3 => by rw [o16 _ _ h2, o14 _ _ h1]) _ (fun j hj => ?_)) (by rw [t']; omega)
            rw [e16]
            by_cases c : j = (x3 + 1).toNatClampNeg
            · have mi : en_mem ml_tb mlX (xLay, I, L, R) := hm
              have bo' : 0 ≤ (I 148 j).toInt ∧ (I 148 j).toInt ≤ 69 := ml_row hm (p := 148) (n := 70) (q := (0, 69)) (fun _ => rfl) _ (by omega)
              rw [c, en_up_eq, kl_0, ← c]
              exact ml_ch0 hm bo'.1 bo'.2 (hm.2.2.2.2.2.1 _ (by omega))
            · rw [en_up_ne _ _ _ _ (fun q => c q.2), o14 _ _ (by decide), cJ]; exact q6 j (by omega)
      refine ml_cv (c := mlc_8) mlh_8 (Nat.zero_le _) ⟨⟨rfl, rfl⟩, ⟨rfl, k2, (by omega : x3.toInt ≤ 69)⟩, ⟨rfl, (by omega : 1 ≤ (x3 + 1).toInt), (by omega : (x3 + 1).toInt ≤ 70)⟩, trivial⟩ m6 ml_pf0 rfl (fun I7 L7 R7 m7 f7 I10 e10 => ?_)
      obtain ⟨m10, f10, o10⟩ := ml_cop ml_s143 (by decide +kernel) m7 f6 f7 (by omega : 0 ≤ (x3 + 1).toInt) (by omega) e10
      have i10 : I10 148 x3.toNatClampNeg = I 148 x3.toNatClampNeg := by rw [o10 _ _ (by decide) (by omega), o6 _ _ (by decide) (by omega)]
      refine ⟨v, ?_⟩
      rw [i10]
      refine ml_chooses hd m10 bo.1 bo.2 gap bn.1 (by omega) (fun r I11 L11 R11 r0 r1 m11 f11 => ?_)
      have f11' : en_fr ml_SV w0 (xLay, I11, L11, R11) := ml_frt f10 f11 ml_s143
      have o11 : ∀ p j, p ≠ 143 → I11 p j = I10 p j := fun p j h1 => ml_g f11 (ml_143 h1)
      refine ⟨fun _ => ?_, fun _ => ⟨v, ?_⟩⟩
      · exact tail I11 L11 R11 r m11 f11' (fun p j h1 h2 h3 h4 h5 h6 => by rw [o11 _ _ h1, o10 _ _ h1 (fun c => h6 ⟨c.1, Or.inr c.2⟩), o6 _ _ h2 (fun c => h6 ⟨c.1, Or.inl c.2⟩)]) (fun j => by rw [o11 _ _ (by decide), o10 _ _ (by decide) (by omega)]) (by rw [o11 _ _ (by decide), o10 _ _ (by decide) (by omega)])
      · have i11 : I11 148 x3.toNatClampNeg = I 148 x3.toNatClampNeg := by rw [o11 _ _ (by decide), i10]
        have t11 : I11 107 63 = I 107 63 + 1 := by rw [o11 _ _ (by decide), o10 _ _ (by decide) (by omega), g6]
        rw [i11]
        refine ml_cv (c := mlc_15) mlh_15 (Nat.zero_le _) ⟨⟨rfl, rfl⟩, ⟨rfl, bo.1, bo.2⟩, ⟨rfl, bn.1, (by omega : _ ≤ (3 : Int))⟩, ⟨rfl, r0, r1⟩, trivial⟩ m11 ?_ rfl (fun I19 L19 R19 m19 f19 => ?_)
        · intro e he
          have he : e ∈ [((107 : Nat), (63 : Nat), (1 : Int), (1000 : Int))] := he
          rw [List.mem_singleton.mp he]
          show (1 : Int) ≤ (I11 107 63).toInt ∧ (I11 107 63).toInt ≤ 1000
          rw [t11]; omega
        · have o19 : ∀ p j, p ≠ 154 → p ≠ 155 → p ≠ 156 → I19 p j = I11 p j := fun p j h1 h2 h3 => ml_g f19 (ml_154 h1 h2 h3)
          exact tail I19 L19 R19 r m19 (ml_frt f11' f19 ml_s154) (fun p j h1 h2 h3 h4 h5 h6 => by rw [o19 _ _ h3 h4 h5, o11 _ _ h1, o10 _ _ h1 (fun c => h6 ⟨c.1, Or.inr c.2⟩), o6 _ _ h2 (fun c => h6 ⟨c.1, Or.inl c.2⟩)]) (fun j => by rw [o19 _ _ (by decide) (by decide) (by decide), o11 _ _ (by decide), o10 _ _ (by decide) (by omega)]) (by rw [o19 _ _ (by decide) (by decide) (by decide), o11 _ _ (by decide), o10 _ _ (by decide) (by omega)])
    · have m31 : en_mem ml_tb mlX (xLay, I31, L, R) := by
        rw [e31]
        exact ml_wf m6 (by decide +kernel) (q := (0, 1)) (by decide +kernel) (by decide)
      exact hΦ x2 I31 L R f0 (by omega) m31 (by rw [e31]; exact ml_fr f6 (by decide +kernel))
end
section
/-! searches: its contract -/
theorem mlh_16 {Sc : sm_C} : en_hold ml_tb mlX sm_P Sc mlc_16 := by
  intro d hd vs w hv hm _
  obtain ⟨vs1, rfl, hv1⟩ := kl_vr (q := 107) rfl hv
  obtain ⟨x1, vs2, rfl, b1, hv2⟩ := kl_vi hv1
  obtain rfl := kl_v0 hv2
  have hd : 7 ≤ d := hd
  obtain ⟨d, rfl⟩ : ∃ d', d = d' + 1 := ⟨d - 1, by omega⟩
  refine ml_top hm (fun I L R hw hm => ?_)
  have fin : ∀ (r : Int32) (I2 : sm_I) (L2 : sm_L) (R2 : sm_R), 0 ≤ r.toInt → r.toInt ≤ 1000 → en_mem ml_tb mlX (xLay, I2, L2, R2) → en_fr ml_SV (xLay, I, L, R) (xLay, I2, L2, R2) → ∃ (o : Option Value) (I3 : sm_I) (L3 : sm_L) (R3 : sm_R), ((some (.int r) : Option Value), ((xLay, I2, L2, kM R2) : sm_W)) = (o, (xLay, I3, L3, kM R3)) ∧ en_pr mlc_16.2.2.2.1 o ∧ en_mem ml_tb mlX (xLay, I3, L3, R3) ∧ en_fr mlc_16.2.2.2.2.1 (xLay, I, L, R) (xLay, I3, L3, R3) := fun r I2 L2 R2 a b m f => ⟨_, I2, L2, R2, rfl, Or.inl ⟨rfl, a, b⟩, m, f⟩
  refine u_X12_searches_0 (fun I1 e1 => ?_)
  have m1 : en_mem ml_tb mlX (xLay, I1, L, R) := by
    rw [e1]
    exact ml_wf (ml_wf hm (by decide +kernel) (q := (0, 1001)) (by decide +kernel) (by decide)) (by decide +kernel) (q := (0, 1)) (by decide +kernel) (by decide)
  have f1 : en_fr ml_SV (xLay, I, L, R) (xLay, I1, L, R) := by rw [e1]; exact ml_fr (ml_fr en_fr_rf (by decide +kernel)) (by decide +kernel)
  refine ⟨fun _ => fin _ _ _ _ (by decide) (by decide) m1 f1, fun a => ⟨kl_in (by decide) (by decide), fun I2 e2 => ?_⟩⟩
  have bi : 0 ≤ (I1 107 59).toInt ∧ (I1 107 59).toInt ≤ 70 := m1.2.1 107 59 (0, 70) (by decide +kernel)
  have a1 : (I1 107 59).toInt ≠ 0 := fun c => a (en_ofI (by rw [c]; decide))
  have m2 : en_mem ml_tb mlX (xLay, I2, L, R) := by
    rw [e2]
    exact ml_we2 m1 rfl (n := 70) (q := (0, 4)) rfl (by decide)
  have o2 : ∀ p j, p ≠ 150 → I2 p j = I1 p j := fun p j h => by rw [e2, en_up_ne _ _ _ _ (fun c => h c.1)]
  have t2 : I2 107 63 = 0 := by rw [o2 _ _ (by decide), e1, en_up_ne _ _ _ _ (by omega), en_up_eq]
  have i2 : I2 107 59 = I1 107 59 := o2 _ _ (by decide)
  refine mx_search3 (by omega) b1 fin 2002 I2 L R 0 0 m2 (by rw [e2]; exact ml_fr f1 rfl) (by decide) (by rw [i2, kl_0]; omega) (by decide) (by rw [t2]; decide) (by rw [t2]; decide) (fun j hj => ?_) (by rw [t2, kl_0]; omega)
  have hj0 : j = 0 := by rw [kl_0] at hj; omega
  have z : I2 150 j = 0 := by rw [hj0, e2]; exact en_up_eq _ _ _ _
  have bo : 0 ≤ (I2 148 j).toInt ∧ (I2 148 j).toInt ≤ 69 := ml_row m2 (p := 148) (n := 70) (q := (0, 69)) (fun _ => rfl) _ (by omega)
  rw [z, kl_0]
  exact ml_ch0 m2 bo.1 bo.2 (m2.2.2.2.2.2.1 _ (by omega))
end
section
/-! methods checked by the engine -/
def mlc_17 : en_Ct := (135, [(2, 107, 0)], [], (9, 0, 0), [(107, [51, 52, 53, 59, 63, 64, 67, 68, 70, 71, 72, 73, 74]), (143, []), (148, []), (149, []), (150, []), (153, []), (154, []), (155, []), (156, [])], 8)
def mlu_17 : List en_Cu := []
/-! X12_goesAll -/
theorem mlh_17 {Sc : sm_C} : en_hold ml_tb mlX sm_P Sc mlc_17 := en_chk_ok mlX_ok (T := [mlc_5, mlc_9, mlc_16, mlc_10]) (cuts := mlu_17) (List.forall_mem_cons.mpr ⟨mlh_5, List.forall_mem_cons.mpr ⟨mlh_9, List.forall_mem_cons.mpr ⟨mlh_16, List.forall_mem_cons.mpr ⟨mlh_10, fun _ h => absurd h List.not_mem_nil⟩⟩⟩⟩) (by decide +kernel)
def mlc_21 : en_Ct := (138, [(2, 107, 0), (0, -2147483648, 2147483647)], [], (0, 0, 1), [(107, [51, 52, 53, 59, 63, 64]), (143, []), (148, []), (149, []), (150, []), (153, []), (154, []), (155, []), (156, [])], 8)
def mlu_21 : List en_Cu := []
/-! X12_hasWay -/
theorem mlh_21 {Sc : sm_C} : en_hold ml_tb mlX sm_P Sc mlc_21 := en_chk_ok mlX_ok (T := [mlc_5, mlc_9, mlc_16]) (cuts := mlu_21) (List.forall_mem_cons.mpr ⟨mlh_5, List.forall_mem_cons.mpr ⟨mlh_9, List.forall_mem_cons.mpr ⟨mlh_16, fun _ h => absurd h List.not_mem_nil⟩⟩⟩) (by decide +kernel)
def mlc_27 : en_Ct := (112, [(2, 107, 0), (0, -2147483648, 2147483647), (0, -2147483648, 2147483647)], [], (0, -3, 3), [(107, [51, 52, 53, 59, 63, 64, 67, 68, 70, 71, 72, 73, 74]), (143, []), (148, []), (149, []), (150, []), (153, []), (154, []), (155, []), (156, [])], 10)
def mlu_27 : List en_Cu := []
/-! X12_choice -/
theorem mlh_27 {Sc : sm_C} : en_hold ml_tb mlX sm_P Sc mlc_27 := en_chk_ok mlX_ok (T := [mlc_26, mlc_17, mlc_9, mlc_10]) (cuts := mlu_27) (List.forall_mem_cons.mpr ⟨mlh_26, List.forall_mem_cons.mpr ⟨mlh_17, List.forall_mem_cons.mpr ⟨mlh_9, List.forall_mem_cons.mpr ⟨mlh_10, fun _ h => absurd h List.not_mem_nil⟩⟩⟩⟩) (by decide +kernel)
def mlc_29 : en_Ct := (118, [(2, 107, 0), (0, -2147483648, 2147483647)], [], (0, -1, 2000), [(107, [51, 52, 53, 59, 63, 64, 67, 68, 70, 71, 72, 73, 74]), (143, []), (148, []), (149, []), (150, []), (153, []), (154, []), (155, []), (156, [])], 9)
def mlu_29 : List en_Cu := []
/-! X12_count -/
theorem mlh_29 {Sc : sm_C} : en_hold ml_tb mlX sm_P Sc mlc_29 := en_chk_ok mlX_ok (T := [mlc_17]) (cuts := mlu_29) (List.forall_mem_cons.mpr ⟨mlh_17, fun _ h => absurd h List.not_mem_nil⟩) (by decide +kernel)
def mlc_40 : en_Ct := (127, [(2, 107, 0), (0, -2147483648, 2147483647)], [], (0, -3, 3), [(107, [51, 52, 53, 59, 63, 64, 67, 68, 70, 71, 72, 73, 74]), (143, []), (148, []), (149, []), (150, []), (153, []), (154, []), (155, []), (156, [])], 9)
def mlu_40 : List en_Cu := [(6, [(2, 107, 0), (0, 0, 9), (0, -2, 3), (0, 0, 1000)], [], [], 2001, [0, 0, 0, -2])]
/-! X12_forced -/
theorem mlh_40 {Sc : sm_C} : en_hold ml_tb mlX sm_P Sc mlc_40 := en_chk_ok mlX_ok (T := [mlc_26, mlc_17, mlc_9, mlc_10]) (cuts := mlu_40) (List.forall_mem_cons.mpr ⟨mlh_26, List.forall_mem_cons.mpr ⟨mlh_17, List.forall_mem_cons.mpr ⟨mlh_9, List.forall_mem_cons.mpr ⟨mlh_10, fun _ h => absurd h List.not_mem_nil⟩⟩⟩⟩) (by decide +kernel)
def mlc_46 : en_Ct := (134, [(2, 107, 0), (0, -2147483648, 2147483647), (0, -2147483648, 2147483647)], [], (0, -3, 3), [(107, [51, 52, 53, 59, 63, 64, 67, 68, 70, 71, 72, 73, 74]), (143, []), (148, []), (149, []), (150, []), (153, []), (154, []), (155, []), (156, [])], 10)
def mlu_46 : List en_Cu := []
/-! X12_goes -/
theorem mlh_46 {Sc : sm_C} : en_hold ml_tb mlX sm_P Sc mlc_46 := en_chk_ok mlX_ok (T := [mlc_26, mlc_17, mlc_9, mlc_10]) (cuts := mlu_46) (List.forall_mem_cons.mpr ⟨mlh_26, List.forall_mem_cons.mpr ⟨mlh_17, List.forall_mem_cons.mpr ⟨mlh_9, List.forall_mem_cons.mpr ⟨mlh_10, fun _ h => absurd h List.not_mem_nil⟩⟩⟩⟩) (by decide +kernel)
def mlc_73 : en_Ct := (206, [(2, 107, 0), (0, -2147483648, 2147483647), (0, -2147483648, 2147483647)], [], (0, -128, 240), [(107, [51, 52, 53, 59, 63, 64, 67, 68, 70, 71, 72, 73, 74]), (143, []), (148, []), (149, []), (150, []), (153, []), (154, []), (155, []), (156, [])], 9)
def mlu_73 : List en_Cu := []
/-! X12_tried -/
theorem mlh_73 {Sc : sm_C} : en_hold ml_tb mlX sm_P Sc mlc_73 := en_chk_ok mlX_ok (T := [mlc_17]) (cuts := mlu_73) (List.forall_mem_cons.mpr ⟨mlh_17, fun _ h => absurd h List.not_mem_nil⟩) (by decide +kernel)
def mlc_75 : en_Ct := (211, [(2, 107, 0)], [], (0, -3, 1000), [(107, [51, 52, 53, 59, 63, 64, 67, 68, 70, 71, 72, 73, 74]), (143, []), (148, []), (149, []), (150, []), (153, []), (154, []), (155, []), (156, [])], 9)
def mlu_75 : List en_Cu := []
/-! X12_ways -/
theorem mlh_75 {Sc : sm_C} : en_hold ml_tb mlX sm_P Sc mlc_75 := en_chk_ok mlX_ok (T := [mlc_17]) (cuts := mlu_75) (List.forall_mem_cons.mpr ⟨mlh_17, fun _ h => absurd h List.not_mem_nil⟩) (by decide +kernel)
end
section
/-! oneMore, lays, gives -/
theorem ml_lv {w : sm_W} (hm : en_mem ml_tb mlX w) : mlV w.2.1 (w.2.1 107 18).toNatClampNeg := hm.2.2.2.2.2.2.1 _ (ml_live hm).2.2.1
theorem mx_oneMore1 {S : sm_C} {d : Nat} {Φ : sm_Z → Prop} {w0 : sm_W} {x1 x2 : Int32} (b1 : 0 ≤ x1.toInt ∧ x1.toInt ≤ 3) (b2 : 0 ≤ x2.toInt ∧ x2.toInt ≤ 5) (hΦ : ∀ (I : sm_I) (L : sm_L) (R : sm_R), en_mem ml_tb mlX (xLay, I, L, R) → en_fr ml_SW w0 (xLay, I, L, R) → I 107 63 = 0 → Φ (none, (xLay, I, L, kM R))) : ∀ (m : Nat) (I : sm_I) (L : sm_L) (R : sm_R) (x3 : Int32), en_mem ml_tb mlX (xLay, I, L, R) → en_fr ml_SW w0 (xLay, I, L, R) → 0 ≤ x3.toInt → x3.toInt ≤ 10 → (I 107 67).toInt ≤ x3.toInt → 10 - x3.toInt < m → sm_wp sm_P S (d + 1) 170 1 [.ref 107, .int x1, .int x2, .int x3] [] (xLay, I, L, kM R) (0, 0) Φ := by
  intro m
  induction m with
  | zero => intro I L R x3 hm hf h0 h1 he hM; omega
  | succ m ih =>
    intro I L R x3 hm hf h0 h1 he hM
    obtain ⟨l0, l1, ln, lc⟩ := ml_live hm
    have l0 : 0 ≤ (I 107 18).toInt := l0
    have l1 : (I 107 18).toInt ≤ 1 := l1
    have ln : ((I 107 18).toNatClampNeg : Int) = (I 107 18).toInt := ln
    have bt : 0 ≤ (I 122 (I 107 18).toNatClampNeg).toInt ∧ (I 122 (I 107 18).toNatClampNeg).toInt ≤ 10 := ml_row hm (p := 122) (n := 2) (q := (0, 10)) (fun _ => rfl) _ (by omega)
    have be : 0 ≤ (I 107 67).toInt ∧ (I 107 67).toInt ≤ 10 := hm.2.1 107 67 (0, 10) (by decide +kernel)
    have c10 : (10 : Int32).toInt = 10 := by decide
    have c6 : (6 : Int32).toInt = 6 := by decide
    refine u_X12_oneMore_1 ⟨kl_in l0 (by omega), fun _ => ?_, fun a n11 e11 => ?_⟩
    · refine ml_ci (c := mlc_10) mlh_10 (Nat.zero_le _) ⟨⟨rfl, rfl⟩, trivial⟩ hm ml_pf0 rfl (fun r I1 L1 R1 r0 r1 m1 f1 => ?_)
      refine ml_cv (c := mlc_9) mlh_9 (Nat.zero_le _) ⟨⟨rfl, rfl⟩, ⟨rfl, en_crange.1, en_crange.2⟩, trivial⟩ m1 ml_pf0 rfl (fun I4 L4 R4 m4 f4 I7 e7 I8 e8 => ?_)
      refine hΦ I8 L4 R4 ?_ ?_ ?_
      · rw [e8, e7]
        exact ml_wf (ml_wf m4 (by decide +kernel) (q := (0, 1001)) (by decide +kernel) (by decide)) (by decide +kernel) (q := (0, 1)) (by decide +kernel) (by decide)
      · rw [e8, e7]
        exact ml_fr (ml_fr (ml_frt (ml_frt hf f1 (by decide +kernel)) f4 (by decide +kernel)) (by decide +kernel)) (by decide)
      · rw [e8, en_up_ne _ _ _ _ (by omega), e7, en_up_eq]
    · have a := kl_nle a
      have n3 := kl_nat h0
      have s := ml_in1 (x := x3) (by omega)
      have e1 : ((10 : Int32) * I 107 18).toInt = 10 * (I 107 18).toInt := ml_mu c10 rfl (by omega) (by omega)
      have e2 : n11.toInt = 10 * (I 107 18).toInt + x3.toInt := by rw [e11]; exact ml_ad e1 rfl (by omega) (by omega)
      have nn := kl_nat (i := n11) (by omega)
      have v : vp_in n11 20 := kl_in (by omega) (by omega)
      have go : sm_wp sm_P S (d + 1) 170 1 [.ref 107, .int x1, .int x2, .int (x3 + 1)] [] (xLay, I, L, kM R) (0, 0) Φ := ih I L R _ hm hf (by omega) (by omega) (by omega) (by omega)
      refine ⟨v, fun p1 => ⟨v, fun _ => go, fun p2 => ⟨kl_in be.1 (by omega), fun I12 e12 => ?_⟩⟩, fun _ => go⟩
      have V := (ml_lv hm).1 x3.toNatClampNeg (by rw [n3]; exact a) (by
        show (I 123 (10 * (I 107 18).toNatClampNeg + x3.toNatClampNeg)).toInt ≠ -1
        rw [show 10 * (I 107 18).toNatClampNeg + x3.toNatClampNeg = n11.toNatClampNeg by omega, p1]; omega)
      have V : 0 ≤ (I 124 n11.toNatClampNeg).toInt := by
        rw [show n11.toNatClampNeg = 10 * (I 107 18).toNatClampNeg + x3.toNatClampNeg by omega]; exact V
      have bp : -1 ≤ (I 124 n11.toNatClampNeg).toInt ∧ (I 124 n11.toNatClampNeg).toInt ≤ 5 := ml_row hm (p := 124) (n := 20) (q := (-1, 5)) (fun _ => rfl) _ (by omega)
      have o12 : ∀ p j, p ≠ 151 → I12 p j = I p j := fun p j h => by rw [e12, en_up_ne _ _ _ _ (fun c => h c.1)]
      have m12 : en_mem ml_tb mlX (xLay, I12, L, R) := by
        rw [e12]
        exact ml_we2 hm rfl (n := 10) (q := (0, 9)) rfl (by show 0 ≤ _ ∧ _ ≤ (9 : Int); omega)
      refine ⟨v, fun n13 e13 => ?_⟩
      rw [o12 _ _ (by decide)] at e13
      have q1 : ((6 : Int32) * I 124 n11.toNatClampNeg).toInt = 6 * (I 124 n11.toNatClampNeg).toInt := ml_mu c6 rfl (by omega) (by omega)
      have q2 : n13.toInt = 6 * (I 124 n11.toNatClampNeg).toInt + x2.toInt := by rw [e13]; exact ml_ad q1 rfl (by omega) (by omega)
      refine ⟨kl_in (by omega) (by omega), by rw [o12 _ _ (by decide)]; exact kl_in be.1 (by omega), fun I14 e14 I15 e15 => ?_⟩
      have m14 : en_mem ml_tb mlX (xLay, I14, L, R) := by
        rw [e14]
        exact ml_we2 m12 rfl (n := 10) (q := (-2147483648, 2147483647)) rfl en_crange
      have g14 : I14 107 67 = I 107 67 := by rw [e14, en_up_ne _ _ _ _ (fun c => absurd c.1 (by decide)), o12 _ _ (by decide)]
      have s67 : (I 107 67 + 1).toInt = (I 107 67).toInt + 1 := ml_in1 (by omega)
      have g15 : I15 107 67 = I 107 67 + 1 := by rw [e15, g14, en_up_eq]
      refine ih I15 L R _ ?_ ?_ (by omega) (by omega) (by rw [g15]; omega) (by omega)
      · rw [e15, g14]
        exact ml_wf m14 (by decide +kernel) (q := (0, 10)) (by decide +kernel) (by show 0 ≤ _ ∧ _ ≤ (10 : Int); omega)
      · rw [e15]
        refine ml_fr ?_ (by decide)
        rw [e14]
        refine ml_fr ?_ rfl
        rw [e12]
        exact ml_fr hf rfl
theorem mx_oneMore {S : sm_C} {d : Nat} {Φ : sm_Z → Prop} {w0 : sm_W} {x1 x2 : Int32} (b1 : 0 ≤ x1.toInt ∧ x1.toInt ≤ 3) (b2 : 0 ≤ x2.toInt ∧ x2.toInt ≤ 5) {I : sm_I} {L : sm_L} {R : sm_R} (hm : en_mem ml_tb mlX (xLay, I, L, R)) (hf : en_fr ml_SW w0 (xLay, I, L, R)) (hΦ : ∀ (I : sm_I) (L : sm_L) (R : sm_R), en_mem ml_tb mlX (xLay, I, L, R) → en_fr ml_SW w0 (xLay, I, L, R) → I 107 63 = 0 → Φ (none, (xLay, I, L, kM R))) : sm_wp sm_P S (d + 1) 170 0 [.ref 107, .int x1, .int x2] [] (xLay, I, L, kM R) (0, 0) Φ := by
  refine u_X12_oneMore_0 (fun I1 e1 I2 e2 => ?_)
  refine mx_oneMore1 b1 b2 hΦ 11 I2 L R 0 ?_ ?_ (by decide) (by decide) ?_ (by decide)
  · rw [e2, e1]
    exact ml_wf (ml_wf (ml_wf hm (by decide +kernel) (q := (0, 1)) (by decide +kernel) (by decide)) (by decide +kernel) (q := (-2147483648, 2147483647)) (by decide +kernel) (by decide)) (by decide +kernel) (q := (0, 10)) (by decide +kernel) (by decide)
  · rw [e2, e1]
    exact ml_fr (ml_fr (ml_fr hf (by decide +kernel)) (by decide +kernel)) (by decide)
  · rw [e2, en_up_eq]; decide
theorem mlh_11 {Sc : sm_C} : en_hold ml_tb mlX sm_P Sc mlc_11 := by
  intro d hd vs w hv hm _
  obtain ⟨vs1, rfl, hv1⟩ := kl_vr (q := 107) rfl hv
  obtain ⟨x1, vs2, rfl, b1, hv2⟩ := kl_vi hv1
  obtain ⟨x2, vs3, rfl, b2, hv3⟩ := kl_vi hv2
  obtain rfl := kl_v0 hv3
  have hd : 3 ≤ d := hd
  obtain ⟨d, rfl⟩ : ∃ d', d = d' + 1 := ⟨d - 1, by omega⟩
  refine ml_top hm (fun I L R hw hm => ?_)
  exact mx_oneMore b1 b2 hm en_fr_rf (fun I2 L2 R2 m f _ => ⟨none, I2, L2, R2, rfl, rfl, m, f⟩)
theorem mx_lays3 {S : sm_C} {d : Nat} {Φ : sm_Z → Prop} {w0 : sm_W} {x1 : Int32} (hd : 4 ≤ d) (b1 : 0 ≤ x1.toInt ∧ x1.toInt ≤ 999) (hΦ : ∀ (r : Int32) (I : sm_I) (L : sm_L) (R : sm_R), 0 ≤ r.toInt → r.toInt ≤ 1 → en_mem ml_tb mlX (xLay, I, L, R) → en_fr ml_SW w0 (xLay, I, L, R) → Φ (some (.int r), (xLay, I, L, kM R))) : ∀ (m : Nat) (I : sm_I) (L : sm_L) (R : sm_R) (x3 : Int32), en_mem ml_tb mlX (xLay, I, L, R) → en_fr ml_SW w0 (xLay, I, L, R) → 0 ≤ x3.toInt → (I 107 59).toInt - x3.toInt ≤ m → sm_wp sm_P S (d + 1) 156 3 [.ref 107, .int x1, .int x3] [] (xLay, I, L, kM R) (0, 0) Φ := by
  intro m
  induction m with
  | zero =>
    intro I L R x3 hm hf h0 hM
    refine u_X12_lays_3 ⟨fun _ => hΦ _ I L R (by decide) (by decide) hm hf, fun a => ?_⟩
    have := kl_nle a
    omega
  | succ m ih =>
    intro I L R x3 hm hf h0 hM
    have bi : 0 ≤ (I 107 59).toInt ∧ (I 107 59).toInt ≤ 70 := hm.2.1 107 59 (0, 70) (by decide +kernel)
    have c55 : (55 : Int32).toInt = 55 := by decide
    refine u_X12_lays_3 ⟨fun _ => hΦ _ I L R (by decide) (by decide) hm hf, fun a => ?_⟩
    have a := kl_nle a
    have n3 := kl_nat h0
    have s := ml_in1 (x := x3) (by omega)
    have e1 : ((55 : Int32) * x1).toInt = 55 * x1.toInt := ml_mu c55 rfl (by omega) (by omega)
    have e2 : ((55 : Int32) * x1 + x3).toInt = 55 * x1.toInt + x3.toInt := ml_ad e1 rfl (by omega) (by omega)
    have ne := kl_nat (i := (55 : Int32) * x1 + x3) (by omega)
    have bo : 0 ≤ (I 148 x3.toNatClampNeg).toInt ∧ (I 148 x3.toNatClampNeg).toInt ≤ 69 := ml_row hm (p := 148) (n := 70) (q := (0, 69)) (fun _ => rfl) _ (by omega)
    have bw : 0 ≤ (I 153 ((55 : Int32) * x1 + x3).toNatClampNeg).toInt ∧ (I 153 ((55 : Int32) * x1 + x3).toNatClampNeg).toInt ≤ 3 := ml_row hm (p := 153) (n := 55100) (q := (0, 3)) (fun _ => rfl) _ (by omega)
    refine ⟨kl_in h0 (by omega), kl_in (by omega) (by omega), fun n1 en1 => ?_⟩
    refine ml_chooses hd hm bo.1 bo.2 (hm.2.2.2.2.2.1 _ (by omega)) (by rw [en1]; exact bw.1) (by rw [en1]; exact bw.2) (fun r I2 L2 R2 r0 r1 m2 f2 => ?_)
    have hf2 : en_fr ml_SW w0 (xLay, I2, L2, R2) := ml_frt hf f2 (by decide +kernel)
    have g2 : I2 107 59 = I 107 59 := ml_g f2 rfl
    exact ⟨fun _ => hΦ _ I2 L2 R2 (by decide) (by decide) m2 hf2, fun _ => ih I2 L2 R2 _ m2 hf2 (by omega) (by rw [g2]; omega)⟩
theorem mlh_18 {Sc : sm_C} : en_hold ml_tb mlX sm_P Sc mlc_18 := by
  intro d hd vs w hv hm _
  obtain ⟨vs1, rfl, hv1⟩ := kl_vr (q := 107) rfl hv
  obtain ⟨x1, vs2, rfl, b1, hv2⟩ := kl_vi hv1
  obtain ⟨x2, vs3, rfl, b2, hv3⟩ := kl_vi hv2
  obtain rfl := kl_v0 hv3
  have hd : 7 ≤ d := hd
  obtain ⟨d, rfl⟩ : ∃ d', d = d' + 1 := ⟨d - 1, by omega⟩
  refine ml_top hm (fun I L R hw hm => ?_)
  have fin : ∀ (r : Int32) (I2 : sm_I) (L2 : sm_L) (R2 : sm_R), 0 ≤ r.toInt → r.toInt ≤ 1 → en_mem ml_tb mlX (xLay, I2, L2, R2) → en_fr ml_SW (xLay, I, L, R) (xLay, I2, L2, R2) → ∃ (o : Option Value) (I3 : sm_I) (L3 : sm_L) (R3 : sm_R), ((some (.int r) : Option Value), ((xLay, I2, L2, kM R2) : sm_W)) = (o, (xLay, I3, L3, kM R3)) ∧ en_pr mlc_18.2.2.2.1 o ∧ en_mem ml_tb mlX (xLay, I3, L3, R3) ∧ en_fr mlc_18.2.2.2.2.1 (xLay, I, L, R) (xLay, I3, L3, R3) := fun r I2 L2 R2 a b m f => ⟨_, I2, L2, R2, rfl, Or.inl ⟨rfl, a, b⟩, m, f⟩
  have h01 : x2 = 0 ∨ x2 = 1 := by
    rcases ml_i3 b2.1 (by omega) with e | e | e | e
    · exact Or.inl e
    · exact Or.inr e
    · subst e; exact absurd b2.2 (by decide)
    · subst e; exact absurd b2.2 (by decide)
  refine u_X12_lays_0 ⟨h01, fun I1 e1 I2 e2 => ?_⟩
  have m2 : en_mem ml_tb mlX (xLay, I2, L, R) := by
    rw [e2, e1]
    exact ml_wf (ml_wf (ml_wf hm (by decide +kernel) (q := (0, 1)) (by decide +kernel) b2) (by decide +kernel) (q := (-2147483648, 2147483647)) (by decide +kernel) (by decide)) (by decide +kernel) (q := (0, 10)) (by decide +kernel) (by decide)
  have f2 : en_fr ml_SW (xLay, I, L, R) (xLay, I2, L, R) := by
    rw [e2, e1]
    exact ml_fr (ml_fr (ml_fr en_fr_rf (by decide +kernel)) (by decide +kernel)) (by decide)
  refine ml_ci (c := mlc_10) mlh_10 (Nat.zero_le _) ⟨⟨rfl, rfl⟩, trivial⟩ m2 ml_pf0 rfl (fun r I3 L3 R3 r0 r1 m3 f3 => ?_)
  refine ml_cv (c := mlc_9) mlh_9 (Nat.zero_le _) ⟨⟨rfl, rfl⟩, ⟨rfl, en_crange.1, en_crange.2⟩, trivial⟩ m3 ml_pf0 rfl (fun I4 L4 R4 m4 f4 => ?_)
  obtain ⟨l0, l1, ln, lc⟩ := ml_live m4
  have l0 : 0 ≤ (I4 107 18).toInt := l0
  have l1 : (I4 107 18).toInt ≤ 1 := l1
  have ln : ((I4 107 18).toNatClampNeg : Int) = (I4 107 18).toInt := ln
  have bt : 0 ≤ (I4 122 (I4 107 18).toNatClampNeg).toInt ∧ (I4 122 (I4 107 18).toNatClampNeg).toInt ≤ 10 := ml_row m4 (p := 122) (n := 2) (q := (0, 10)) (fun _ => rfl) _ (by omega)
  refine ⟨kl_in l0 (by omega), fun n9 e9 => ?_⟩
  have s9 : n9.toInt = (I4 122 (I4 107 18).toNatClampNeg).toInt + 1 := by rw [e9]; exact ml_in1 (by omega)
  refine ml_ci (c := mlc_5) mlh_5 (by show 4 ≤ d; omega) ⟨⟨rfl, rfl⟩, ⟨rfl, (by omega : (1 : Int) ≤ n9.toInt), (by omega : n9.toInt ≤ (12 : Int))⟩, trivial⟩ m4 ml_pf0 rfl (fun r5 I5 L5 R5 q0 q1 m5 f5 => ?_)
  have hf5 : en_fr ml_SW (xLay, I, L, R) (xLay, I5, L5, R5) := ml_frt (ml_frt (ml_frt f2 f3 (by decide +kernel)) f4 (by decide +kernel)) f5 (by decide)
  refine ⟨fun _ => fin _ _ _ _ (by decide) (by decide) m5 hf5, fun _ => ?_⟩
  refine ml_cv (c := mlc_8) mlh_8 (Nat.zero_le _) ⟨⟨rfl, rfl⟩, ⟨rfl, by decide, by decide⟩, ⟨rfl, by decide, by decide⟩, trivial⟩ m5 ml_pf0 rfl (fun I6 L6 R6 m6 f6 I7 e7 => ?_)
  have m7 : en_mem ml_tb mlX (xLay, I7, L6, R6) := by
    rw [e7]
    exact ml_wf m6 (by decide +kernel) (q := (0, 70)) (by decide +kernel) (by decide)
  have bi : 0 ≤ (I7 107 59).toInt ∧ (I7 107 59).toInt ≤ 70 := m7.2.1 107 59 (0, 70) (by decide +kernel)
  exact mx_lays3 (by omega) b1 fin 70 I7 L6 R6 0 m7 (by rw [e7]; exact ml_fr (ml_frt hf5 f6 (by decide +kernel)) (by decide +kernel)) (by decide) (by rw [kl_0]; omega)
theorem ml_half {x y : Int32} (h0 : 0 ≤ x.toInt) (h1 : x.toInt < y.toInt) (h2 : y.toInt ≤ 1441) : ((x + y) / (2 : Int32)).toInt = (x.toInt + y.toInt) / 2 := by
  have c2 : (2 : Int32).toInt = 2 := by decide
  have s : (x + y).toInt = x.toInt + y.toInt := ml_ad rfl rfl (by omega) (by omega)
  rw [Int32.toInt_div, s, c2, Int.tdiv_eq_ediv_of_nonneg (by omega)]
  exact en_bmod (by omega) (by omega) (Or.inl rfl)
theorem mx_gives1 {S : sm_C} {d : Nat} {Φ : sm_Z → Prop} {w0 : sm_W} (hd : mlc_21.2.2.2.2.2 ≤ d) (hΦ : ∀ (r : Int32) (I : sm_I) (L : sm_L) (R : sm_R), en_mem ml_tb mlX (xLay, I, L, R) → en_fr ml_SW w0 (xLay, I, L, R) → Φ (some (.int r), (xLay, I, L, kM R))) : ∀ (m : Nat) (I : sm_I) (L : sm_L) (R : sm_R) (x2 x3 : Int32), en_mem ml_tb mlX (xLay, I, L, R) → en_fr ml_SW w0 (xLay, I, L, R) → 0 ≤ x2.toInt → x2.toInt ≤ x3.toInt → x3.toInt ≤ 1441 → x3.toInt - x2.toInt < m → sm_wp sm_P S (d + 1) 131 1 [.ref 107, .int x2, .int x3] [] (xLay, I, L, kM R) (0, 0) Φ := by
  intro m
  induction m with
  | zero => intro I L R x2 x3 hm hf h0 h1 h2 hM; omega
  | succ m ih =>
    intro I L R x2 x3 hm hf h0 h1 h2 hM
    refine u_X12_gives_1 ⟨fun _ => hΦ _ I L R hm hf, fun a => ⟨by decide, fun I1 e1 => ?_⟩⟩
    have a := kl_nle a
    have hh := ml_half h0 a h2
    have m1 : en_mem ml_tb mlX (xLay, I1, L, R) := by
      rw [e1]
      exact ml_wf hm (by decide +kernel) (q := (0, 1441)) (by decide +kernel) (by show 0 ≤ _ ∧ _ ≤ (1441 : Int); omega)
    refine ml_ci (c := mlc_10) mlh_10 (Nat.zero_le _) ⟨⟨rfl, rfl⟩, trivial⟩ m1 ml_pf0 rfl (fun r I2 L2 R2 r0 r1 m2 f2 => ?_)
    refine ml_ci (c := mlc_21) mlh_21 hd ⟨⟨rfl, rfl⟩, ⟨rfl, en_crange.1, en_crange.2⟩, trivial⟩ m2 ml_pf0 rfl (fun r3 I3 L3 R3 q0 q1 m3 f3 => ?_)
    have hf3 : en_fr ml_SW w0 (xLay, I3, L3, R3) := ml_frt (ml_frt (by rw [e1]; exact ml_fr hf (by decide +kernel)) f2 (by decide +kernel)) f3 (by decide)
    refine ⟨fun _ => ⟨fun _ n8 e8 => ?_, fun _ => ?_⟩, fun _ => hΦ _ _ _ _ m3 hf3⟩
    · have s8 : n8.toInt = (x2.toInt + x3.toInt) / 2 + 1 := by rw [e8, ml_in1 (by omega), hh]
      exact ih I3 L3 R3 n8 x3 m3 hf3 (by omega) (by omega) h2 (by omega)
    · exact ih I3 L3 R3 x2 _ m3 hf3 h0 (by omega) (by omega) (by omega)
theorem mlh_42 {Sc : sm_C} : en_hold ml_tb mlX sm_P Sc mlc_42 := by
  intro d hd vs w hv hm _
  obtain ⟨vs1, rfl, hv1⟩ := kl_vr (q := 107) rfl hv
  obtain ⟨x1, vs2, rfl, b1, hv2⟩ := kl_vi hv1
  obtain rfl := kl_v0 hv2
  have hd : 10 ≤ d := hd
  obtain ⟨d, rfl⟩ : ∃ d', d = d' + 1 := ⟨d - 1, by omega⟩
  refine ml_top hm (fun I L R hw hm => ?_)
  refine u_X12_gives_0 (fun I1 e1 => ?_)
  refine mx_gives1 (by show mlc_21.2.2.2.2.2 ≤ d; exact Nat.le_trans (by decide : _ ≤ 9) (by omega)) (fun r I2 L2 R2 m f => ⟨_, I2, L2, R2, rfl, Or.inl ⟨rfl, en_crange.1, en_crange.2⟩, m, f⟩) 1442 I1 L R 0 1441 ?_ ?_ (by decide) (by decide) (by decide) (by decide)
  · rw [e1]
    exact ml_wf (ml_wf hm (by decide +kernel) (q := (-2147483648, 2147483647)) (by decide +kernel) en_crange) (by decide +kernel) (q := (0, 10)) (by decide +kernel) (by decide)
  · rw [e1]
    exact ml_fr (ml_fr en_fr_rf (by decide +kernel)) (by decide)
end
section
/-! sets: as many QUARRELS as sets seen -/
theorem ml_and {x y : Int32} {m : Int} (h0 : 0 ≤ x.toInt) (h1 : x.toInt ≤ m) : 0 ≤ (x &&& y).toInt ∧ (x &&& y).toInt ≤ m := by
  have r := en_crange (x := x)
  have hb := en_bits h0
  have : (x &&& y).toBitVec.toNat ≤ x.toBitVec.toNat := by
    rw [Int32.toBitVec_and, BitVec.toNat_and]; exact Nat.and_le_left
  have h5 := en_bits2 this (by omega)
  omega
theorem ml_and' {x y : Int32} {m : Int} (h0 : 0 ≤ y.toInt) (h1 : y.toInt ≤ m) : 0 ≤ (x &&& y).toInt ∧ (x &&& y).toInt ≤ m := by
  have r := en_crange (x := y)
  have hb := en_bits h0
  have : (x &&& y).toBitVec.toNat ≤ y.toBitVec.toNat := by
    rw [Int32.toBitVec_and, BitVec.toNat_and]; exact Nat.and_le_right
  have h5 := en_bits2 this (by omega)
  omega
theorem ml_or {x y : Int32} (h1 : 0 ≤ x.toInt ∧ x.toInt ≤ 1023) (h2 : 0 ≤ y.toInt ∧ y.toInt ≤ 1023) : 0 ≤ (x ||| y).toInt ∧ (x ||| y).toInt ≤ 1023 := by
  have b1 := en_bits (x := x) h1.1
  have b2 := en_bits (x := y) h2.1
  have : (x ||| y).toBitVec.toNat < 2 ^ 10 := by
    rw [Int32.toBitVec_or, BitVec.toNat_or]
    exact Nat.or_lt_two_pow (by show _ < 1024; omega) (by show _ < 1024; omega)
  exact en_bits2 (m := 1023) (Nat.le_of_lt_succ this) (by decide)
theorem ml_shl9 : ∀ k : Nat, k ≤ 9 → 0 ≤ ((1 : Int32) <<< (Int32.ofNat k &&& 31)).toInt ∧ ((1 : Int32) <<< (Int32.ofNat k &&& 31)).toInt ≤ 1023 := by decide
theorem ml_ofN {y : Int32} (h : 0 ≤ y.toInt) : y = Int32.ofNat y.toNatClampNeg := by
  have n := kl_nat h
  have r := en_crange (x := y)
  refine en_ofI ?_
  rw [Int32.toInt_ofNat_of_lt (by omega)]
  exact n.symm
theorem ml_shl {y : Int32} (h0 : 0 ≤ y.toInt) (h1 : y.toInt ≤ 9) : 0 ≤ ((1 : Int32) <<< (y &&& 31)).toInt ∧ ((1 : Int32) <<< (y &&& 31)).toInt ≤ 1023 := by
  have n := kl_nat h0
  rw [ml_ofN h0]
  exact ml_shl9 _ (by omega)
def ml_bt (x : Int32) : Nat → Int32 → Int32 → Int32
  | 0, a, _ => a
  | m + 1, a, k => ml_bt x m (a + ((x >>> (k &&& 31)) &&& 1)) (k + 1)
theorem ml_bt_le (x : Int32) : ∀ (m : Nat) (a k : Int32), 0 ≤ a.toInt → a.toInt + m ≤ 1000 → 0 ≤ (ml_bt x m a k).toInt ∧ (ml_bt x m a k).toInt ≤ a.toInt + m
  | 0, a, k, h0, h1 => ⟨h0, by show a.toInt ≤ a.toInt + 0; omega⟩
  | m + 1, a, k, h0, h1 => by
    have b := ml_and' (x := x >>> (k &&& 31)) (y := 1) (m := 1) (by decide) (by decide)
    have s : (a + ((x >>> (k &&& 31)) &&& 1)).toInt = a.toInt + ((x >>> (k &&& 31)) &&& 1).toInt := ml_ad rfl rfl (by omega) (by omega)
    have r := ml_bt_le x m (a + ((x >>> (k &&& 31)) &&& 1)) (k + 1) (by omega) (by omega)
    show 0 ≤ (ml_bt x m (a + ((x >>> (k &&& 31)) &&& 1)) (k + 1)).toInt ∧ (ml_bt x m (a + ((x >>> (k &&& 31)) &&& 1)) (k + 1)).toInt ≤ _
    omega
theorem mx_bits1 {S : sm_C} {d : Nat} {Φ : sm_Z → Prop} {I : sm_I} {L : sm_L} {R : sm_R} {x0 : Int32} : ∀ (m : Nat) (x1 x2 : Int32), 0 ≤ x2.toInt → x2.toInt + m = 10 → Φ (some (.int (ml_bt x0 m x1 x2)), (xLay, I, L, kM R)) → sm_wp sm_P S d 105 1 [.int x0, .int x1, .int x2] [] (xLay, I, L, kM R) (0, 0) Φ := by
  have c10 : (10 : Int32).toInt = 10 := by decide
  intro m
  induction m with
  | zero =>
    intro x1 x2 h0 h1 h
    refine v_X12_bits_1 ⟨fun _ => h, fun a => ?_⟩
    have := kl_nle a
    omega
  | succ m ih =>
    intro x1 x2 h0 h1 h
    have s := ml_in1 (x := x2) (by omega)
    refine v_X12_bits_1 ⟨fun a => ?_, fun a n1 e1 => ?_⟩
    · have := kl_le.mp a
      omega
    · rw [e1]
      exact ih _ _ (by omega) (by omega) h
theorem mx_bits {S : sm_C} {d : Nat} {Φ : sm_Z → Prop} {I : sm_I} {L : sm_L} {R : sm_R} {x0 : Int32} (h : Φ (some (.int (ml_bt x0 10 0 0)), (xLay, I, L, kM R))) : sm_wp sm_P S d 105 0 [.int x0] [] (xLay, I, L, kM R) (0, 0) Φ := v_X12_bits_0 (mx_bits1 10 0 0 (by decide) (by decide) h)
def ml_f (i : Nat) : Int := (ml_bt (Int32.ofInt i) 10 0 0).toInt
def ml_C (n : Int) (s : Nat) : Nat := (List.range 1024).countP (fun i => decide (ml_f i < n ∨ (ml_f i = n ∧ i < s)))
theorem ml_cnt {p q : Nat → Bool} (h : ∀ a, p a = true → q a = true) {a : Nat} (ha : q a = true) (hn : p a = false) : ∀ l : List Nat, a ∈ l → l.countP p + 1 ≤ l.countP q
  | [], hl => absurd hl List.not_mem_nil
  | b :: l, hl => by
    have m : l.countP p ≤ l.countP q := List.countP_mono_left (fun x _ => h x)
    rw [List.countP_cons, List.countP_cons]
    by_cases e : a = b
    · subst e
      rw [ha, hn]; simp; omega
    · have hl : a ∈ l := by
        rcases List.mem_cons.mp hl with e2 | e2
        · exact absurd e2 e
        · exact e2
      have r := ml_cnt h ha hn l hl
      cases pb : p b with
      | true => rw [h b pb]; simp; omega
      | false => cases q b <;> simp <;> omega
theorem ml_C_le (n : Int) (s : Nat) : ml_C n s ≤ 1024 := by
  unfold ml_C
  have := List.countP_le_length (p := fun i => decide (ml_f i < n ∨ (ml_f i = n ∧ i < s))) (l := List.range 1024)
  rw [List.length_range] at this
  exact this
theorem ml_C_st {n : Int} {s : Nat} (hs : s < 1024) (h : ml_f s = n) : ml_C n s + 1 ≤ ml_C n (s + 1) := by
  unfold ml_C
  refine ml_cnt (a := s) (fun a ha => ?_) ?_ ?_ _ (List.mem_range.mpr hs)
  · have := of_decide_eq_true ha
    exact decide_eq_true (by omega)
  · exact decide_eq_true (by omega)
  · exact decide_eq_false (by omega)
theorem ml_C_mo (n : Int) (s : Nat) : ml_C n s ≤ ml_C n (s + 1) := by
  unfold ml_C
  refine List.countP_mono_left (fun a _ ha => ?_)
  have := of_decide_eq_true ha
  exact decide_eq_true (by omega)
theorem ml_C_nx (n : Int) (s : Nat) : ml_C n s ≤ ml_C (n + 1) 0 := by
  unfold ml_C
  refine List.countP_mono_left (fun a _ ha => ?_)
  have := of_decide_eq_true ha
  exact decide_eq_true (by omega)
theorem ml_f_eq {x : Int32} (h : 0 ≤ x.toInt) : ml_f x.toNatClampNeg = (ml_bt x 10 0 0).toInt := by
  unfold ml_f
  rw [kl_nat h, Int32.ofInt_toInt]
/-- how many are kept -/
def ml_Q (I : sm_I) (c : Nat) : Prop := (I 107 82).toInt ≤ c ∧ (I 107 84).toInt ≤ c
theorem ml_qadd {I J K : sm_I} {L : sm_L} {R : sm_R} {w0 : sm_W} {p q : Nat} {v : Int32} (hp : (p = 158 ∧ q = 82) ∨ (p = 159 ∧ q = 84)) (hm : en_mem ml_tb mlX (xLay, I, L, R)) (hf : en_fr ml_SW w0 (xLay, I, L, R)) (hn : (I 107 q).toInt ≤ 1023) (hv : 0 ≤ v.toInt ∧ v.toInt ≤ 1023) (e1 : J = sm_up I p (I 107 q).toNatClampNeg v) (e2 : K = sm_up J 107 q (J 107 q + 1)) : en_mem ml_tb mlX (xLay, K, L, R) ∧ en_fr ml_SW w0 (xLay, K, L, R) ∧ (K 107 q).toInt = (I 107 q).toInt + 1 ∧ (∀ j, j ≠ q → K 107 j = I 107 j) := by
  have hp7 : p ≠ 107 := by omega
  have g : J 107 q = I 107 q := by rw [e1, en_up_ne _ _ _ _ (fun c => hp7 c.1.symm)]
  have bq : 0 ≤ (I 107 q).toInt ∧ (I 107 q).toInt ≤ 1024 := by
    rcases hp with ⟨-, e⟩ | ⟨-, e⟩ <;> subst e
    · exact hm.2.1 107 82 (0, 1024) (by decide +kernel)
    · exact hm.2.1 107 84 (0, 1024) (by decide +kernel)
  have s := ml_in1 (x := I 107 q) (by omega)
  have mJ : en_mem ml_tb mlX (xLay, J, L, R) := by
    rw [e1]
    rcases hp with ⟨e, -⟩ | ⟨e, -⟩ <;> subst e
    · exact ml_we2 hm rfl (n := 1024) (q := (0, 1023)) rfl hv
    · exact ml_we2 hm rfl (n := 1024) (q := (0, 1023)) rfl hv
  refine ⟨?_, ?_, ?_, fun j hj => ?_⟩
  · rw [e2, g]
    rcases hp with ⟨-, e⟩ | ⟨-, e⟩ <;> subst e
    · exact ml_wf mJ (by decide +kernel) (q := (0, 1024)) (by decide +kernel) (by show 0 ≤ _ ∧ _ ≤ (1024 : Int); omega)
    · exact ml_wf mJ (by decide +kernel) (q := (0, 1024)) (by decide +kernel) (by show 0 ≤ _ ∧ _ ≤ (1024 : Int); omega)
  · rw [e2, e1]
    rcases hp with ⟨e, e'⟩ | ⟨e, e'⟩ <;> subst e <;> subst e'
    · exact ml_fr (ml_fr hf rfl) (by decide)
    · exact ml_fr (ml_fr hf rfl) (by decide)
  · rw [e2, g, en_up_eq]; exact s
  · rw [e2, en_up_ne _ _ _ _ (fun c => hj c.2), e1, en_up_ne _ _ _ _ (fun c => hp7 c.1.symm)]
theorem mx_sets22 {S : sm_C} {d : Nat} {Φ : sm_Z → Prop} {w0 : sm_W} {L : sm_L} {R : sm_R} {x2 x3 x4 : Int32} (b2 : 0 ≤ x2.toInt ∧ x2.toInt ≤ 1023) (b4 : 0 ≤ x4.toInt ∧ x4.toInt ≤ 1023) (hfx : ml_f x4.toNatClampNeg = x3.toInt) (I : sm_I) (hm : en_mem ml_tb mlX (xLay, I, L, R)) (hf : en_fr ml_SW w0 (xLay, I, L, R)) (hq : ml_Q I (ml_C x3.toInt x4.toNatClampNeg)) (hk : ∀ J : sm_I, en_mem ml_tb mlX (xLay, J, L, R) → en_fr ml_SW w0 (xLay, J, L, R) → ml_Q J (ml_C x3.toInt (x4.toNatClampNeg + 1)) → sm_wp sm_P S (d + 1) 190 14 [.ref 107, .int x2, .int x3, .int (x4 + 1)] [] (xLay, J, L, kM R) (0, 0) Φ) : ∀ (m : Nat) (x5 x6 x7 : Int32), 0 ≤ x7.toInt → 10 - x7.toInt ≤ m → sm_wp sm_P S (d + 1) 190 22 [.ref 107, .int x2, .int x3, .int x4, .int x5, .int x6, .int x7] [] (xLay, I, L, kM R) (0, 0) Φ := by
  have c10 : (10 : Int32).toInt = 10 := by decide
  have n4 := kl_nat b4.1
  have cs := ml_C_st (n := x3.toInt) (s := x4.toNatClampNeg) (by omega) hfx
  have cl := ml_C_le x3.toInt (x4.toNatClampNeg + 1)
  have b82 : 0 ≤ (I 107 82).toInt ∧ (I 107 82).toInt ≤ 1024 := hm.2.1 107 82 (0, 1024) (by decide +kernel)
  have b84 : 0 ≤ (I 107 84).toInt ∧ (I 107 84).toInt ≤ 1024 := hm.2.1 107 84 (0, 1024) (by decide +kernel)
  obtain ⟨hq1, hq2⟩ := hq
  have fin : ∀ x5 x6 : Int32, ((x5 = 0 → ((x6 = 0 → sm_wp sm_P S (d + 1) 190 14 [.ref 107, .int x2, .int x3, .int (x4 + (1 : Int32))] [] (xLay, I, L, (kM R)) (0, 0) Φ) ∧ (¬ x6 = 0 → (vp_in (I 107 84) 1024) ∧ ∀ I1 : sm_I, I1 = (sm_up I 159 (I 107 84).toNatClampNeg x4) → ∀ I2 : sm_I, I2 = (sm_up I1 107 84 ((I1 107 84) + (1 : Int32))) → sm_wp sm_P S (d + 1) 190 14 [.ref 107, .int x2, .int x3, .int (x4 + (1 : Int32))] [] (xLay, I2, L, (kM R)) (0, 0) Φ))) ∧ (¬ x5 = 0 → (vp_in (I 107 82) 1024) ∧ ∀ I4 : sm_I, I4 = (sm_up I 158 (I 107 82).toNatClampNeg x4) → ∀ I5 : sm_I, I5 = (sm_up I4 107 82 ((I4 107 82) + (1 : Int32))) → ((x6 = 0 → sm_wp sm_P S (d + 1) 190 14 [.ref 107, .int x2, .int x3, .int (x4 + (1 : Int32))] [] (xLay, I5, L, (kM R)) (0, 0) Φ) ∧ (¬ x6 = 0 → (vp_in (I5 107 84) 1024) ∧ ∀ I6 : sm_I, I6 = (sm_up I5 159 (I5 107 84).toNatClampNeg x4) → ∀ I7 : sm_I, I7 = (sm_up I6 107 84 ((I6 107 84) + (1 : Int32))) → sm_wp sm_P S (d + 1) 190 14 [.ref 107, .int x2, .int x3, .int (x4 + (1 : Int32))] [] (xLay, I7, L, (kM R)) (0, 0) Φ)))) := by
    intro x5 x6
    refine ⟨fun _ => ⟨fun _ => hk I hm hf ⟨by omega, by omega⟩, fun _ => ⟨kl_in b84.1 (by omega), fun I1 e1 I2 e2 => ?_⟩⟩, fun _ => ⟨kl_in b82.1 (by omega), fun I4 e4 I5 e5 => ?_⟩⟩
    · obtain ⟨q1, q2, q3, q4⟩ := ml_qadd (Or.inr ⟨rfl, rfl⟩) hm hf (by omega) b4 e1 e2
      exact hk I2 q1 q2 ⟨by rw [q4 82 (by decide)]; omega, by omega⟩
    · obtain ⟨q1, q2, q3, q4⟩ := ml_qadd (Or.inl ⟨rfl, rfl⟩) hm hf (by omega) b4 e4 e5
      have q84 : I5 107 84 = I 107 84 := q4 84 (by decide)
      refine ⟨fun _ => hk I5 q1 q2 ⟨by omega, by rw [q84]; omega⟩, fun _ => ⟨by rw [q84]; exact kl_in b84.1 (by omega), fun I6 e6 I7 e7 => ?_⟩⟩
      obtain ⟨p1, p2, p3, p4⟩ := ml_qadd (Or.inr ⟨rfl, rfl⟩) q1 q2 (by rw [q84]; omega) b4 e6 e7
      exact hk I7 p1 p2 ⟨by rw [p4 82 (by decide)]; omega, by rw [q84] at p3; omega⟩
  intro m
  induction m with
  | zero =>
    intro x5 x6 x7 h0 hM
    refine u_X12_sets_22 ⟨fun _ => fin x5 x6, fun a => ?_⟩
    have := kl_nle a
    omega
  | succ m ih =>
    intro x5 x6 x7 h0 hM
    refine u_X12_sets_22 ⟨fun _ => fin x5 x6, fun a => ?_⟩
    have a := kl_nle a
    rw [c10] at a
    have s := ml_in1 (x := x7) (by omega)
    have go : ∀ x5 x6 : Int32, sm_wp sm_P S (d + 1) 190 34 [.ref 107, .int x2, .int x3, .int x4, .int x5, .int x6, .int x7] [] (xLay, I, L, kM R) (0, 0) Φ := fun x5 x6 => u_X12_sets_34 (ih x5 x6 _ (by omega) (by omega))
    have g33 : ∀ x5 s0 : Int32, sm_wp sm_P S (d + 1) 190 33 [.ref 107, .int x2, .int x3, .int x4, .int x5, .int x7] [.int s0] (xLay, I, L, kM R) (0, 0) Φ := fun x5 s0 => u_X12_sets_33 (go x5 s0)
    have g29 : ∀ s0 : Int32, sm_wp sm_P S (d + 1) 190 29 [.ref 107, .int x2, .int x3, .int x4, .int x6, .int x7] [.int s0] (xLay, I, L, kM R) (0, 0) Φ := fun s0 => u_X12_sets_29 ⟨fun _ => g33 _ _, fun _ n1 e1 => by
      have b := ml_or (ml_and (y := x4 ^^^ (-1 : Int32)) b2.1 b2.2) (ml_shl h0 (by omega))
      rw [← e1] at b
      exact ⟨kl_in b.1 (by omega), fun _ => g33 _ _, fun _ => g33 _ _⟩⟩
    refine ⟨fun _ => go _ _, fun _ => ⟨fun _ => g29 _, fun _ n10 e10 => ?_⟩⟩
    have b := ml_and (x := x4) (y := ((1 : Int32) <<< (x7 &&& 31)) ^^^ (-1 : Int32)) b4.1 b4.2
    rw [← e10] at b
    exact ⟨kl_in b.1 (by omega), fun _ => g29 _, fun _ => g29 _⟩
theorem mx_sets14 {S : sm_C} {d : Nat} {Φ : sm_Z → Prop} {w0 : sm_W} {L : sm_L} {R : sm_R} {x2 x3 : Int32} (b2 : 0 ≤ x2.toInt ∧ x2.toInt ≤ 1023) (hk : ∀ J : sm_I, en_mem ml_tb mlX (xLay, J, L, R) → en_fr ml_SW w0 (xLay, J, L, R) → ml_Q J (ml_C (x3.toInt + 1) 0) → sm_wp sm_P S (d + 1) 190 12 [.ref 107, .int x2, .int (x3 + 1)] [] (xLay, J, L, kM R) (0, 0) Φ) : ∀ (m : Nat) (I : sm_I) (x4 : Int32), en_mem ml_tb mlX (xLay, I, L, R) → en_fr ml_SW w0 (xLay, I, L, R) → 0 ≤ x4.toInt → ml_Q I (ml_C x3.toInt x4.toNatClampNeg) → 1024 - x4.toInt ≤ m → sm_wp sm_P S (d + 1) 190 14 [.ref 107, .int x2, .int x3, .int x4] [] (xLay, I, L, kM R) (0, 0) Φ := by
  have c : (1024 : Int32).toInt = 1024 := by decide
  have done : ∀ (I : sm_I) (x4 : Int32), en_mem ml_tb mlX (xLay, I, L, R) → en_fr ml_SW w0 (xLay, I, L, R) → ml_Q I (ml_C x3.toInt x4.toNatClampNeg) → sm_wp sm_P S (d + 1) 190 12 [.ref 107, .int x2, .int (x3 + 1)] [] (xLay, I, L, kM R) (0, 0) Φ := fun I x4 hm hf hq => hk I hm hf (by
    have := ml_C_nx x3.toInt x4.toNatClampNeg
    exact ⟨by have := hq.1; omega, by have := hq.2; omega⟩)
  intro m
  induction m with
  | zero =>
    intro I x4 hm hf h0 hq hM
    refine u_X12_sets_14 ⟨fun _ => done I x4 hm hf hq, fun a => ?_⟩
    have := kl_nle a
    omega
  | succ m ih =>
    intro I x4 hm hf h0 hq hM
    refine u_X12_sets_14 ⟨fun _ => done I x4 hm hf hq, fun a => ?_⟩
    have a := kl_nle a
    rw [c] at a
    have s := ml_in1 (x := x4) (by omega)
    have n4 := kl_nat h0
    have n41 := kl_nat (i := x4 + 1) (by omega)
    have e41 : (x4 + 1).toNatClampNeg = x4.toNatClampNeg + 1 := by omega
    have go : ∀ J : sm_I, en_mem ml_tb mlX (xLay, J, L, R) → en_fr ml_SW w0 (xLay, J, L, R) → ml_Q J (ml_C x3.toInt (x4.toNatClampNeg + 1)) → sm_wp sm_P S (d + 1) 190 14 [.ref 107, .int x2, .int x3, .int (x4 + 1)] [] (xLay, J, L, kM R) (0, 0) Φ := fun J mJ fJ qJ => ih J _ mJ fJ (by omega) (by rw [e41]; exact qJ) (by omega)
    have hq' : ml_Q I (ml_C x3.toInt (x4.toNatClampNeg + 1)) := by
      have := ml_C_mo x3.toInt x4.toNatClampNeg
      exact ⟨by have := hq.1; omega, by have := hq.2; omega⟩
    refine ⟨fun _ => mx_bits ⟨_, I, L, R, rfl, fun e => ⟨kl_in h0 (by omega), fun _ n5 e5 => ?_, fun _ n5 e5 => ?_⟩, fun _ => go I hm hf hq'⟩, fun _ => go I hm hf hq'⟩
    all_goals
      have b := ml_and (x := x2) (y := x4 ^^^ (-1 : Int32)) b2.1 b2.2
      rw [← e5] at b
      refine ⟨kl_in b.1 (by omega), mx_sets22 b2 ⟨h0, by omega⟩ (by rw [ml_f_eq h0, e]) I hm hf hq go 10 _ _ 0 (by decide) (by decide)⟩
theorem mx_sets12 {S : sm_C} {d : Nat} {Φ : sm_Z → Prop} {w0 : sm_W} {L : sm_L} {R : sm_R} {x2 : Int32} (b2 : 0 ≤ x2.toInt ∧ x2.toInt ≤ 1023) (hΦ : ∀ (I : sm_I), en_mem ml_tb mlX (xLay, I, L, R) → en_fr ml_SW w0 (xLay, I, L, R) → Φ (none, (xLay, I, L, kM R))) : ∀ (m : Nat) (I : sm_I) (x3 : Int32), en_mem ml_tb mlX (xLay, I, L, R) → en_fr ml_SW w0 (xLay, I, L, R) → 0 ≤ x3.toInt → ml_Q I (ml_C x3.toInt 0) → 11 - x3.toInt < m → sm_wp sm_P S (d + 1) 190 12 [.ref 107, .int x2, .int x3] [] (xLay, I, L, kM R) (0, 0) Φ := by
  have bb := ml_bt_le x2 10 0 0 (by decide) (by decide)
  rw [kl_0] at bb
  intro m
  induction m with
  | zero =>
    intro I x3 hm hf h0 hq hM
    refine u_X12_sets_12 (mx_bits ⟨_, I, L, R, rfl, fun _ => hΦ I hm hf, fun a => ?_⟩)
    have := kl_nlt a
    omega
  | succ m ih =>
    intro I x3 hm hf h0 hq hM
    refine u_X12_sets_12 (mx_bits ⟨_, I, L, R, rfl, fun _ => hΦ I hm hf, fun a => ?_⟩)
    have a := kl_nlt a
    have s := ml_in1 (x := x3) (by omega)
    refine mx_sets14 b2 (fun J mJ fJ qJ => ih J _ mJ fJ (by omega) (by rw [s]; exact qJ) (by omega)) 1024 I 0 hm hf (by decide) ?_ (by decide)
    have z : (0 : Int32).toNatClampNeg = 0 := by decide
    rw [z]; exact hq
theorem ml_boo (r : Int32) : 0 ≤ (vp_nar .boolean r).toInt ∧ (vp_nar .boolean r).toInt ≤ 1 := by
  have b := ml_and' (x := r) (y := 1) (m := 1) (by decide) (by decide)
  exact b
theorem mx_sets3 {S : sm_C} {d : Nat} {Φ : sm_Z → Prop} {w0 : sm_W} {x1 x2 : Int32} (hd : mlc_21.2.2.2.2.2 ≤ d) (b2 : 0 ≤ x2.toInt ∧ x2.toInt ≤ 1023) (hΦ : ∀ (I : sm_I) (L : sm_L) (R : sm_R), en_mem ml_tb mlX (xLay, I, L, R) → en_fr ml_SW w0 (xLay, I, L, R) → Φ (none, (xLay, I, L, kM R))) : ∀ (m : Nat) (I : sm_I) (L : sm_L) (R : sm_R) (x3 : Int32), en_mem ml_tb mlX (xLay, I, L, R) → en_fr ml_SW w0 (xLay, I, L, R) → 0 ≤ x3.toInt → I 107 82 = 0 → I 107 84 = 0 → 1024 - x3.toInt ≤ m → sm_wp sm_P S (d + 1) 190 3 [.ref 107, .int x1, .int x2, .int x3] [] (xLay, I, L, kM R) (0, 0) Φ := by
  have c : (1024 : Int32).toInt = 1024 := by decide
  have done : ∀ (I : sm_I) (L : sm_L) (R : sm_R), en_mem ml_tb mlX (xLay, I, L, R) → en_fr ml_SW w0 (xLay, I, L, R) → I 107 82 = 0 → I 107 84 = 0 → sm_wp sm_P S (d + 1) 190 12 [.ref 107, .int x2, .int (0 : Int32)] [] (xLay, I, L, kM R) (0, 0) Φ := fun I L R hm hf q1 q2 => mx_sets12 b2 (fun J mJ fJ => hΦ J L R mJ fJ) 12 I 0 hm hf (by decide) ⟨by rw [q1, kl_0]; omega, by rw [q2, kl_0]; omega⟩ (by decide)
  intro m
  induction m with
  | zero =>
    intro I L R x3 hm hf h0 q1 q2 hM
    refine u_X12_sets_3 ⟨fun _ => ⟨fun _ => done I L R hm hf q1 q2, fun _ => hΦ I L R hm hf⟩, fun a => ?_⟩
    have := kl_nle a
    omega
  | succ m ih =>
    intro I L R x3 hm hf h0 q1 q2 hM
    refine u_X12_sets_3 ⟨fun _ => ⟨fun _ => done I L R hm hf q1 q2, fun _ => hΦ I L R hm hf⟩, fun a => ⟨fun _ => ⟨fun _ => ?_, fun _ => ?_⟩, fun _ => ⟨fun _ => done I L R hm hf q1 q2, fun _ => hΦ I L R hm hf⟩⟩⟩
    all_goals
      have a := kl_nle a
      rw [c] at a
      have s := ml_in1 (x := x3) (by omega)
    · refine ml_ci (c := mlc_21) mlh_21 hd ⟨⟨rfl, rfl⟩, ⟨rfl, en_crange.1, en_crange.2⟩, trivial⟩ hm ml_pf0 rfl (fun r I3 L3 R3 r0 r1 m3 f3 => ⟨kl_in h0 (by omega), fun I6 e6 => ?_⟩)
      have m6 : en_mem ml_tb mlX (xLay, I6, L3, R3) := by
        rw [e6]
        exact ml_we2 m3 rfl (n := 1024) (q := (0, 1)) rfl (ml_boo r)
      have b64 : 0 ≤ (I6 107 64).toInt ∧ (I6 107 64).toInt ≤ 1 := m6.2.1 107 64 (0, 1) (by decide +kernel)
      refine ⟨?_, fun I7 e7 => ?_⟩
      · rcases ml_i3 b64.1 (by omega) with e | e | e | e
        · exact Or.inl e
        · exact Or.inr e
        · rw [e] at b64; exact absurd b64.2 (by decide)
        · rw [e] at b64; exact absurd b64.2 (by decide)
      · have hf3 : en_fr ml_SW w0 (xLay, I3, L3, R3) := ml_frt hf f3 (by decide +kernel)
        refine ih I7 L3 R3 _ ?_ ?_ (by omega) ?_ ?_ (by omega)
        · rw [e7]
          exact ml_wf m6 (by decide +kernel) (q := (0, 1)) (by decide +kernel) b64
        · rw [e7, e6]
          exact ml_fr (ml_fr hf3 rfl) (by decide)
        · rw [e7, en_up_ne _ _ _ _ (by omega), e6, en_up_ne _ _ _ _ (by omega), ml_g f3 (by decide), q1]
        · rw [e7, en_up_ne _ _ _ _ (by omega), e6, en_up_ne _ _ _ _ (by omega), ml_g f3 (by decide), q2]
    · exact ih I L R _ hm hf (by omega) q1 q2 (by omega)
theorem mlh_23 {Sc : sm_C} : en_hold ml_tb mlX sm_P Sc mlc_23 := by
  intro d hd vs w hv hm _
  obtain ⟨vs1, rfl, hv1⟩ := kl_vr (q := 107) rfl hv
  obtain rfl := kl_v0 hv1
  have hd : 9 ≤ d := hd
  obtain ⟨d, rfl⟩ : ∃ d', d = d' + 1 := ⟨d - 1, by omega⟩
  refine ml_top hm (fun I L R hw hm => ?_)
  have fin : ∀ (I2 : sm_I) (L2 : sm_L) (R2 : sm_R), en_mem ml_tb mlX (xLay, I2, L2, R2) → en_fr ml_SW (xLay, I, L, R) (xLay, I2, L2, R2) → ∃ (o : Option Value) (I3 : sm_I) (L3 : sm_L) (R3 : sm_R), ((none : Option Value), ((xLay, I2, L2, kM R2) : sm_W)) = (o, (xLay, I3, L3, kM R3)) ∧ en_pr mlc_23.2.2.2.1 o ∧ en_mem ml_tb mlX (xLay, I3, L3, R3) ∧ en_fr mlc_23.2.2.2.2.1 (xLay, I, L, R) (xLay, I3, L3, R3) := fun I2 L2 R2 m f => ⟨none, I2, L2, R2, rfl, rfl, m, f⟩
  refine u_X12_sets_0 ⟨fun _ I1 e1 I2 e2 I3 e3 I4 e4 I5 e5 => ?_, fun _ => fin _ _ _ hm en_fr_rf⟩
  have m5 : en_mem ml_tb mlX (xLay, I5, L, R) := by
    rw [e5, e4, e3, e2, e1]
    exact ml_wf (ml_wf (ml_wf (ml_wf (ml_wf (ml_wf hm (by decide +kernel) (q := (0, 1)) (by decide +kernel) (by decide)) (by decide +kernel) (q := (0, 1)) (by decide +kernel) (by decide)) (by decide +kernel) (q := (0, 1024)) (by decide +kernel) (by decide)) (by decide +kernel) (q := (0, 1024)) (by decide +kernel) (by decide)) (by decide +kernel) (q := (-2147483648, 2147483647)) (by decide +kernel) (by decide)) (by decide +kernel) (q := (0, 10)) (by decide +kernel) (by decide)
  have f5 : en_fr ml_SW (xLay, I, L, R) (xLay, I5, L, R) := by
    rw [e5, e4, e3, e2, e1]
    exact ml_fr (ml_fr (ml_fr (ml_fr (ml_fr (ml_fr en_fr_rf (by decide +kernel)) (by decide +kernel)) (by decide +kernel)) (by decide +kernel)) (by decide +kernel)) (by decide)
  have z82 : I5 107 82 = 0 := by rw [e5, en_up_ne _ _ _ _ (by omega), e4, en_up_ne _ _ _ _ (by omega), e3, en_up_ne _ _ _ _ (by omega), e2, en_up_eq]
  have z84 : I5 107 84 = 0 := by rw [e5, en_up_ne _ _ _ _ (by omega), e4, en_up_ne _ _ _ _ (by omega), e3, en_up_eq]
  refine ml_ci (c := mlc_22) mlh_22 (Nat.zero_le _) ⟨⟨rfl, rfl⟩, trivial⟩ m5 ml_pf0 rfl (fun r8 I6 L6 R6 r0 r1 m6 f6 => ?_)
  refine ml_ci (c := mlc_10) mlh_10 (Nat.zero_le _) ⟨⟨rfl, rfl⟩, trivial⟩ m6 ml_pf0 rfl (fun r9 I7 L7 R7 q0 q1 m7 f7 => ?_)
  intro n12 e12
  have b := ml_and (x := r9) (y := r8 ^^^ (-1 : Int32)) q0 q1
  rw [← e12] at b
  refine mx_sets3 (by exact Nat.le_trans (by decide : _ ≤ 8) (by omega)) b fin 1024 I7 L7 R7 0 m7 (ml_frt (ml_frt f5 f6 (by decide +kernel)) f7 (by decide +kernel)) (by decide) ?_ ?_ (by decide)
  · rw [ml_g f7 rfl, ml_g f6 rfl, z82]
  · rw [ml_g f7 rfl, ml_g f6 rfl, z84]
end
section
/-! methods checked by the engine -/
def mlc_19 : en_Ct := (109, [(2, 107, 0), (0, -2147483648, 2147483647), (0, -2147483648, 2147483647)], [], (0, -2147483648, 2147483647), [(107, [51, 52, 53, 59, 63, 64, 67, 68, 69, 70, 71, 72, 73, 74, 79, 80, 82, 84, 87, 90, 91, 92, 96]), (143, []), (148, []), (149, []), (150, []), (151, []), (152, []), (153, []), (154, []), (155, []), (156, []), (157, []), (158, []), (159, []), (161, []), (162, []), (163, []), (164, [])], 9)
def mlu_19 : List en_Cu := [(6, [(2, 107, 0), (0, 0, 9), (0, 0, 1440), (0, -2147483648, 2147483647), (0, 0, 1000)], [], [], 2001, [0, 0, 0, 0, -2])]
/-! X12_can -/
theorem mlh_19 {Sc : sm_C} : en_hold ml_tb mlX sm_P Sc mlc_19 := en_chk_ok mlX_ok (T := [mlc_17, mlc_18]) (cuts := mlu_19) (List.forall_mem_cons.mpr ⟨mlh_17, List.forall_mem_cons.mpr ⟨mlh_18, fun _ h => absurd h List.not_mem_nil⟩⟩) (by decide +kernel)
def mlc_25 : en_Ct := (111, [(2, 107, 0)], [], (0, -3, 1023), [(107, [51, 52, 53, 59, 63, 64, 67, 68, 69, 70, 71, 72, 73, 74, 79, 80, 82, 84, 87, 90, 91, 92, 96]), (143, []), (148, []), (149, []), (150, []), (151, []), (152, []), (153, []), (154, []), (155, []), (156, []), (157, []), (158, []), (159, []), (161, []), (162, []), (163, []), (164, [])], 10)
def mlu_25 : List en_Cu := [(3, [(2, 107, 0), (0, -2, 1023), (0, 0, 1024)], [], [], 2049, [0, 0, -2])]
/-! X12_cheapest -/
theorem mlh_25 {Sc : sm_C} : en_hold ml_tb mlX sm_P Sc mlc_25 := en_chk_ok mlX_ok (T := [mlc_23, mlc_24]) (cuts := mlu_25) (List.forall_mem_cons.mpr ⟨mlh_23, List.forall_mem_cons.mpr ⟨mlh_24, fun _ h => absurd h List.not_mem_nil⟩⟩) (by decide +kernel)
def mlc_28 : en_Ct := (117, [(2, 107, 0), (0, -2147483648, 2147483647), (0, -2147483648, 2147483647), (0, -2147483648, 2147483647), (0, -2147483648, 2147483647)], [], (0, -3, 1), [(107, [51, 52, 53, 59, 63, 64, 67, 68, 69, 70, 71, 72, 73, 74, 79, 80, 82, 84, 87, 90, 91, 92, 96]), (143, []), (148, []), (149, []), (150, []), (151, []), (152, []), (153, []), (154, []), (155, []), (156, []), (157, []), (158, []), (159, []), (161, []), (162, []), (163, []), (164, [])], 8)
def mlu_28 : List en_Cu := []
/-! X12_could -/
theorem mlh_28 {Sc : sm_C} : en_hold ml_tb mlX sm_P Sc mlc_28 := en_chk_ok mlX_ok (T := [mlc_5, mlc_3, mlc_11, mlc_16]) (cuts := mlu_28) (List.forall_mem_cons.mpr ⟨mlh_5, List.forall_mem_cons.mpr ⟨mlh_3, List.forall_mem_cons.mpr ⟨mlh_11, List.forall_mem_cons.mpr ⟨mlh_16, fun _ h => absurd h List.not_mem_nil⟩⟩⟩⟩) (by decide +kernel)
def mlc_32 : en_Ct := (122, [(2, 107, 0), (0, -2147483648, 2147483647), (0, 0, 1)], [], (0, -2147483648, 2147483647), [(107, [51, 52, 53, 59, 63, 64, 67, 68, 69, 70, 71, 72, 73, 74, 79, 80, 82, 84, 87, 90, 91, 92, 96]), (143, []), (148, []), (149, []), (150, []), (151, []), (152, []), (153, []), (154, []), (155, []), (156, []), (157, []), (158, []), (159, []), (161, []), (162, []), (163, []), (164, [])], 9)
def mlu_32 : List en_Cu := [(5, [(2, 107, 0), (0, 0, 9), (0, 0, 1), (0, -2147483648, 2147483647), (0, 0, 1000)], [], [], 2001, [0, 0, 0, 0, -2])]
/-! X12_ends -/
theorem mlh_32 {Sc : sm_C} : en_hold ml_tb mlX sm_P Sc mlc_32 := en_chk_ok mlX_ok (T := [mlc_17, mlc_18]) (cuts := mlu_32) (List.forall_mem_cons.mpr ⟨mlh_17, List.forall_mem_cons.mpr ⟨mlh_18, fun _ h => absurd h List.not_mem_nil⟩⟩) (by decide +kernel)
def mlc_41 : en_Ct := (128, [(2, 107, 0), (0, -2147483648, 2147483647), (0, -2147483648, 2147483647), (0, -2147483648, 2147483647), (0, 0, 1)], [], (0, -2147483648, 2147483647), [(107, [51, 52, 53, 59, 63, 64, 67, 68, 69, 70, 71, 72, 73, 74, 79, 80, 82, 84, 87, 90, 91, 92, 96]), (143, []), (148, []), (149, []), (150, []), (151, []), (152, []), (153, []), (154, []), (155, []), (156, []), (157, []), (158, []), (159, []), (161, []), (162, []), (163, []), (164, [])], 10)
def mlu_41 : List en_Cu := []
/-! X12_gap -/
theorem mlh_41 {Sc : sm_C} : en_hold ml_tb mlX sm_P Sc mlc_41 := en_chk_ok mlX_ok (T := [mlc_17, mlc_18]) (cuts := mlu_41) (List.forall_mem_cons.mpr ⟨mlh_17, List.forall_mem_cons.mpr ⟨mlh_18, fun _ h => absurd h List.not_mem_nil⟩⟩) (by decide +kernel)
def mlc_43 : en_Ct := (130, [(2, 107, 0)], [], (0, -2147483648, 2147483647), [(107, [51, 52, 53, 59, 63, 64, 67, 68, 69, 70, 71, 72, 73, 74, 79, 80, 82, 84, 87, 90, 91, 92, 96]), (143, []), (148, []), (149, []), (150, []), (151, []), (152, []), (153, []), (154, []), (155, []), (156, []), (157, []), (158, []), (159, []), (161, []), (162, []), (163, []), (164, [])], 11)
def mlu_43 : List en_Cu := []
/-! X12_give -/
theorem mlh_43 {Sc : sm_C} : en_hold ml_tb mlX sm_P Sc mlc_43 := en_chk_ok mlX_ok (T := [mlc_42, mlc_22, mlc_10]) (cuts := mlu_43) (List.forall_mem_cons.mpr ⟨mlh_42, List.forall_mem_cons.mpr ⟨mlh_22, List.forall_mem_cons.mpr ⟨mlh_10, fun _ h => absurd h List.not_mem_nil⟩⟩⟩) (by decide +kernel)
def mlc_44 : en_Ct := (132, [(2, 107, 0), (0, -2147483648, 2147483647)], [], (0, -3, 1023), [(107, [51, 52, 53, 59, 63, 64, 67, 68, 69, 70, 71, 72, 73, 74, 79, 80, 82, 84, 87, 90, 91, 92, 96]), (143, []), (148, []), (149, []), (150, []), (151, []), (152, []), (153, []), (154, []), (155, []), (156, []), (157, []), (158, []), (159, []), (161, []), (162, []), (163, []), (164, [])], 10)
def mlu_44 : List en_Cu := []
/-! X12_givingUp -/
theorem mlh_44 {Sc : sm_C} : en_hold ml_tb mlX sm_P Sc mlc_44 := en_chk_ok mlX_ok (T := [mlc_23]) (cuts := mlu_44) (List.forall_mem_cons.mpr ⟨mlh_23, fun _ h => absurd h List.not_mem_nil⟩) (by decide +kernel)
def mlc_45 : en_Ct := (133, [(2, 107, 0)], [], (0, -3, 1024), [(107, [51, 52, 53, 59, 63, 64, 67, 68, 69, 70, 71, 72, 73, 74, 79, 80, 82, 84, 87, 90, 91, 92, 96]), (143, []), (148, []), (149, []), (150, []), (151, []), (152, []), (153, []), (154, []), (155, []), (156, []), (157, []), (158, []), (159, []), (161, []), (162, []), (163, []), (164, [])], 10)
def mlu_45 : List en_Cu := []
/-! X12_givingUps -/
theorem mlh_45 {Sc : sm_C} : en_hold ml_tb mlX sm_P Sc mlc_45 := en_chk_ok mlX_ok (T := [mlc_23]) (cuts := mlu_45) (List.forall_mem_cons.mpr ⟨mlh_23, fun _ h => absurd h List.not_mem_nil⟩) (by decide +kernel)
def mlc_47 : en_Ct := (137, [(2, 107, 0), (0, -2147483648, 2147483647), (0, -2147483648, 2147483647)], [], (0, -2147483648, 2147483647), [(107, [51, 52, 53, 59, 63, 64, 67, 68, 69, 70, 71, 72, 73, 74, 79, 80, 82, 84, 87, 90, 91, 92, 96]), (143, []), (148, []), (149, []), (150, []), (151, []), (152, []), (153, []), (154, []), (155, []), (156, []), (157, []), (158, []), (159, []), (161, []), (162, []), (163, []), (164, [])], 10)
def mlu_47 : List en_Cu := []
/-! X12_hand -/
theorem mlh_47 {Sc : sm_C} : en_hold ml_tb mlX sm_P Sc mlc_47 := en_chk_ok mlX_ok (T := [mlc_17, mlc_18]) (cuts := mlu_47) (List.forall_mem_cons.mpr ⟨mlh_17, List.forall_mem_cons.mpr ⟨mlh_18, fun _ h => absurd h List.not_mem_nil⟩⟩) (by decide +kernel)
def mlc_48 : en_Ct := (140, [(2, 107, 0), (0, -2147483648, 2147483647), (0, -2147483648, 2147483647), (0, 0, 1)], [], (0, -2147483648, 2147483647), [(107, [51, 52, 53, 59, 63, 64, 67, 68, 69, 70, 71, 72, 73, 74, 79, 80, 82, 84, 87, 90, 91, 92, 96]), (143, []), (148, []), (149, []), (150, []), (151, []), (152, []), (153, []), (154, []), (155, []), (156, []), (157, []), (158, []), (159, []), (161, []), (162, []), (163, []), (164, [])], 10)
def mlu_48 : List en_Cu := []
/-! X12_hour -/
theorem mlh_48 {Sc : sm_C} : en_hold ml_tb mlX sm_P Sc mlc_48 := en_chk_ok mlX_ok (T := [mlc_17, mlc_18]) (cuts := mlu_48) (List.forall_mem_cons.mpr ⟨mlh_17, List.forall_mem_cons.mpr ⟨mlh_18, fun _ h => absurd h List.not_mem_nil⟩⟩) (by decide +kernel)
def mlc_49 : en_Ct := (152, [(2, 107, 0)], [], (0, -3, 999), [(107, [51, 52, 53, 59, 63, 64, 67, 68, 69, 70, 71, 72, 73, 74, 79, 80, 82, 84, 87, 90, 91, 92, 96]), (143, []), (148, []), (149, []), (150, []), (151, []), (152, []), (153, []), (154, []), (155, []), (156, []), (157, []), (158, []), (159, []), (161, []), (162, []), (163, []), (164, [])], 9)
def mlu_49 : List en_Cu := [(3, [(2, 107, 0), (0, 0, 1000)], [], [], 2001, [0, -2])]
/-! X12_keep -/
theorem mlh_49 {Sc : sm_C} : en_hold ml_tb mlX sm_P Sc mlc_49 := en_chk_ok mlX_ok (T := [mlc_17, mlc_18]) (cuts := mlu_49) (List.forall_mem_cons.mpr ⟨mlh_17, List.forall_mem_cons.mpr ⟨mlh_18, fun _ h => absurd h List.not_mem_nil⟩⟩) (by decide +kernel)
def mlc_50 : en_Ct := (153, [(2, 107, 0), (0, -2147483648, 2147483647)], [], (0, -3, 1), [(107, [51, 52, 53, 59, 63, 64, 67, 68, 69, 70, 71, 72, 73, 74, 79, 80, 82, 84, 87, 90, 91, 92, 96]), (143, []), (148, []), (149, []), (150, []), (151, []), (152, []), (153, []), (154, []), (155, []), (156, []), (157, []), (158, []), (159, []), (161, []), (162, []), (163, []), (164, [])], 10)
def mlu_50 : List en_Cu := []
/-! X12_kept -/
theorem mlh_50 {Sc : sm_C} : en_hold ml_tb mlX sm_P Sc mlc_50 := en_chk_ok mlX_ok (T := [mlc_17, mlc_18]) (cuts := mlu_50) (List.forall_mem_cons.mpr ⟨mlh_17, List.forall_mem_cons.mpr ⟨mlh_18, fun _ h => absurd h List.not_mem_nil⟩⟩) (by decide +kernel)
def mlc_51 : en_Ct := (157, [(2, 107, 0), (0, 0, 999)], [], (0, 0, 1), [(107, [51, 52, 53, 59, 63, 64, 67, 68, 69, 70, 71, 72, 73, 74, 79, 80, 82, 84, 87, 90, 91, 92, 96]), (143, []), (148, []), (149, []), (150, []), (151, []), (152, []), (153, []), (154, []), (155, []), (156, []), (157, []), (158, []), (159, []), (161, []), (162, []), (163, []), (164, [])], 8)
def mlu_51 : List en_Cu := [(3, [(2, 107, 0), (0, 0, 10)], [], [], 21, [0, -2])]
/-! X12_laysSet -/
theorem mlh_51 {Sc : sm_C} : en_hold ml_tb mlX sm_P Sc mlc_51 := en_chk_ok mlX_ok (T := [mlc_3, mlc_18]) (cuts := mlu_51) (List.forall_mem_cons.mpr ⟨mlh_3, List.forall_mem_cons.mpr ⟨mlh_18, fun _ h => absurd h List.not_mem_nil⟩⟩) (by decide +kernel)
def mlc_52 : en_Ct := (159, [(2, 107, 0), (0, -2147483648, 2147483647), (0, -2147483648, 2147483647)], [], (0, -2147483648, 2147483647), [(107, [51, 52, 53, 59, 63, 64, 67, 68, 69, 70, 71, 72, 73, 74, 79, 80, 82, 84, 87, 90, 91, 92, 96]), (143, []), (148, []), (149, []), (150, []), (151, []), (152, []), (153, []), (154, []), (155, []), (156, []), (157, []), (158, []), (159, []), (161, []), (162, []), (163, []), (164, [])], 8)
def mlu_52 : List en_Cu := [(1, [(2, 107, 0), (0, -2147483648, 2147483647), (0, -2147483648, 2147483647), (0, -2147483648, 2147483647), (0, 0, 1000)], [], [], 2001, [0, 0, 0, 0, -2])]
/-! X12_leftOf -/
theorem mlh_52 {Sc : sm_C} : en_hold ml_tb mlX sm_P Sc mlc_52 := en_chk_ok mlX_ok (T := [mlc_36, mlc_18]) (cuts := mlu_52) (List.forall_mem_cons.mpr ⟨mlh_36, List.forall_mem_cons.mpr ⟨mlh_18, fun _ h => absurd h List.not_mem_nil⟩⟩) (by decide +kernel)
def mlc_53 : en_Ct := (158, [(2, 107, 0), (0, -2147483648, 2147483647), (0, -2147483648, 2147483647)], [], (0, -2147483648, 2147483647), [(107, [51, 52, 53, 59, 63, 64, 67, 68, 69, 70, 71, 72, 73, 74, 79, 80, 82, 84, 87, 90, 91, 92, 96]), (143, []), (148, []), (149, []), (150, []), (151, []), (152, []), (153, []), (154, []), (155, []), (156, []), (157, []), (158, []), (159, []), (161, []), (162, []), (163, []), (164, [])], 9)
def mlu_53 : List en_Cu := []
/-! X12_left -/
theorem mlh_53 {Sc : sm_C} : en_hold ml_tb mlX sm_P Sc mlc_53 := en_chk_ok mlX_ok (T := [mlc_17, mlc_52]) (cuts := mlu_53) (List.forall_mem_cons.mpr ⟨mlh_17, List.forall_mem_cons.mpr ⟨mlh_52, fun _ h => absurd h List.not_mem_nil⟩⟩) (by decide +kernel)
def mlc_56 : en_Ct := (167, [(2, 107, 0)], [], (0, -3, 4), [(107, [51, 52, 53, 59, 63, 64, 67, 68, 69, 70, 71, 72, 73, 74, 79, 80, 82, 84, 87, 90, 91, 92, 96]), (143, []), (148, []), (149, []), (150, []), (151, []), (152, []), (153, []), (154, []), (155, []), (156, []), (157, []), (158, []), (159, []), (161, []), (162, []), (163, []), (164, [])], 9)
def mlu_56 : List en_Cu := [(5, [(2, 107, 0), (0, -1, 4), (0, -2147483648, 2147483647), (0, 0, 5)], [], [], 11, [0, 0, 0, -2])]
/-! X12_next -/
theorem mlh_56 {Sc : sm_C} : en_hold ml_tb mlX sm_P Sc mlc_56 := en_chk_ok mlX_ok (T := [mlc_17, mlc_52]) (cuts := mlu_56) (List.forall_mem_cons.mpr ⟨mlh_17, List.forall_mem_cons.mpr ⟨mlh_52, fun _ h => absurd h List.not_mem_nil⟩⟩) (by decide +kernel)
def mlc_61 : en_Ct := (178, [(2, 107, 0)], [], (0, -2147483648, 2147483647), [(107, [51, 52, 53, 59, 63, 64, 67, 68, 69, 70, 71, 72, 73, 74, 79, 80, 82, 84, 87, 90, 91, 92, 96]), (143, []), (148, []), (149, []), (150, []), (151, []), (152, []), (153, []), (154, []), (155, []), (156, []), (157, []), (158, []), (159, []), (161, []), (162, []), (163, []), (164, [])], 11)
def mlu_61 : List en_Cu := []
/-! X12_price -/
theorem mlh_61 {Sc : sm_C} : en_hold ml_tb mlX sm_P Sc mlc_61 := en_chk_ok mlX_ok (T := [mlc_25, mlc_24]) (cuts := mlu_61) (List.forall_mem_cons.mpr ⟨mlh_25, List.forall_mem_cons.mpr ⟨mlh_24, fun _ h => absurd h List.not_mem_nil⟩⟩) (by decide +kernel)
def mlc_62 : en_Ct := (180, [(2, 107, 0), (0, -2147483648, 2147483647)], [], (0, -3, 1023), [(107, [51, 52, 53, 59, 63, 64, 67, 68, 69, 70, 71, 72, 73, 74, 79, 80, 82, 84, 87, 90, 91, 92, 96]), (143, []), (148, []), (149, []), (150, []), (151, []), (152, []), (153, []), (154, []), (155, []), (156, []), (157, []), (158, []), (159, []), (161, []), (162, []), (163, []), (164, [])], 10)
def mlu_62 : List en_Cu := []
/-! X12_quarrel -/
theorem mlh_62 {Sc : sm_C} : en_hold ml_tb mlX sm_P Sc mlc_62 := en_chk_ok mlX_ok (T := [mlc_23]) (cuts := mlu_62) (List.forall_mem_cons.mpr ⟨mlh_23, fun _ h => absurd h List.not_mem_nil⟩) (by decide +kernel)
def mlc_63 : en_Ct := (181, [(2, 107, 0)], [], (0, -3, 1024), [(107, [51, 52, 53, 59, 63, 64, 67, 68, 69, 70, 71, 72, 73, 74, 79, 80, 82, 84, 87, 90, 91, 92, 96]), (143, []), (148, []), (149, []), (150, []), (151, []), (152, []), (153, []), (154, []), (155, []), (156, []), (157, []), (158, []), (159, []), (161, []), (162, []), (163, []), (164, [])], 10)
def mlu_63 : List en_Cu := []
/-! X12_quarrels -/
theorem mlh_63 {Sc : sm_C} : en_hold ml_tb mlX sm_P Sc mlc_63 := en_chk_ok mlX_ok (T := [mlc_23]) (cuts := mlu_63) (List.forall_mem_cons.mpr ⟨mlh_23, fun _ h => absurd h List.not_mem_nil⟩) (by decide +kernel)
def mlc_71 : en_Ct := (189, [(2, 107, 0)], [], (0, -2147483648, 2147483647), [(107, [51, 52, 53, 59, 63, 64, 67, 68, 69, 70, 71, 72, 73, 74, 79, 80, 82, 84, 87, 90, 91, 92, 96]), (143, []), (148, []), (149, []), (150, []), (151, []), (152, []), (153, []), (154, []), (155, []), (156, []), (157, []), (158, []), (159, []), (161, []), (162, []), (163, []), (164, [])], 9)
def mlu_71 : List en_Cu := [(3, [(2, 107, 0), (0, -2147483648, 2147483647), (0, 0, 1000)], [], [], 2001, [0, 0, -2])]
/-! X12_setWays -/
theorem mlh_71 {Sc : sm_C} : en_hold ml_tb mlX sm_P Sc mlc_71 := en_chk_ok mlX_ok (T := [mlc_17, mlc_51]) (cuts := mlu_71) (List.forall_mem_cons.mpr ⟨mlh_17, List.forall_mem_cons.mpr ⟨mlh_51, fun _ h => absurd h List.not_mem_nil⟩⟩) (by decide +kernel)
def mlc_72 : en_Ct := (192, [(2, 107, 0), (0, -2147483648, 2147483647), (0, -2147483648, 2147483647), (0, 0, 1)], [], (0, -2147483648, 2147483647), [(107, [51, 52, 53, 59, 63, 64, 67, 68, 69, 70, 71, 72, 73, 74, 79, 80, 82, 84, 87, 90, 91, 92, 96]), (143, []), (148, []), (149, []), (150, []), (151, []), (152, []), (153, []), (154, []), (155, []), (156, []), (157, []), (158, []), (159, []), (161, []), (162, []), (163, []), (164, [])], 10)
def mlu_72 : List en_Cu := []
/-! X12_slack -/
theorem mlh_72 {Sc : sm_C} : en_hold ml_tb mlX sm_P Sc mlc_72 := en_chk_ok mlX_ok (T := [mlc_17, mlc_51]) (cuts := mlu_72) (List.forall_mem_cons.mpr ⟨mlh_17, List.forall_mem_cons.mpr ⟨mlh_51, fun _ h => absurd h List.not_mem_nil⟩⟩) (by decide +kernel)
def mlc_76 : en_Ct := (93, [(2, 107, 0), (0, -2147483648, 2147483647)], [], (0, -2147483648, 2147483647), [(107, [51, 52, 53, 59, 63, 64, 67, 68, 69, 70, 71, 72, 73, 74, 79, 80, 82, 84, 87, 90, 91, 92, 96]), (143, []), (148, []), (149, []), (150, []), (151, []), (152, []), (153, []), (154, []), (155, []), (156, []), (157, []), (158, []), (159, []), (161, []), (162, []), (163, []), (164, [])], 11)
def mlu_76 : List en_Cu := []
/-! X12_alone -/
theorem mlh_76 {Sc : sm_C} : en_hold ml_tb mlX sm_P Sc mlc_76 := en_chk_ok mlX_ok (T := [mlc_42]) (cuts := mlu_76) (List.forall_mem_cons.mpr ⟨mlh_42, fun _ h => absurd h List.not_mem_nil⟩) (by decide +kernel)
def mlc_77 : en_Ct := (96, [(2, 107, 0), (0, -2147483648, 2147483647), (0, 0, 1)], [], (0, -2147483648, 2147483647), [(107, [51, 52, 53, 59, 63, 64, 67, 68, 69, 70, 71, 72, 73, 74, 79, 80, 82, 84, 87, 90, 91, 92, 96]), (143, []), (148, []), (149, []), (150, []), (151, []), (152, []), (153, []), (154, []), (155, []), (156, []), (157, []), (158, []), (159, []), (161, []), (162, []), (163, []), (164, [])], 9)
def mlu_77 : List en_Cu := []
/-! X12_ask -/
theorem mlh_77 {Sc : sm_C} : en_hold ml_tb mlX sm_P Sc mlc_77 := en_chk_ok mlX_ok (T := [mlc_17, mlc_52]) (cuts := mlu_77) (List.forall_mem_cons.mpr ⟨mlh_17, List.forall_mem_cons.mpr ⟨mlh_52, fun _ h => absurd h List.not_mem_nil⟩⟩) (by decide +kernel)
end
section
/-! meetsAll, been -/
theorem mx_meetsAll2 {S : sm_C} {d : Nat} {Φ : sm_Z → Prop} {w0 : sm_W} (hd : 4 ≤ d) (hΦ : ∀ (I : sm_I) (L : sm_L) (R : sm_R), en_mem ml_tb mlX (xLay, I, L, R) → en_fr ml_SW w0 (xLay, I, L, R) → Φ (none, (xLay, I, L, kM R))) : ∀ (m : Nat) (I : sm_I) (L : sm_L) (R : sm_R) (x3 : Int32), en_mem ml_tb mlX (xLay, I, L, R) → en_fr ml_SW w0 (xLay, I, L, R) → -1 ≤ x3.toInt → (x3.toInt < (I 107 59).toInt ∨ (I 107 59).toInt = 0) → (I 107 63).toInt ≤ 1000 → ml_nc I x3.toInt → 2 * (1000 - (I 107 63).toInt) + x3.toInt + 1 < m → sm_wp sm_P S (d + 1) 162 2 [.ref 107, .int x3] [] (xLay, I, L, kM R) (0, 0) Φ := by
  intro m
  induction m with
  | zero =>
    intro I L R x3 hm hf k0 k1 t1 hn hM
    omega
  | succ m ih =>
    intro I L R x3 hm hf k0 k1 t1 hn hM
    have bi : 0 ≤ (I 107 59).toInt ∧ (I 107 59).toInt ≤ 70 := hm.2.1 107 59 (0, 70) (by decide +kernel)
    have bt : 0 ≤ (I 107 63).toInt ∧ (I 107 63).toInt ≤ 1001 := hm.2.1 107 63 (0, 1001) (by decide +kernel)
    refine u_X12_meetsAll_2 ⟨fun a => hΦ I L R hm hf, fun a => ⟨fun _ => hΦ I L R hm hf, fun a0 => ?_⟩⟩
    have a0 := kl_nle a0
    rw [kl_0] at a0
    have k1 : x3.toInt < (I 107 59).toInt := by omega
    have k2 := kl_nlt0 a
    have nk := kl_nat k2
    have v : vp_in x3 70 := kl_in k2 (by omega)
    have bo : 0 ≤ (I 148 x3.toNatClampNeg).toInt ∧ (I 148 x3.toNatClampNeg).toInt ≤ 69 := ml_row hm (p := 148) (n := 70) (q := (0, 69)) (fun _ => rfl) _ (by omega)
    have gap : (I 148 x3.toNatClampNeg).toInt ≤ 54 ∨ 60 ≤ (I 148 x3.toNatClampNeg).toInt := hm.2.2.2.2.2.1 _ (by omega)
    have bn : 0 ≤ (I 150 x3.toNatClampNeg).toInt ∧ (I 150 x3.toNatClampNeg).toInt ≤ 4 := ml_row hm (p := 150) (n := 70) (q := (0, 4)) (fun _ => rfl) _ (by omega)
    have hk := hn x3.toNatClampNeg (by omega)
    obtain ⟨ch, hch⟩ : ∃ ch, ch = ml_ch I (I 148 x3.toNatClampNeg) := ⟨_, rfl⟩
    rw [← hch] at hk
    refine ⟨v, v, mx_choices hm bo.1 bo.2 gap (fun c0 c4 => ⟨_, I, L, R, rfl, fun e => ?_, fun e => ⟨v, v, fun n4 e4 => ⟨v, fun I5 e5 I6 e6 => ?_⟩⟩⟩)⟩
    · rw [← hch] at c0 c4 e
      obtain ⟨y, hy, sd⟩ : ∃ y, y = x3 + (-1 : Int32) ∧ y.toInt = x3.toInt - 1 := ⟨_, rfl, ml_de1 (by omega)⟩
      rw [← hy]
      exact ih I L R y hm hf (by omega) (by omega) t1 (fun j hj => hn j (by omega)) (by omega)
    rw [← hch] at c0 c4 e
    have sk := ml_in1 (x := x3) (by omega)
    have lt : (I 150 x3.toNatClampNeg).toInt < ch.toInt := by
      have : (I 150 x3.toNatClampNeg).toInt ≠ ch.toInt := fun q => e (en_ofI q)
      omega
    obtain ⟨m6, f6, g6, o6, q6⟩ := ml_try (W := ml_SW) (fun _ => rfl) (by decide +kernel) hm hf hn k2 (by omega) t1 (by rw [← hch]; exact lt) (by rw [← hch]; exact c4) e4 e5 e6
    have g63 : (I 107 63 + 1).toInt = (I 107 63).toInt + 1 := ml_in1 (by omega)
    refine ⟨fun g => ?_, fun g I31 e31 => ?_⟩
    · have g := kl_le.mp g
      rw [g6, (by decide : (1000 : Int32).toInt = 1000)] at g
      have nx : ∀ (J : sm_I) (Lj : sm_L) (Rj : sm_R) (y : Int32), en_mem ml_tb mlX (xLay, J, Lj, Rj) → en_fr ml_SW w0 (xLay, J, Lj, Rj) → (∀ p j, p ≠ 143 → p ≠ 150 → ¬ (p = 107 ∧ (j = 63 ∨ j = 52 ∨ 90 ≤ j)) → J p j = I p j) → J 107 63 = I6 107 63 → -1 ≤ y.toInt → y.toInt < (I 107 59).toInt → y.toInt ≤ x3.toInt + 1 → (∀ j : Nat, (j : Int) ≤ y.toInt → (J 150 j).toInt ≤ (ml_ch I (I 148 j)).toInt) → sm_wp sm_P S (d + 1) 162 2 [.ref 107, .int y] [] (xLay, J, Lj, (kM Rj)) (0, 0) Φ := by
        intro J Lj Rj y hmJ hfJ oJ tJ y0 y1 y2 hy
        have itJ : J 107 59 = I 107 59 := oJ 107 59 (by decide) (by decide) (by omega)
        refine ih J Lj Rj y hmJ hfJ y0 (Or.inl (by rw [itJ]; exact y1)) (by rw [tJ, g6]; omega) (ml_nc_cg (I := I) (fun j => oJ _ _ (by decide) (by decide) (by omega)) (fun j => oJ _ _ (by decide) (by decide) (by omega)) (fun j => oJ _ _ (by decide) (by decide) (by omega)) (oJ _ _ (by decide) (by decide) (by omega)) (fun j => oJ _ _ (by decide) (by decide) (by omega)) hy) (by rw [tJ, g6]; omega)
      refine ml_cv (c := mlc_8) mlh_8 (Nat.zero_le _) ⟨⟨rfl, rfl⟩, ⟨rfl, k2, (by omega : x3.toInt ≤ 69)⟩, ⟨rfl, (by omega : 1 ≤ (x3 + 1).toInt), (by omega : (x3 + 1).toInt ≤ 70)⟩, trivial⟩ m6 ml_pf0 rfl (fun I7 L7 R7 m7 f7 I10 e10 => ?_)
      obtain ⟨m10, f10, o10⟩ := ml_cop ml_t143 (by decide +kernel) m7 f6 f7 (by omega : 0 ≤ (x3 + 1).toInt) (by omega) e10
      have i10 : I10 148 x3.toNatClampNeg = I 148 x3.toNatClampNeg := by rw [o10 _ _ (by decide) (by omega), o6 _ _ (by decide) (by omega)]
      refine ⟨v, ?_⟩
      rw [i10]
      refine ml_chooses hd m10 bo.1 bo.2 gap bn.1 (by omega) (fun r I11 L11 R11 r0 r1 m11 f11 => ?_)
      have f11' : en_fr ml_SW w0 (xLay, I11, L11, R11) := ml_frt f10 f11 ml_t143
      have o11 : ∀ p j, p ≠ 143 → I11 p j = I10 p j := fun p j h1 => ml_g f11 (ml_143 h1)
      have oI : ∀ p j, p ≠ 143 → p ≠ 150 → ¬ (p = 107 ∧ (j = 63 ∨ j = 52 ∨ 90 ≤ j)) → I11 p j = I p j := fun p j h1 h2 h6 => by rw [o11 _ _ h1, o10 _ _ h1 (by omega), o6 _ _ h2 (by omega)]
      have t11 : I11 107 63 = I6 107 63 := by rw [o11 _ _ (by decide), o10 _ _ (by decide) (by omega)]
      have c11 : ∀ j, I11 150 j = I6 150 j := fun j => by rw [o11 _ _ (by decide), o10 _ _ (by decide) (by omega)]
      have b52 : 0 ≤ (I11 107 52).toInt ∧ (I11 107 52).toInt ≤ 70 := m11.2.1 107 52 (0, 70) (by decide +kernel)
      have i59 : I11 107 59 = I 107 59 := oI _ _ (by decide) (by decide) (by omega)
      refine ⟨fun _ => nx I11 L11 R11 x3 m11 f11' oI t11 (by omega) k1 (by omega) (fun j hj => by rw [c11]; exact q6 j hj), fun _ => ⟨fun _ => ?_, fun c => ?_⟩⟩
      · refine ml_cv (c := mlc_12) mlh_12 (Nat.zero_le _) ⟨⟨rfl, rfl⟩, ⟨rfl, b52.1, b52.2⟩, trivial⟩ m11 ml_pf0 rfl (fun I18 L18 R18 m18 f18 => ?_)
        have o18 : ∀ p j, ¬ (p = 107 ∧ 90 ≤ j) → I18 p j = I11 p j := fun p j h => ml_g f18 (ml_90 h)
        exact nx I18 L18 R18 x3 m18 (ml_frt f11' f18 (by decide +kernel)) (fun p j h1 h2 h6 => by rw [o18 _ _ (by omega), oI _ _ h1 h2 h6]) (by rw [o18 _ _ (by omega), t11]) (by omega) k1 (by omega) (fun j hj => by rw [o18 _ _ (by omega), c11]; exact q6 j hj)
      · have c' : x3.toInt + 1 ≠ (I 107 59).toInt := fun q => c (by rw [i59]; exact en_ofI (by rw [sk]; exact q))
        refine ⟨kl_in (by omega) (by omega), fun I17 e17 => ?_⟩
        have nk1 := kl_nat (i := x3 + 1) (by omega)
        have o17 : ∀ p j, p ≠ 150 → I17 p j = I11 p j := fun p j h => by rw [e17, en_up_ne _ _ _ _ (fun c => h c.1)]
        have m17 : en_mem ml_tb mlX (xLay, I17, L11, R11) := by
          rw [e17]
          exact ml_we2 m11 rfl (n := 70) (q := (0, 4)) rfl (by decide)
        refine nx I17 L11 R11 _ m17 (by rw [e17]; exact ml_fr f11' rfl) (fun p j h1 h2 h6 => by rw [o17 _ _ h2, oI _ _ h1 h2 h6]) (by rw [o17 _ _ (by decide), t11]) (by omega) (by omega) (by omega) (fun j hj => ?_)
        rw [e17]
        by_cases c : j = (x3 + 1).toNatClampNeg
        · have bo' : 0 ≤ (I 148 j).toInt ∧ (I 148 j).toInt ≤ 69 := ml_row hm (p := 148) (n := 70) (q := (0, 69)) (fun _ => rfl) _ (by omega)
          rw [c, en_up_eq, kl_0, ← c]
          exact ml_ch0 hm bo'.1 bo'.2 (hm.2.2.2.2.2.1 _ (by omega))
        · rw [en_up_ne _ _ _ _ (fun q => c q.2), c11]; exact q6 j (by omega)
    · have m31 : en_mem ml_tb mlX (xLay, I31, L, R) := by
        rw [e31]
        exact ml_wf m6 (by decide +kernel) (q := (0, 1)) (by decide +kernel) (by decide)
      exact hΦ I31 L R m31 (by rw [e31]; exact ml_fr f6 (by decide +kernel))
theorem mx_meetsAll {S : sm_C} {d : Nat} {Φ : sm_Z → Prop} {w0 : sm_W} (hd : 4 ≤ d) (hΦ : ∀ (I : sm_I) (L : sm_L) (R : sm_R), en_mem ml_tb mlX (xLay, I, L, R) → en_fr ml_SW w0 (xLay, I, L, R) → Φ (none, (xLay, I, L, kM R))) {I : sm_I} {L : sm_L} {R : sm_R} (hm : en_mem ml_tb mlX (xLay, I, L, R)) (hf : en_fr ml_SW w0 (xLay, I, L, R)) (ht : I 107 63 = 0) : sm_wp sm_P S (d + 1) 162 0 [.ref 107] [] (xLay, I, L, kM R) (0, 0) Φ := by
  refine u_X12_meetsAll_0 ⟨kl_in (by decide) (by decide), fun I1 e1 => ?_⟩
  have m1 : en_mem ml_tb mlX (xLay, I1, L, R) := by
    rw [e1]
    exact ml_we2 hm rfl (n := 70) (q := (0, 4)) rfl (by decide)
  have f1 : en_fr ml_SW w0 (xLay, I1, L, R) := by rw [e1]; exact ml_fr hf rfl
  have o1 : ∀ p j, p ≠ 150 → I1 p j = I p j := fun p j h => by rw [e1, en_up_ne _ _ _ _ (fun c => h c.1)]
  have z1 : I1 150 0 = 0 := by rw [e1]; exact en_up_eq _ _ _ _
  have go : ∀ (J : sm_I) (Lj : sm_L) (Rj : sm_R), en_mem ml_tb mlX (xLay, J, Lj, Rj) → en_fr ml_SW w0 (xLay, J, Lj, Rj) → J 107 63 = 0 → J 150 0 = 0 → sm_wp sm_P S (d + 1) 162 2 [.ref 107, .int (0 : Int32)] [] (xLay, J, Lj, kM Rj) (0, 0) Φ := by
    intro J Lj Rj mJ fJ tJ zJ
    have bi : 0 ≤ (J 107 59).toInt ∧ (J 107 59).toInt ≤ 70 := mJ.2.1 107 59 (0, 70) (by decide +kernel)
    refine mx_meetsAll2 hd hΦ 2002 J Lj Rj 0 mJ fJ (by decide) (by rw [kl_0]; omega) (by rw [tJ]; decide) (fun j hj => ?_) (by rw [tJ, kl_0]; omega)
    have hj0 : j = 0 := by rw [kl_0] at hj; omega
    have bo : 0 ≤ (J 148 j).toInt ∧ (J 148 j).toInt ≤ 69 := ml_row mJ (p := 148) (n := 70) (q := (0, 69)) (fun _ => rfl) _ (by omega)
    rw [show J 150 j = 0 by rw [hj0]; exact zJ, kl_0]
    exact ml_ch0 mJ bo.1 bo.2 (mJ.2.2.2.2.2.1 _ (by omega))
  refine ⟨fun _ => ?_, fun _ => go I1 L R m1 f1 (by rw [o1 _ _ (by decide), ht]) z1⟩
  refine ml_cv (c := mlc_12) mlh_12 (Nat.zero_le _) ⟨⟨rfl, rfl⟩, ⟨rfl, by decide, by decide⟩, trivial⟩ m1 ml_pf0 rfl (fun I2 L2 R2 m2 f2 => ?_)
  have o2 : ∀ p j, ¬ (p = 107 ∧ 90 ≤ j) → I2 p j = I1 p j := fun p j h => ml_g f2 (ml_90 h)
  exact go I2 L2 R2 m2 (ml_frt f1 f2 (by decide +kernel)) (by rw [o2 _ _ (by omega), o1 _ _ (by decide), ht]) (by rw [o2 _ _ (by omega), z1])
theorem mx_isPerson {S : sm_C} {d : Nat} {Φ : sm_Z → Prop} {I : sm_I} {L : sm_L} {R : sm_R} {x : Int32} (hm : en_mem ml_tb mlX (xLay, I, L, R)) (h : ∀ r : Int32, (r = 0 ∨ (0 ≤ x.toInt ∧ x.toInt ≤ 3)) → Φ (some (.int r), (xLay, I, L, kM R))) : sm_wp sm_P S (d + 1) 148 0 [.ref 107, .int x] [] (xLay, I, L, kM R) (0, 0) Φ := by
  obtain ⟨l0, l1, ln, lc⟩ := ml_live hm
  have l0 : 0 ≤ (I 107 18).toInt := l0
  have l1 : (I 107 18).toInt ≤ 1 := l1
  have ln : ((I 107 18).toNatClampNeg : Int) = (I 107 18).toInt := ln
  have b : 0 ≤ (I 118 (I 107 18).toNatClampNeg).toInt ∧ (I 118 (I 107 18).toNatClampNeg).toInt ≤ 4 := ml_row hm (p := 118) (n := 2) (q := (0, 4)) (fun _ => rfl) _ (by omega)
  refine u_X12_isPerson_0 ⟨kl_in l0 (by omega), fun n1 e1 => mx_in (fun r hr h2 => ⟨r, I, L, R, rfl, hr, h r ?_⟩)⟩
  rcases h2 with h2 | h2
  · exact Or.inl h2
  · refine Or.inr ?_
    have s : n1.toInt = (I 118 (I 107 18).toNatClampNeg).toInt - 1 := by
      rw [e1, Int32.toInt_sub, kl_1]; exact en_bmod (by omega) (by omega) (Or.inl rfl)
    rw [s, kl_0] at h2
    omega
theorem mlh_13 {Sc : sm_C} : en_hold ml_tb mlX sm_P Sc mlc_13 := by
  intro d hd vs w hv hm _
  obtain ⟨vs1, rfl, hv1⟩ := kl_vr (q := 107) rfl hv
  obtain ⟨x1, vs2, rfl, b1, hv2⟩ := kl_vi hv1
  obtain ⟨x2, vs3, rfl, b2, hv3⟩ := kl_vi hv2
  obtain ⟨x3, vs4, rfl, b3, hv4⟩ := kl_vi hv3
  obtain rfl := kl_v0 hv4
  have hd : 9 ≤ d := hd
  obtain ⟨d, rfl⟩ : ∃ d', d = d' + 1 + 1 := ⟨d - 2, by omega⟩
  refine ml_top hm (fun I L R hw hm => ?_)
  have fin : ∀ (r : Int32) (I2 : sm_I) (L2 : sm_L) (R2 : sm_R), en_mem ml_tb mlX (xLay, I2, L2, R2) → en_fr ml_SW (xLay, I, L, R) (xLay, I2, L2, R2) → ∃ (o : Option Value) (I3 : sm_I) (L3 : sm_L) (R3 : sm_R), ((some (.int r) : Option Value), ((xLay, I2, L2, kM R2) : sm_W)) = (o, (xLay, I3, L3, kM R3)) ∧ en_pr mlc_13.2.2.2.1 o ∧ en_mem ml_tb mlX (xLay, I3, L3, R3) ∧ en_fr mlc_13.2.2.2.2.1 (xLay, I, L, R) (xLay, I3, L3, R3) := fun r I2 L2 R2 m f => ⟨_, I2, L2, R2, rfl, Or.inl ⟨rfl, en_crange.1, en_crange.2⟩, m, f⟩
  refine u_X12_been_0 (mx_isPerson hm (fun r hr => ⟨r, I, L, R, rfl, fun _ => fin _ _ _ _ hm en_fr_rf, fun hr1 => ?_⟩))
  have a1 := hr.resolve_left hr1
  obtain ⟨l0, l1, ln, lc⟩ := ml_live hm
  have l0 : 0 ≤ (I 107 18).toInt := l0
  have l1 : (I 107 18).toInt ≤ 1 := l1
  have ln : ((I 107 18).toNatClampNeg : Int) = (I 107 18).toInt := ln
  have bp : 0 ≤ (I 119 (I 107 18).toNatClampNeg).toInt ∧ (I 119 (I 107 18).toNatClampNeg).toInt ≤ 6 := ml_row hm (p := 119) (n := 2) (q := (0, 6)) (fun _ => rfl) _ (by omega)
  refine ⟨kl_in l0 (by omega), fun n5 e5 => mx_in (fun r9 _ h9 => ⟨r9, I, L, R, rfl, fun _ => fin _ _ _ _ hm en_fr_rf, fun hr9 => ?_⟩)⟩
  have s5 : n5.toInt = (I 119 (I 107 18).toNatClampNeg).toInt - 1 := by
    rw [e5, Int32.toInt_sub, kl_1]; exact en_bmod (by omega) (by omega) (Or.inl rfl)
  have a2 := h9.resolve_left hr9
  rw [kl_0] at a2
  refine mx_oneMore a1 (by omega) hm en_fr_rf (fun I10 L10 R10 m10 f10 t10 => ⟨I10, L10, R10, rfl, fun I14 e14 => ?_⟩)
  have m14 : en_mem ml_tb mlX (xLay, I14, L10, R10) := by
    rw [e14]
    exact ml_wf m10 (by decide +kernel) (q := (0, 1)) (by decide +kernel) (by decide)
  have f14 : en_fr ml_SW (xLay, I, L, R) (xLay, I14, L10, R10) := by rw [e14]; exact ml_fr f10 (by decide +kernel)
  have t14 : I14 107 63 = 0 := by rw [e14, en_up_ne _ _ _ _ (by omega), t10]
  obtain ⟨k0, k1, kn, kc⟩ := ml_live m14
  have k0 : 0 ≤ (I14 107 18).toInt := k0
  have k1 : (I14 107 18).toInt ≤ 1 := k1
  have kn : ((I14 107 18).toNatClampNeg : Int) = (I14 107 18).toInt := kn
  have bt : 0 ≤ (I14 122 (I14 107 18).toNatClampNeg).toInt ∧ (I14 122 (I14 107 18).toNatClampNeg).toInt ≤ 10 := ml_row m14 (p := 122) (n := 2) (q := (0, 10)) (fun _ => rfl) _ (by omega)
  refine ⟨kl_in k0 (by omega), fun n15 e15 => ?_⟩
  have s15 : n15.toInt = (I14 122 (I14 107 18).toNatClampNeg).toInt + 2 := by rw [e15]; exact ml_ad rfl (by decide) (by omega) (by omega)
  refine ml_ci (c := mlc_5) mlh_5 (by show 4 ≤ d + 1; omega) ⟨⟨rfl, rfl⟩, ⟨rfl, (by omega : (1 : Int) ≤ n15.toInt), (by omega : n15.toInt ≤ (12 : Int))⟩, trivial⟩ m14 ml_pf0 rfl (fun r19 I16 L16 R16 q0 q1 m16 f16 => ?_)
  have hf16 : en_fr ml_SW (xLay, I, L, R) (xLay, I16, L16, R16) := ml_frt f14 f16 (by decide +kernel)
  refine ⟨fun _ => ⟨fun _ => ⟨fun _ => fin _ _ _ _ m16 hf16, fun _ => ⟨fun _ => fin _ _ _ _ m16 hf16, fun _ => fin _ _ _ _ m16 hf16⟩⟩, fun _ => fin _ _ _ _ m16 hf16⟩, fun _ => ?_⟩
  refine mx_meetsAll (by omega) (fun I23 L23 R23 m23 hf23 => ⟨I23, L23, R23, rfl, fun _ => ⟨fun _ => fin _ _ _ _ m23 hf23, fun _ => ⟨fun _ => fin _ _ _ _ m23 hf23, fun _ => fin _ _ _ _ m23 hf23⟩⟩, fun _ => fin _ _ _ _ m23 hf23⟩) m16 hf16 (by rw [ml_g f16 (by decide), t14])
end
section
/-! drawn -/
theorem ml_m1 {x : Int32} (h : ¬ x = (-1 : Int32)) : x.toInt ≠ -1 := fun c => h (en_ofI (by rw [c]; decide))
theorem mx_gapNow {S : sm_C} {d : Nat} {Φ : sm_Z → Prop} {I : sm_I} {L : sm_L} {R : sm_R} {x : Int32} (h0 : 0 ≤ x.toInt) (h1 : x.toInt ≤ 12) (h : ∀ r : Int32, Φ (some (.int r), (xLay, I, L, kM R))) : sm_wp sm_P S d 129 0 [.ref 107, .int x, .int (0 : Int32), .int (0 : Int32)] [] (xLay, I, L, kM R) (0, 0) Φ := by
  have c13 : (13 : Int32).toInt = 13 := by decide
  have c169 : (169 : Int32).toInt = 169 := by decide
  refine u_X12_gapNow_0 ⟨fun _ n1 e1 => ⟨?_, h _⟩, fun a => absurd rfl a⟩
  have s1 : ((13 : Int32) * x).toInt = 13 * x.toInt := ml_mu c13 rfl (by omega) (by omega)
  have s2 : ((169 : Int32) + (13 : Int32) * x).toInt = 169 + 13 * x.toInt := ml_ad c169 s1 (by omega) (by omega)
  have s3 : n1.toInt = 169 + 13 * x.toInt + 0 := by rw [e1]; exact ml_ad s2 kl_0 (by omega) (by omega)
  exact kl_in (by omega) (by omega)
theorem mx_asks {S : sm_C} {d : Nat} {Φ : sm_Z → Prop} {I : sm_I} {L : sm_L} {R : sm_R} {x : Int32} (hd : mlc_17.2.2.2.2.2 ≤ d) (hm : en_mem ml_tb mlX (xLay, I, L, R)) (h : ∀ (r : Int32) (I' : sm_I) (L' : sm_L) (R' : sm_R), en_mem ml_tb mlX (xLay, I', L', R') → en_fr ml_SW (xLay, I, L, R) (xLay, I', L', R') → (r = 0 → 0 ≤ x.toInt ∧ x.toInt ≤ 999) → Φ (some (.int r), (xLay, I', L', kM R'))) : sm_wp sm_P S (d + 1) 97 0 [.ref 107, .int x] [] (xLay, I, L, kM R) (0, 0) Φ := by
  refine u_X12_asks_0 ⟨fun a => ?_, fun _ => h _ I L R hm en_fr_rf (fun c => absurd c (by decide))⟩
  have a := kl_le.mp a
  refine ml_cv (c := mlc_17) mlh_17 hd ⟨⟨rfl, rfl⟩, trivial⟩ hm ml_pf0 rfl (fun I1 L1 R1 m1 f1 => ?_)
  have f1 : en_fr ml_SW (xLay, I, L, R) (xLay, I1, L1, R1) := ml_frw f1 (by decide +kernel)
  have b : 0 ≤ (I1 107 73).toInt ∧ (I1 107 73).toInt ≤ 1000 := m1.2.1 107 73 (0, 1000) (by decide +kernel)
  refine ⟨fun _ => ⟨fun _ => h _ I1 L1 R1 m1 f1 (fun c => absurd c (by decide)), fun q => h _ I1 L1 R1 m1 f1 (fun _ => ?_)⟩, fun _ => h _ I1 L1 R1 m1 f1 (fun c => absurd c (by decide))⟩
  have q := kl_nle q
  rw [kl_0] at a
  omega
/-- a TIME of the one asked for, or none -/
def ml_dk (I : sm_I) (x : Int32) : Prop := x.toInt = -1 ∨ (0 ≤ x.toInt ∧ x.toInt ≤ 9 ∧ ∀ n : Int32, n.toInt = 10 * (I 107 18).toInt + x.toInt → 0 ≤ (I 124 n.toNatClampNeg).toInt)
theorem mx_drawn8 {S : sm_C} {d : Nat} {Φ : sm_Z → Prop} {I : sm_I} {L : sm_L} {R : sm_R} {x2 x3 : Int32} (hm : en_mem ml_tb mlX (xLay, I, L, R)) (b2 : 0 ≤ x2.toInt) (h : ∀ r : Int32, Φ (some (.int r), (xLay, I, L, kM R))) : ∀ (m : Nat) (x5 x6 x7 : Int32), ml_dk I x5 → ml_dk I x6 → 0 ≤ x7.toInt → x7.toInt ≤ 10 → 10 - x7.toInt < m → sm_wp sm_P S (d + 1) 121 8 [.ref 107, .int x2, .int x3, .int x5, .int x6, .int x7] [] (xLay, I, L, kM R) (0, 0) Φ := by
  obtain ⟨l0, l1, ln, lc⟩ := ml_live hm
  have l0 : 0 ≤ (I 107 18).toInt := l0
  have l1 : (I 107 18).toInt ≤ 1 := l1
  have ln : ((I 107 18).toNatClampNeg : Int) = (I 107 18).toInt := ln
  have bt : 0 ≤ (I 122 (I 107 18).toNatClampNeg).toInt ∧ (I 122 (I 107 18).toNatClampNeg).toInt ≤ 10 := ml_row hm (p := 122) (n := 2) (q := (0, 10)) (fun _ => rfl) _ (by omega)
  have c10 : (10 : Int32).toInt = 10 := by decide
  have c6 : (6 : Int32).toInt = 6 := by decide
  have e1 : ((10 : Int32) * I 107 18).toInt = 10 * (I 107 18).toInt := ml_mu c10 rfl (by omega) (by omega)
  have idx : ∀ x n : Int32, 0 ≤ x.toInt → x.toInt ≤ 9 → n = (10 : Int32) * I 107 18 + x → n.toInt = 10 * (I 107 18).toInt + x.toInt ∧ vp_in n 20 := by
    intro x n p0 p1 en
    have e2 : n.toInt = 10 * (I 107 18).toInt + x.toInt := by rw [en]; exact ml_ad e1 rfl (by omega) (by omega)
    exact ⟨e2, kl_in (by omega) (by omega)⟩
  intro m
  induction m with
  | zero => intro x5 x6 x7 d5 d6 h0 h1 hM; omega
  | succ m ih =>
    intro x5 x6 x7 d5 d6 h0 h1 hM
    refine u_X12_drawn_8 ⟨kl_in l0 (by omega), fun _ => ⟨fun _ => h _, fun n5 n1 en1 => ?_⟩, fun a n12 en12 => ?_⟩
    · have g5 := d5.resolve_left (ml_m1 n5)
      obtain ⟨t1, v1⟩ := idx x5 n1 g5.1 g5.2.1 en1
      have p1 := g5.2.2 n1 t1
      have nn1 := kl_nat (i := n1) (by omega)
      have q1 : -1 ≤ (I 124 n1.toNatClampNeg).toInt ∧ (I 124 n1.toNatClampNeg).toInt ≤ 5 := ml_row hm (p := 124) (n := 20) (q := (-1, 5)) (fun _ => rfl) _ (by omega)
      refine ⟨v1, fun _ => h _, fun n6 n2 en2 => ?_⟩
      have g6 := d6.resolve_left (ml_m1 n6)
      obtain ⟨t2, v2⟩ := idx x6 n2 g6.1 g6.2.1 en2
      have p2 := g6.2.2 n2 t2
      have nn2 := kl_nat (i := n2) (by omega)
      have q2 : -1 ≤ (I 124 n2.toNatClampNeg).toInt ∧ (I 124 n2.toNatClampNeg).toInt ≤ 5 := ml_row hm (p := 124) (n := 20) (q := (-1, 5)) (fun _ => rfl) _ (by omega)
      refine ⟨v2, fun n3 en3 => ?_⟩
      have s1 : ((6 : Int32) * I 124 n1.toNatClampNeg).toInt = 6 * (I 124 n1.toNatClampNeg).toInt := ml_mu c6 rfl (by omega) (by omega)
      have s2 : n3.toInt = 6 * (I 124 n1.toNatClampNeg).toInt + (I 124 n2.toNatClampNeg).toInt := by rw [en3]; exact ml_ad s1 rfl (by omega) (by omega)
      have s6 := ml_in1 (x := x6) (by omega)
      exact ⟨kl_in (by omega) (by omega), fun _ => h _, fun _ => mx_gapNow (by omega) (by omega) (fun r => ⟨r, I, L, R, rfl, fun _ => h _, fun _ => h _⟩)⟩
    · have a := kl_nle a
      have s7 := ml_in1 (x := x7) (by omega)
      obtain ⟨t12, v12⟩ := idx x7 n12 h0 (by omega) en12
      have n7 := kl_nat h0
      have nn := kl_nat (i := n12) (by omega)
      have nx : ∀ y z : Int32, ml_dk I y → ml_dk I z → sm_wp sm_P S (d + 1) 121 21 [.ref 107, .int x2, .int x3, .int y, .int z, .int x7] [] (xLay, I, L, kM R) (0, 0) Φ := fun y z hy hz => u_X12_drawn_21 (ih y z _ hy hz (by omega) (by omega) (by omega))
      refine ⟨v12, fun p => ?_, fun _ => nx _ _ d5 d6⟩
      have V := (ml_lv hm).1 x7.toNatClampNeg (by rw [n7]; exact a) (by
        show (I 123 (10 * (I 107 18).toNatClampNeg + x7.toNatClampNeg)).toInt ≠ -1
        rw [show 10 * (I 107 18).toNatClampNeg + x7.toNatClampNeg = n12.toNatClampNeg by omega, p]; omega)
      have V : 0 ≤ (I 124 n12.toNatClampNeg).toInt := by
        rw [show n12.toNatClampNeg = 10 * (I 107 18).toNatClampNeg + x7.toNatClampNeg by omega]; exact V
      have d7 : ml_dk I x7 := Or.inr ⟨h0, by omega, fun n hn => by
        have k := kl_nat (i := n) (by omega)
        rw [show n.toNatClampNeg = n12.toNatClampNeg by omega]; exact V⟩
      have g17 : ∀ y r : Int32, ml_dk I y → sm_wp sm_P S (d + 1) 121 17 [.ref 107, .int x2, .int x3, .int y, .int x6, .int x7, .int r] [] (xLay, I, L, kM R) (0, 0) Φ := fun y r hy => by
        refine u_X12_drawn_17 ⟨fun _ => nx _ _ hy d6, fun _ => ⟨fun _ => nx _ _ hy d7, fun c => ?_⟩⟩
        have g6 := d6.resolve_left (ml_m1 c)
        have s6 := ml_in1 (x := x6) (by omega)
        exact mx_gapNow (by omega) (by omega) (fun r => ⟨r, I, L, R, rfl, fun _ => nx _ _ hy d6, fun _ => nx _ _ hy d7⟩)
      refine mx_gapNow (by omega) (by omega) (fun r => ⟨r, I, L, R, rfl, fun _ n23 en23 => ⟨(idx x7 n23 h0 (by omega) en23).2, h _⟩, fun _ => ⟨fun _ => g17 _ _ d5, fun _ => ⟨fun _ => g17 _ _ d7, fun c => ?_⟩⟩⟩)
      have g5 := d5.resolve_left (ml_m1 c)
      have s5 := ml_in1 (x := x5) (by omega)
      exact mx_gapNow (by omega) (by omega) (fun r => ⟨r, I, L, R, rfl, fun _ => g17 _ _ d5, fun _ => g17 _ _ d7⟩)
theorem mlh_31 {Sc : sm_C} : en_hold ml_tb mlX sm_P Sc mlc_31 := by
  intro d hd vs w hv hm _
  obtain ⟨vs1, rfl, hv1⟩ := kl_vr (q := 107) rfl hv
  obtain ⟨x1, vs2, rfl, b1, hv2⟩ := kl_vi hv1
  obtain ⟨x2, vs3, rfl, b2, hv3⟩ := kl_vi hv2
  obtain ⟨x3, vs4, rfl, b3, hv4⟩ := kl_vi hv3
  obtain rfl := kl_v0 hv4
  have hd : 10 ≤ d := hd
  obtain ⟨d, rfl⟩ : ∃ d', d = d' + 1 + 1 := ⟨d - 2, by omega⟩
  refine ml_top hm (fun I L R hw hm => ?_)
  have fin : ∀ (r : Int32) (I2 : sm_I) (L2 : sm_L) (R2 : sm_R), en_mem ml_tb mlX (xLay, I2, L2, R2) → en_fr ml_SW (xLay, I, L, R) (xLay, I2, L2, R2) → ∃ (o : Option Value) (I3 : sm_I) (L3 : sm_L) (R3 : sm_R), ((some (.int r) : Option Value), ((xLay, I2, L2, kM R2) : sm_W)) = (o, (xLay, I3, L3, kM R3)) ∧ en_pr mlc_31.2.2.2.1 o ∧ en_mem ml_tb mlX (xLay, I3, L3, R3) ∧ en_fr mlc_31.2.2.2.2.1 (xLay, I, L, R) (xLay, I3, L3, R3) := fun r I2 L2 R2 m f => ⟨_, I2, L2, R2, rfl, Or.inl ⟨rfl, en_crange.1, en_crange.2⟩, m, f⟩
  refine u_X12_drawn_0 (mx_isPerson hm (fun r hr => ⟨r, I, L, R, rfl, fun _ => fin _ _ _ _ hm en_fr_rf, fun hr1 => ?_⟩))
  have a2 := hr.resolve_left hr1
  refine u_X12_isMinute_0 (mx_in (fun r hr _ => ⟨r, I, L, R, rfl, hr, r, I, L, R, rfl, fun _ => fin _ _ _ _ hm en_fr_rf, fun _ => ?_⟩))
  refine mx_asks (by exact Nat.le_trans (by decide : _ ≤ 8) (by omega)) hm (fun r9 I7 L7 R7 m7 f7 h9 => ⟨r9, I7, L7, R7, rfl, fun c => ?_, fun _ => fin _ _ _ _ m7 f7⟩)
  have a1 := h9 c
  refine ml_ci (c := mlc_18) mlh_18 (by show 7 ≤ d + 1; omega) ⟨⟨rfl, rfl⟩, ⟨rfl, a1.1, a1.2⟩, ⟨rfl, by decide, by decide⟩, trivial⟩ m7 ml_pf0 rfl (fun r12 I10 L10 R10 q0 q1 m10 f10 => ?_)
  have hf10 : en_fr ml_SW (xLay, I, L, R) (xLay, I10, L10, R10) := ml_frt f7 f10 (by decide +kernel)
  refine ⟨fun _ => fin _ _ _ _ m10 hf10, fun _ => ?_⟩
  exact mx_drawn8 m10 a2.1 (fun r => fin r _ _ _ m10 hf10) 11 _ _ 0 (Or.inl (by decide)) (Or.inl (by decide)) (by decide) (by decide) (by decide)
end
