/-! plans -/
def ml_pk (k p : Int) : Prop := (k = 0 ∧ p = 1) ∨ (k = 1 ∧ p = 3) ∨ (k = 2 ∧ p = 9) ∨ (k = 3 ∧ p = 27) ∨ (k = 4 ∧ p = 81) ∨ (k = 5 ∧ p = 243)
theorem ml_pw {I : sm_I} (hP : mlP I) {x : Int32} (h0 : 0 ≤ x.toInt) (h1 : x.toInt ≤ 5) : ml_pk x.toInt (I 165 x.toNatClampNeg).toInt := by
  obtain ⟨p0, p1, p2, p3, p4, p5⟩ := hP
  have n := kl_nat h0
  unfold ml_pk
  rcases (by omega : x.toNatClampNeg = 0 ∨ x.toNatClampNeg = 1 ∨ x.toNatClampNeg = 2 ∨ x.toNatClampNeg = 3 ∨ x.toNatClampNeg = 4 ∨ x.toNatClampNeg = 5) with e | e | e | e | e | e
  · rw [e, p0]; have : (1 : Int32).toInt = 1 := by decide
    omega
  · rw [e, p1]; have : (3 : Int32).toInt = 3 := by decide
    omega
  · rw [e, p2]; have : (9 : Int32).toInt = 9 := by decide
    omega
  · rw [e, p3]; have : (27 : Int32).toInt = 27 := by decide
    omega
  · rw [e, p4]; have : (81 : Int32).toInt = 81 := by decide
    omega
  · rw [e, p5]; have : (243 : Int32).toInt = 243 := by decide
    omega
theorem ml_dig {s k p K N : Int} (h0 : 0 ≤ s) (h1 : s < N) (hp : ml_pk k p) (hN : ml_pk K N) (hk : k < K) (hd : s / p = 3 * (s / p / 3)) : s + 2 * p < N := by
  rcases hp with ⟨a, b⟩ | ⟨a, b⟩ | ⟨a, b⟩ | ⟨a, b⟩ | ⟨a, b⟩ | ⟨a, b⟩ <;> subst a <;> subst b <;> rcases hN with ⟨a, b⟩ | ⟨a, b⟩ | ⟨a, b⟩ | ⟨a, b⟩ | ⟨a, b⟩ | ⟨a, b⟩ <;> subst a <;> subst b <;> omega
theorem ml_dv {x y : Int32} (h0 : 0 ≤ x.toInt) (h1 : 1 ≤ y.toInt) : (x / y).toInt = x.toInt / y.toInt := by
  have r := en_crange (x := x)
  have q : x.toInt / y.toInt ≤ x.toInt := Int.ediv_le_self _ h0
  have q0 : 0 ≤ x.toInt / y.toInt := Int.ediv_nonneg h0 (by omega)
  rw [Int32.toInt_div, Int.tdiv_eq_ediv_of_nonneg h0]
  exact en_bmod (by omega) (by omega) (Or.inl rfl)
theorem ml_rem3 {x : Int32} (h0 : 0 ≤ x.toInt) (h1 : x.toInt ≤ 1000) (h : x - x / (3 : Int32) * (3 : Int32) = 0) : x.toInt = 3 * (x.toInt / 3) := by
  have c3 : (3 : Int32).toInt = 3 := by decide
  have e1 : (x / (3 : Int32)).toInt = x.toInt / 3 := by rw [ml_dv h0 (by rw [c3]; decide), c3]
  have e2 : (x / (3 : Int32) * (3 : Int32)).toInt = x.toInt / 3 * 3 := ml_mu e1 c3 (by omega) (by omega)
  have e3 : (x - x / (3 : Int32) * (3 : Int32)).toInt = x.toInt - x.toInt / 3 * 3 := by
    rw [Int32.toInt_sub, e2]; exact en_bmod (by omega) (by omega) (Or.inl rfl)
  rw [h, kl_0] at e3
  omega
theorem mx_plans26 {S : sm_C} {d : Nat} {Φ : sm_Z → Prop} {w0 : sm_W} {L : sm_L} {R : sm_R} {x1 x2 x4 : Int32} {N : Int} (hN : ml_pk x2.toInt N) (h0 : 0 ≤ x4.toInt) (h1 : x4.toInt < N) (hk : ∀ J : sm_I, en_mem ml_tb mlX (xLay, J, L, R) → en_fr ml_SW w0 (xLay, J, L, R) → sm_wp sm_P S (d + 1) 177 21 [.ref 107, .int x1, .int x2, .int (x4 + (-1 : Int32))] [] (xLay, J, L, kM R) (0, 0) Φ) : ∀ (m : Nat) (I : sm_I) (x5 : Int32), en_mem ml_tb mlX (xLay, I, L, R) → en_fr ml_SW w0 (xLay, I, L, R) → 0 ≤ x5.toInt → x5.toInt ≤ 5 → 5 - x5.toInt < m → sm_wp sm_P S (d + 1) 177 26 [.ref 107, .int x1, .int x2, .int x4, .int x5] [] (xLay, I, L, kM R) (0, 0) Φ := by
  have bN : N ≤ 243 ∧ x2.toInt ≤ 5 := by
    rcases hN with h | h | h | h | h | h <;> omega
  have n4 := kl_nat h0
  have v4 : vp_in x4 243 := kl_in h0 (by omega)
  intro m
  induction m with
  | zero => intro I x5 hm hf k0 k1 hM; omega
  | succ m ih =>
    intro I x5 hm hf k0 k1 hM
    have P := ml_pw hm.2.2.2.2.2.2.2.1 k0 k1
    have P : ml_pk x5.toInt (I 165 x5.toNatClampNeg).toInt := P
    have bp : 1 ≤ (I 165 x5.toNatClampNeg).toInt ∧ (I 165 x5.toNatClampNeg).toInt ≤ 243 := by
      rcases P with h | h | h | h | h | h <;> omega
    have p0 : ¬ (I 165 x5.toNatClampNeg) = 0 := fun c => by rw [c, kl_0] at bp; omega
    have v5 : vp_in x5 6 := kl_in k0 (by omega)
    have s5 := ml_in1 (x := x5) (by omega)
    refine u_X12_plans_26 ⟨fun _ => hk I hm hf, fun a => ⟨v4, fun _ => hk I hm hf, fun _ => ⟨v5, p0, by decide, fun z => ⟨v5, fun n1 e1 => ?_⟩, fun _ => ?_⟩⟩⟩
    all_goals have a := kl_nle a
    · have dv : (x4 / (I 165 x5.toNatClampNeg)).toInt = x4.toInt / (I 165 x5.toNatClampNeg).toInt := ml_dv h0 bp.1
      have dle : x4.toInt / (I 165 x5.toNatClampNeg).toInt ≤ x4.toInt := Int.ediv_le_self _ h0
      have dge : 0 ≤ x4.toInt / (I 165 x5.toNatClampNeg).toInt := Int.ediv_nonneg h0 (by omega)
      have r3 := ml_rem3 (by rw [dv]; exact dge) (by rw [dv]; omega) z
      rw [dv] at r3
      have dg := ml_dig h0 h1 P hN (by omega) r3
      clear r3 dle dge dv z
      have s1 : n1.toInt = x4.toInt + (I 165 x5.toNatClampNeg).toInt := by rw [e1]; exact ml_ad rfl rfl (by omega) (by omega)
      refine ⟨kl_in (by omega) (by omega), v5, fun n2 e2 => ?_⟩
      have m2 : ((2 : Int32) * (I 165 x5.toNatClampNeg)).toInt = 2 * (I 165 x5.toNatClampNeg).toInt := ml_mu (by decide) rfl (by omega) (by omega)
      have s2 : n2.toInt = x4.toInt + 2 * (I 165 x5.toNatClampNeg).toInt := by rw [e2]; exact ml_ad rfl m2 (by omega) (by omega)
      have wr : ∀ n3 : Int32, (vp_in x4 243) ∧ ((n3 < (I 164 x4.toNatClampNeg) → (vp_in x4 243) ∧ ∀ I4 : sm_I, I4 = (sm_up I 164 x4.toNatClampNeg n3) → ((x4 = 0 → sm_wp sm_P S (d + 1) 177 26 [.ref 107, .int x1, .int x2, .int x4, .int (x5 + (1 : Int32))] [] (xLay, (sm_up I4 107 96 x5), L, (kM R)) (0, 0) Φ) ∧ (¬ x4 = 0 → sm_wp sm_P S (d + 1) 177 26 [.ref 107, .int x1, .int x2, .int x4, .int (x5 + (1 : Int32))] [] (xLay, I4, L, (kM R)) (0, 0) Φ))) ∧ (¬ n3 < (I 164 x4.toNatClampNeg) → sm_wp sm_P S (d + 1) 177 26 [.ref 107, .int x1, .int x2, .int x4, .int (x5 + (1 : Int32))] [] (xLay, I, L, (kM R)) (0, 0) Φ)) := by
        intro n3
        refine ⟨v4, fun _ => ⟨v4, fun I4 e4 => ?_⟩, fun _ => ih I _ hm hf (by omega) (by omega) (by omega)⟩
        have m4 : en_mem ml_tb mlX (xLay, I4, L, R) := by
          rw [e4]
          exact ml_we2 hm rfl (n := 243) (q := (-2147483648, 2147483647)) rfl en_crange
        have f4 : en_fr ml_SW w0 (xLay, I4, L, R) := by rw [e4]; exact ml_fr hf rfl
        refine ⟨fun _ => ih _ _ (ml_wf m4 (by decide +kernel) (q := (-1, 4)) (by decide +kernel) ?_) (ml_fr f4 (by decide +kernel)) (by omega) (by omega) (by omega), fun _ => ih I4 _ m4 f4 (by omega) (by omega) (by omega)⟩
        show (-1 : Int) ≤ x5.toInt ∧ x5.toInt ≤ 4
        omega
      exact ⟨kl_in (by omega) (by omega), fun _ n3 _ => wr n3, fun _ n3 _ => wr n3⟩
    · exact ih I _ hm hf (by omega) (by omega) (by omega)
theorem mx_plans21 {S : sm_C} {d : Nat} {Φ : sm_Z → Prop} {w0 : sm_W} {L : sm_L} {R : sm_R} {x1 x2 : Int32} {N : Int} (hN : ml_pk x2.toInt N) (hΦ : ∀ (r : Int32) (I : sm_I), en_mem ml_tb mlX (xLay, I, L, R) → en_fr ml_SW w0 (xLay, I, L, R) → Φ (some (.int r), (xLay, I, L, kM R))) : ∀ (m : Nat) (I : sm_I) (x4 : Int32), en_mem ml_tb mlX (xLay, I, L, R) → en_fr ml_SW w0 (xLay, I, L, R) → -1 ≤ x4.toInt → x4.toInt < N → x4.toInt < m → sm_wp sm_P S (d + 1) 177 21 [.ref 107, .int x1, .int x2, .int x4] [] (xLay, I, L, kM R) (0, 0) Φ := by
  have bN : N ≤ 243 ∧ x2.toInt ≤ 5 := by
    rcases hN with h | h | h | h | h | h <;> omega
  intro m
  induction m with
  | zero =>
    intro I x4 hm hf h0 h1 hM
    refine u_X12_plans_21 ⟨fun _ => ⟨kl_in (by decide) (by decide), hΦ _ I hm hf⟩, fun a => ?_⟩
    have := kl_nlt0 a
    omega
  | succ m ih =>
    intro I x4 hm hf h0 h1 hM
    refine u_X12_plans_21 ⟨fun _ => ⟨kl_in (by decide) (by decide), hΦ _ I hm hf⟩, fun a => ?_⟩
    have a := kl_nlt0 a
    have v4 : vp_in x4 243 := kl_in a (by omega)
    have go : ∀ (J : sm_I), en_mem ml_tb mlX (xLay, J, L, R) → en_fr ml_SW w0 (xLay, J, L, R) → sm_wp sm_P S (d + 1) 177 26 [.ref 107, .int x1, .int x2, .int x4, .int (0 : Int32)] [] (xLay, J, L, kM R) (0, 0) Φ := by
      intro J mJ fJ
      refine mx_plans26 hN a h1 (fun K mK fK => ?_) 6 J 0 mJ fJ (by decide) (by decide) (by decide)
      obtain ⟨y, hy, sd⟩ : ∃ y, y = x4 + (-1 : Int32) ∧ y.toInt = x4.toInt - 1 := ⟨_, rfl, ml_de1 (by omega)⟩
      rw [← hy]
      exact ih K y mK fK (by omega) (by omega) (by omega)
    have w : ∀ n3 : Int32, (vp_in x4 243) ∧ ∀ I1 : sm_I, I1 = (sm_up I 164 x4.toNatClampNeg n3) → sm_wp sm_P S (d + 1) 177 26 [.ref 107, .int x1, .int x2, .int x4, .int (0 : Int32)] [] (xLay, I1, L, kM R) (0, 0) Φ := fun n3 => ⟨v4, fun I1 e1 => go I1 (by
      rw [e1]
      exact ml_we2 hm rfl (n := 243) (q := (-2147483648, 2147483647)) rfl en_crange) (by rw [e1]; exact ml_fr hf rfl)⟩
    exact ⟨v4, fun _ => w _, fun _ => w _⟩
theorem mx_plans10 {S : sm_C} {d : Nat} {Φ : sm_Z → Prop} {w0 : sm_W} {I : sm_I} {L : sm_L} {R : sm_R} {x1 x2 x3 x4 x5 : Int32} (hd : mlc_36.2.2.2.2.2 ≤ d) (b2 : x2.toInt ≤ 5) (h0 : 0 ≤ x5.toInt) (h1 : x5.toInt < 243) (hm : en_mem ml_tb mlX (xLay, I, L, R)) (hf : en_fr ml_SW w0 (xLay, I, L, R)) (hk : ∀ (J : sm_I) (Lj : sm_L) (Rj : sm_R), en_mem ml_tb mlX (xLay, J, Lj, Rj) → en_fr ml_SW w0 (xLay, J, Lj, Rj) → sm_wp sm_P S (d + 1) 177 8 [.ref 107, .int x1, .int x2, .int x3, .int x4, .int (x5 + 1)] [] (xLay, J, Lj, kM Rj) (0, 0) Φ) : ∀ (m : Nat) (x6 x7 x8 : Int32), 0 ≤ x8.toInt → x8.toInt ≤ 5 → 5 - x8.toInt < m → sm_wp sm_P S (d + 1) 177 10 [.ref 107, .int x1, .int x2, .int x3, .int x4, .int x5, .int x6, .int x7, .int x8] [] (xLay, I, L, kM R) (0, 0) Φ := by
  have v5 : vp_in x5 243 := kl_in h0 (by omega)
  intro m
  induction m with
  | zero => intro x6 x7 x8 k0 k1 hM; omega
  | succ m ih =>
    intro x6 x7 x8 k0 k1 hM
    have P : ml_pk x8.toInt (I 165 x8.toNatClampNeg).toInt := ml_pw hm.2.2.2.2.2.2.2.1 k0 k1
    have bp : 1 ≤ (I 165 x8.toNatClampNeg).toInt ∧ (I 165 x8.toNatClampNeg).toInt ≤ 243 := by
      rcases P with h | h | h | h | h | h <;> omega
    have p0 : ¬ (I 165 x8.toNatClampNeg) = 0 := fun c => by rw [c, kl_0] at bp; omega
    have s8 := ml_in1 (x := x8) (by omega)
    refine u_X12_plans_10 ⟨fun _ => ?_, fun a => ⟨kl_in k0 (by omega), p0, by decide, fun n8 _ => ?_⟩⟩
    · refine ml_ci (c := mlc_36) mlh_36 hd ⟨⟨rfl, rfl⟩, ⟨rfl, en_crange.1, en_crange.2⟩, ⟨rfl, en_crange.1, en_crange.2⟩, trivial⟩ hm ml_pf0 rfl (fun r I1 L1 R1 r0 r1 m1 f1 => ?_)
      have hf1 : en_fr ml_SW w0 (xLay, I1, L1, R1) := ml_frt hf f1 (by decide +kernel)
      refine ⟨fun _ => hk I1 L1 R1 m1 hf1, fun _ => ⟨v5, fun n4 _ => ⟨v5, fun I5 e5 => hk I5 L1 R1 ?_ ?_⟩⟩⟩
      · rw [e5]
        exact ml_we2 m1 rfl (n := 243) (q := (-2147483648, 2147483647)) rfl en_crange
      · rw [e5]; exact ml_fr hf1 rfl
    · have a := kl_nle a
      have go : ∀ y z : Int32, sm_wp sm_P S (d + 1) 177 10 [.ref 107, .int x1, .int x2, .int x3, .int x4, .int x5, .int y, .int z, .int (x8 + 1)] [] (xLay, I, L, kM R) (0, 0) Φ := fun y z => ih y z _ (by omega) (by omega) (by omega)
      exact ⟨fun _ n11 _ => ⟨fun _ n12 _ => go _ _, fun _ => go _ _⟩, fun _ => ⟨fun _ n9 _ => go _ _, fun _ => go _ _⟩⟩
theorem mx_plans8 {S : sm_C} {d : Nat} {Φ : sm_Z → Prop} {w0 : sm_W} {x1 x2 x3 x4 : Int32} (hd : mlc_36.2.2.2.2.2 ≤ d) (b2 : x2.toInt ≤ 5) (b3 : x3.toInt ≤ 243) (hk : ∀ (J : sm_I) (Lj : sm_L) (Rj : sm_R), en_mem ml_tb mlX (xLay, J, Lj, Rj) → en_fr ml_SW w0 (xLay, J, Lj, Rj) → sm_wp sm_P S (d + 1) 177 4 [.ref 107, .int x1, .int x2, .int x3, .int (x4 + 1)] [] (xLay, J, Lj, kM Rj) (0, 0) Φ) : ∀ (m : Nat) (I : sm_I) (L : sm_L) (R : sm_R) (x5 : Int32), en_mem ml_tb mlX (xLay, I, L, R) → en_fr ml_SW w0 (xLay, I, L, R) → 0 ≤ x5.toInt → x3.toInt - x5.toInt ≤ m → sm_wp sm_P S (d + 1) 177 8 [.ref 107, .int x1, .int x2, .int x3, .int x4, .int x5] [] (xLay, I, L, kM R) (0, 0) Φ := by
  intro m
  induction m with
  | zero =>
    intro I L R x5 hm hf h0 hM
    refine u_X12_plans_8 ⟨fun _ => hk I L R hm hf, fun a => ?_⟩
    have := kl_nle a
    omega
  | succ m ih =>
    intro I L R x5 hm hf h0 hM
    refine u_X12_plans_8 ⟨fun _ => hk I L R hm hf, fun a => ?_⟩
    have a := kl_nle a
    have s5 := ml_in1 (x := x5) (by omega)
    exact mx_plans10 hd b2 h0 (by omega) hm hf (fun J Lj Rj mJ fJ => ih J Lj Rj _ mJ fJ (by omega) (by omega)) 6 _ _ 0 (by decide) (by decide) (by decide)
theorem mx_plans4 {S : sm_C} {d : Nat} {Φ : sm_Z → Prop} {w0 : sm_W} {x1 x2 x3 : Int32} (hd : 7 ≤ d) (hN : ml_pk x2.toInt x3.toInt) (hΦ : ∀ (r : Int32) (I : sm_I) (L : sm_L) (R : sm_R), en_mem ml_tb mlX (xLay, I, L, R) → en_fr ml_SW w0 (xLay, I, L, R) → Φ (some (.int r), (xLay, I, L, kM R))) : ∀ (m : Nat) (I : sm_I) (L : sm_L) (R : sm_R) (x4 : Int32), en_mem ml_tb mlX (xLay, I, L, R) → en_fr ml_SW w0 (xLay, I, L, R) → 0 ≤ x4.toInt → x4.toInt ≤ 1000 → 1000 - x4.toInt < m → sm_wp sm_P S (d + 1) 177 4 [.ref 107, .int x1, .int x2, .int x3, .int x4] [] (xLay, I, L, kM R) (0, 0) Φ := by
  have bN : 1 ≤ x3.toInt ∧ x3.toInt ≤ 243 ∧ x2.toInt ≤ 5 := by
    rcases hN with h | h | h | h | h | h <;> omega
  intro m
  induction m with
  | zero => intro I L R x4 hm hf h0 h1 hM; omega
  | succ m ih =>
    intro I L R x4 hm hf h0 h1 hM
    have bw : 0 ≤ (I 107 73).toInt ∧ (I 107 73).toInt ≤ 1000 := hm.2.1 107 73 (0, 1000) (by decide +kernel)
    refine u_X12_plans_4 ⟨fun _ I1 e1 => ?_, fun a => ?_⟩
    · obtain ⟨y, hy, sd⟩ : ∃ y, y = x3 - (1 : Int32) ∧ y.toInt = x3.toInt - 1 := ⟨_, rfl, by rw [Int32.toInt_sub, kl_1]; exact en_bmod (by omega) (by omega) (Or.inl rfl)⟩
      rw [← hy]
      refine mx_plans21 hN (fun r J mJ fJ => hΦ r J L R mJ fJ) 243 I1 y ?_ ?_ (by omega) (by omega) (by omega)
      · rw [e1]
        exact ml_wf hm (by decide +kernel) (q := (-1, 4)) (by decide +kernel) (by decide)
      · rw [e1]; exact ml_fr hf (by decide +kernel)
    · have a := kl_nle a
      have s4 := ml_in1 (x := x4) (by omega)
      refine ml_ci (c := mlc_18) mlh_18 hd ⟨⟨rfl, rfl⟩, ⟨rfl, h0, (by omega : x4.toInt ≤ 999)⟩, ⟨rfl, by decide, by decide⟩, trivial⟩ hm ml_pf0 rfl (fun r I2 L2 R2 r0 r1 m2 f2 => ?_)
      have hf2 : en_fr ml_SW w0 (xLay, I2, L2, R2) := ml_frt hf f2 (by decide +kernel)
      refine ⟨fun _ => ih I2 L2 R2 _ m2 hf2 (by omega) (by omega) (by omega), fun _ => ?_⟩
      exact mx_plans8 (Nat.le_trans (by decide : _ ≤ 7) hd) bN.2.2 bN.2.1 (fun J Lj Rj mJ fJ => ih J Lj Rj _ mJ fJ (by omega) (by omega) (by omega)) 243 I2 L2 R2 0 m2 hf2 (by decide) (by rw [kl_0]; omega)
theorem mx_plans1 {S : sm_C} {d : Nat} {Φ : sm_Z → Prop} {w0 : sm_W} {L : sm_L} {R : sm_R} {x1 x2 x3 : Int32} (hd : 7 ≤ d) (hN : ml_pk x2.toInt x3.toInt) (hΦ : ∀ (r : Int32) (I : sm_I) (L : sm_L) (R : sm_R), en_mem ml_tb mlX (xLay, I, L, R) → en_fr ml_SW w0 (xLay, I, L, R) → Φ (some (.int r), (xLay, I, L, kM R))) : ∀ (m : Nat) (I : sm_I) (x4 : Int32), en_mem ml_tb mlX (xLay, I, L, R) → en_fr ml_SW w0 (xLay, I, L, R) → 0 ≤ x4.toInt → x3.toInt - x4.toInt ≤ m → sm_wp sm_P S (d + 1) 177 1 [.ref 107, .int x1, .int x2, .int x3, .int x4] [] (xLay, I, L, kM R) (0, 0) Φ := by
  have bN : 1 ≤ x3.toInt ∧ x3.toInt ≤ 243 ∧ x2.toInt ≤ 5 := by
    rcases hN with h | h | h | h | h | h <;> omega
  intro m
  induction m with
  | zero =>
    intro I x4 hm hf h0 hM
    refine u_X12_plans_1 ⟨fun _ => mx_plans4 hd hN hΦ 1001 I L R 0 hm hf (by decide) (by decide) (by decide), fun a => ?_⟩
    have := kl_nle a
    omega
  | succ m ih =>
    intro I x4 hm hf h0 hM
    refine u_X12_plans_1 ⟨fun _ => mx_plans4 hd hN hΦ 1001 I L R 0 hm hf (by decide) (by decide) (by decide), fun a => ?_⟩
    have a := kl_nle a
    have s4 := ml_in1 (x := x4) (by omega)
    refine ⟨kl_in h0 (by omega), fun I1 e1 => ih I1 _ ?_ ?_ (by omega) (by omega)⟩
    · rw [e1]
      exact ml_we2 hm rfl (n := 243) (q := (-2147483648, 2147483647)) rfl (by decide)
    · rw [e1]; exact ml_fr hf rfl
theorem mlh_37 {Sc : sm_C} : en_hold ml_tb mlX sm_P Sc mlc_37 := by
  intro d hd vs w hv hm _
  obtain ⟨vs1, rfl, hv1⟩ := kl_vr (q := 107) rfl hv
  obtain ⟨x1, vs2, rfl, b1, hv2⟩ := kl_vi hv1
  obtain rfl := kl_v0 hv2
  have hd : 9 ≤ d := hd
  obtain ⟨d, rfl⟩ : ∃ d', d = d' + 1 := ⟨d - 1, by omega⟩
  refine ml_top hm (fun I L R hw hm => ?_)
  obtain ⟨l0, l1, ln, lc⟩ := ml_live hm
  have l0 : 0 ≤ (I 107 18).toInt := l0
  have l1 : (I 107 18).toInt ≤ 1 := l1
  have ln : ((I 107 18).toNatClampNeg : Int) = (I 107 18).toInt := ln
  have b : 0 ≤ (I 136 (I 107 18).toNatClampNeg).toInt ∧ (I 136 (I 107 18).toNatClampNeg).toInt ≤ 5 := ml_row hm (p := 136) (n := 2) (q := (0, 5)) (fun _ => rfl) _ (by omega)
  refine u_X12_plans_0 ⟨kl_in l0 (by omega), fun n1 e1 => ⟨by rw [e1]; exact kl_in b.1 (by omega), ?_⟩⟩
  have P : ml_pk n1.toInt (I 165 n1.toNatClampNeg).toInt := ml_pw hm.2.2.2.2.2.2.2.1 (by rw [e1]; exact b.1) (by rw [e1]; exact b.2)
  have bN : 1 ≤ (I 165 n1.toNatClampNeg).toInt ∧ (I 165 n1.toNatClampNeg).toInt ≤ 243 := by
    rcases P with h | h | h | h | h | h <;> omega
  exact mx_plans1 (by omega) P (fun r I2 L2 R2 m f => ⟨_, I2, L2, R2, rfl, Or.inl ⟨rfl, en_crange.1, en_crange.2⟩, m, f⟩) 243 I 0 hm en_fr_rf (by decide) (by rw [kl_0]; omega)
