/-! the reference's walks, exact -/
section
variable {S : sm_C} {d : Nat} {Φ : sm_Z → Prop} {I : sm_I} {L : sm_L} {R : sm_R}
theorem dv36 : ∀ i : Nat, i < 36 → ((Int32.ofNat i) / (6 : Int32)).toInt = ((i / 6 : Nat) : Int) ∧ ((Int32.ofNat i) - (Int32.ofNat i) / (6 : Int32) * (6 : Int32)).toInt = ((i % 6 : Nat) : Int) := by decide +kernel
theorem n1_1 {x : Int32} : x = -1 ↔ x.toInt = -1 := ⟨fun e => by rw [e]; decide, fun e => en_ofI (by rw [e]; decide)⟩
theorem yw_6 {I0 : sm_I} {T : Nat → Int} {k : Nat} (hk : k < 6) (hT : WB 100000 T) (h : ∀ (J : sm_I) (x1 : Int32), x1.toInt = k → (∀ i, i < 36 → (J 139 i).toInt = Fn k T i) → (∀ p j, p ≠ 139 → J p j = I0 p j) → sm_wp sm_P S d 210 4 [.ref 107, .int (x1 + (1 : Int32))] [] (xLay, J, L, kM R) (0, 0) Φ) : ∀ (m i : Nat) (I : sm_I) (x1 x2 : Int32), x1.toInt = k → x2.toInt = i → i + m = 36 → (∀ j, j < i → (I 139 j).toInt = Fn k T j) → (∀ j, i ≤ j → j < 36 → (I 139 j).toInt = T j) → (∀ p j, p ≠ 139 → I p j = I0 p j) → sm_wp sm_P S d 210 6 [.ref 107, .int x1, .int x2] [] (xLay, I, L, kM R) (0, 0) Φ := by
  have c36 : (36 : Int32).toInt = 36 := by decide
  intro m
  induction m with
  | zero =>
    intro i I x1 x2 h1 h2 hm g1 g2 o
    refine p_X12_walks_6 ⟨fun _ => h I x1 h1 (fun j hj => g1 j (by omega)) o, fun a => ?_⟩
    have a := kl_nle a
    omega
  | succ m ih =>
    intro i I x1 x2 h1 h2 hm g1 g2 o
    have s2 := ml_in1 (x := x2) (by omega)
    have n2x := tk_nat h2
    have ex : x2 = Int32.ofNat i := en_ofI (by rw [h2, Int32.toInt_ofNat_of_lt (by omega)])
    obtain ⟨d1, d2⟩ := dv36 i (by omega)
    rw [← ex] at d1 d2
    have vi : vp_in x2 36 := kl_in (by omega) (by omega)
    have rw_ : (I 139 (6 * (i / 6) + k)).toInt = T (6 * (i / 6) + k) := by
      rcases Nat.lt_or_ge (6 * (i / 6) + k) i with c | c
      · rw [g1 _ c, Fn_row hk hT]
      · exact g2 _ c (by omega)
    have cl_ : (I 139 (6 * k + i % 6)).toInt = T (6 * k + i % 6) := by
      rcases Nat.lt_or_ge (6 * k + i % 6) i with c | c
      · rw [g1 _ c, Fn_col hk (by omega) hT]
      · exact g2 _ c (by omega)
    have me_ : (I 139 i).toInt = T i := g2 i (Nat.le_refl _) (by omega)
    have b1 := hT.1 (6 * (i / 6) + k) (by omega)
    have b2 := hT.1 (6 * k + i % 6) (by omega)
    have b3 := hT.1 i (by omega)
    have same : Fn k T i = T i → sm_wp sm_P S d 210 6 [.ref 107, .int x1, .int (x2 + (1 : Int32))] [] (xLay, I, L, kM R) (0, 0) Φ := fun e => ih (i + 1) I x1 _ h1 (by omega) (by omega) (fun j hj => by
      rcases Nat.lt_or_ge j i with c | c
      · exact g1 j c
      · have : j = i := by omega
        subst this
        rw [e]; exact me_) (fun j hj hj2 => g2 j (by omega) hj2) o
    have upd : ∀ (v : Int32) (I' : sm_I), v.toInt = Fn k T i → I' = sm_up I 139 x2.toNatClampNeg v → sm_wp sm_P S d 210 6 [.ref 107, .int x1, .int (x2 + (1 : Int32))] [] (xLay, I', L, kM R) (0, 0) Φ := fun v I' e e' => by
      rw [n2x] at e'
      refine ih (i + 1) I' x1 _ h1 (by omega) (by omega) (fun j hj => ?_) (fun j hj hj2 => ?_) (fun p j hp => ?_)
      · by_cases c : j = i
        · rw [c, e', en_up_eq]; exact e
        · rw [e', en_up_ne _ _ _ _ (by omega)]; exact g1 j (by omega)
      · rw [e', en_up_ne _ _ _ _ (by omega)]; exact g2 j (by omega) hj2
      · rw [e', en_up_ne _ _ _ _ (by omega)]; exact o p j hp
    refine p_X12_walks_6 ⟨fun a => ?_, fun _ => ⟨by decide, fun n1 e1 => ?_⟩⟩
    · have a := kl_le.mp a
      omega
    have q0 : ((6 : Int32) * (x2 / (6 : Int32))).toInt = 6 * ((i / 6 : Nat) : Int) := ml_mu (by decide) d1 (by omega) (by omega)
    have q1 : n1.toInt = ((6 * (i / 6) + k : Nat) : Int) := by rw [e1, ml_ad q0 h1 (by omega) (by omega)]; omega
    refine ⟨kl_in (by omega) (by omega), by decide, fun n2 e2 => ?_⟩
    have q3 : ((6 : Int32) * x1).toInt = 6 * (k : Int) := ml_mu (by decide) h1 (by omega) (by omega)
    have q2 : n2.toInt = ((6 * k + i % 6 : Nat) : Int) := by rw [e2, ml_ad q3 d2 (by omega) (by omega)]; omega
    have m1 := tk_nat q1
    have m2 := tk_nat q2
    rw [m1, m2]
    have sum : (I 139 (6 * (i / 6) + k) + I 139 (6 * k + i % 6)).toInt = T (6 * (i / 6) + k) + T (6 * k + i % 6) := ml_ad rw_ cl_ (by omega) (by omega)
    refine ⟨kl_in (by omega) (by omega), fun c1 => ?_, fun c1 => ⟨fun c2 => ?_, fun c2 => ⟨vi, ?_⟩⟩⟩
    · rw [n1_1, rw_] at c1
      refine same ?_
      unfold Fn
      rw [if_pos (by omega)]
    · rw [n1_1, cl_] at c2
      refine same ?_
      unfold Fn
      split
      · rfl
      · rw [if_pos (by omega)]
    · rw [n1_1, rw_] at c1
      rw [n1_1, cl_] at c2
      rw [n2x]
      refine ⟨fun c3 n3 e3 => ⟨vi, fun I4 e4 => ?_⟩, fun c3 => ⟨vi, fun c4 => ?_, fun c4 n5 e5 => ⟨vi, fun I6 e6 => ?_⟩⟩⟩
      · rw [n1_1, me_] at c3
        refine upd n3 I4 ?_ (by rw [n2x]; exact e4)
        rw [e3, sum]
        unfold Fn
        rw [if_neg (by omega), if_neg (by omega), if_pos (by omega)]
      · rw [n1_1, me_] at c3
        have c4 := kl_le.mp c4
        rw [me_, sum] at c4
        refine same ?_
        unfold Fn
        rw [if_neg (by omega), if_neg (by omega), if_neg (by omega), if_neg (by omega)]
      · rw [n1_1, me_] at c3
        have c4 := kl_nle c4
        rw [me_, sum] at c4
        refine upd n5 I6 ?_ (by rw [n2x]; exact e6)
        rw [e5, sum]
        unfold Fn
        rw [if_neg (by omega), if_neg (by omega), if_neg (by omega), if_pos (by omega)]
theorem yw_4 {I0 : sm_I} {N : Nat → Int} (hN : WB 1440 N) (h : ∀ J : sm_I, (∀ i, i < 36 → (J 139 i).toInt = Ft 6 N i) → (∀ p j, p ≠ 139 → J p j = I0 p j) → Φ (none, (xLay, J, L, kM R))) : ∀ (m k : Nat) (I : sm_I) (x1 : Int32), x1.toInt = k → k + m = 6 → (∀ i, i < 36 → (I 139 i).toInt = Ft k N i) → (∀ p j, p ≠ 139 → I p j = I0 p j) → sm_wp sm_P S d 210 4 [.ref 107, .int x1] [] (xLay, I, L, kM R) (0, 0) Φ := by
  have c6 : (6 : Int32).toInt = 6 := by decide
  intro m
  induction m with
  | zero =>
    intro k I x1 h1 hm g o
    have e : k = 6 := by omega
    subst e
    refine p_X12_walks_4 ⟨fun _ => h I g o, fun a => ?_⟩
    have a := kl_nle a
    omega
  | succ m ih =>
    intro k I x1 h1 hm g o
    refine p_X12_walks_4 ⟨fun a => ?_, fun _ => yw_6 (I0 := I0) (T := Ft k N) (by omega) (WB_F6 hN k (by omega)) (fun J x1 h1 gJ oJ => ih (k + 1) J _ ?_ (by omega) gJ oJ) 36 0 I x1 0 h1 (by decide) (by decide) (fun j hj => absurd hj (Nat.not_lt_zero j)) (fun j _ hj => g j hj) o⟩
    · have a := kl_le.mp a
      omega
    · have s := ml_in1 (x := x1) (by omega)
      omega
theorem yw_1 {I0 : sm_I} {l : Nat} (hl : (I0 107 18).toInt = l) (l1 : l ≤ 1) (hN : WB 1440 (fun i => (I0 121 (36 * l + i)).toInt)) (h : ∀ J : sm_I, (∀ i, i < 36 → (J 139 i).toInt = Ft 6 (fun i => (I0 121 (36 * l + i)).toInt) i) → (∀ p j, p ≠ 139 → J p j = I0 p j) → Φ (none, (xLay, J, L, kM R))) : ∀ (m i : Nat) (I : sm_I) (x1 : Int32), x1.toInt = i → i + m = 36 → (∀ j, j < i → I 139 j = I0 121 (36 * l + j)) → (∀ p j, p ≠ 139 → I p j = I0 p j) → sm_wp sm_P S d 210 1 [.ref 107, .int x1] [] (xLay, I, L, kM R) (0, 0) Φ := by
  have c36 : (36 : Int32).toInt = 36 := by decide
  intro m
  induction m with
  | zero =>
    intro i I x1 h1 hm g o
    refine p_X12_walks_1 ⟨fun _ => yw_4 (I0 := I0) hN h 6 0 I 0 (by decide) (by decide) (fun j hj => by rw [g j (by omega)]; rfl) o, fun a => ?_⟩
    have a := kl_nle a
    omega
  | succ m ih =>
    intro i I x1 h1 hm g o
    have s1 := ml_in1 (x := x1) (by omega)
    have nx := tk_nat h1
    have e18 : (I 107 18).toInt = l := by rw [o 107 18 (by omega)]; exact hl
    have q1 : ((36 : Int32) * (I 107 18)).toInt = 36 * (l : Int) := ml_mu (by decide) e18 (by omega) (by omega)
    refine p_X12_walks_1 ⟨fun a => ?_, fun _ n1 e1 => ?_⟩
    · have a := kl_le.mp a
      omega
    have q2 : n1.toInt = ((36 * l + i : Nat) : Int) := by rw [e1, ml_ad q1 h1 (by omega) (by omega)]; omega
    have m1 := tk_nat q2
    refine ⟨kl_in (by omega) (by omega), kl_in (by omega) (by omega), fun I2 e2 => ?_⟩
    rw [nx, m1, o 121 _ (by omega)] at e2
    refine ih (i + 1) I2 _ (by omega) (by omega) (fun j hj => ?_) (fun p j hp => ?_)
    · by_cases c : j = i
      · rw [c, e2, en_up_eq]
      · rw [e2, en_up_ne _ _ _ _ (by omega)]; exact g j (by omega)
    · rw [e2, en_up_ne _ _ _ _ (by omega)]; exact o p j hp
theorem y_walks {l : Nat} (hl : (I 107 18).toInt = l) (l1 : l ≤ 1) (hN : WB 1440 (fun i => (I 121 (36 * l + i)).toInt)) (h : ∀ J : sm_I, (∀ i, i < 36 → (J 139 i).toInt = Ft 6 (fun i => (I 121 (36 * l + i)).toInt) i) → (∀ p j, p ≠ 139 → J p j = I p j) → Φ (none, (xLay, J, L, kM R))) : sm_wp sm_P S d 210 0 [.ref 107] [] (xLay, I, L, kM R) (0, 0) Φ := p_X12_walks_0 (yw_1 (I0 := I) hl l1 hN h 36 0 I 0 (by decide) (by decide) (fun j hj => absurd hj (Nat.not_lt_zero j)) (fun _ _ _ => rfl))
end
