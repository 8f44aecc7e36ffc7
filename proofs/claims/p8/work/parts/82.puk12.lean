/-! the class's reader with into = 12, exact by the pure machine (template wip/pe/82.tpl.txt) -/
section
variable {S : sm_C} {d : Nat} {Φ : sm_Z → Prop} {I I0 : sm_I} {L L0 : sm_L} {R : sm_R} {a : sg}
theorem k12_T (hz : kz 12 a I L I0 L0) (c j : Nat) (h1 : 12 ≤ c) (h2 : c < 49) : I (c + (12 - 12)) j = a.1 c j := hz.1.2.2.2.1 c j h1 h2
theorem k12_up {c j : Nat} {v : Int32} (h1 : 12 ≤ c) (h2 : c < 49) (hz : kz 12 a I L I0 L0) : kz 12 (u2 a c j v) (sm_up I (c + (12 - 12)) j v) L I0 L0 := kz_t (by decide) h1 h2 hz
theorem k12_find1 {y1 : Int64} {x3 : Int32} (hz : kz 12 a I L I0 L0) (b0 : 0 ≤ (I 2 5).toInt) (b1 : (I 2 5).toInt ≤ 35) : ∀ (m i : Nat) (x4 : Int32), x4.toInt = i → i + m = cnt a.1 → Φ (some (.int (fnd a.1 a.2 y1 x3 m i)), (xLay, I, L, kQ12 R)) → sm_wp sm_P S d 272 1 [.ref 2, .long y1, .int x3, .int x4] [] (xLay, I, L, kQ12 R) (0, 0) Φ := by
  have e5 : I 2 5 = a.1 2 5 := hz.1.1 5 (by decide)
  have nc : ((cnt a.1 : Nat) : Int) = (I 2 5).toInt := by unfold cnt; rw [← e5]; exact kl_nat b0
  intro m
  induction m with
  | zero =>
    intro i x4 hx hm h
    refine s12_X7_find_1 ⟨fun _ => h, fun c => ?_⟩
    have := kl_nle c
    omega
  | succ m ih =>
    intro i x4 hx hm h
    have n4 := tk_nat hx
    have s := ml_in1 (x := x4) (by omega)
    have v : vp_in x4 35 := kl_in (by omega) (by omega)
    have h : Φ (some (.int (if a.2 i = y1 then (if a.1 10 i = x3 then a.1 11 i else fnd a.1 a.2 y1 x3 m (i + 1)) else fnd a.1 a.2 y1 x3 m (i + 1))), (xLay, I, L, kQ12 R)) := h
    have e9 : L 9 x4.toNatClampNeg = a.2 i := by rw [n4]; exact hz.1.2.2.2.2 i
    have e10 : I 10 x4.toNatClampNeg = a.1 10 i := by rw [n4]; exact hz.1.2.1 i
    have e11 : I 11 x4.toNatClampNeg = a.1 11 i := by rw [n4]; exact hz.1.2.2.1 i
    refine s12_X7_find_1 ⟨fun c => ?_, fun c => ⟨v, fun c1 => ⟨v, fun c2 => ⟨v, ?_⟩, fun c2 => ?_⟩, fun c1 => ?_⟩⟩
    · have := kl_le.mp c
      omega
    · rw [tk_lg, e9] at c1
      rw [e10] at c2
      rw [if_pos c1, if_pos c2] at h
      rw [e11]; exact h
    · rw [tk_lg, e9] at c1
      rw [e10] at c2
      rw [if_pos c1, if_neg c2] at h
      exact ih (i + 1) _ (by omega) (by omega) h
    · rw [tk_lg, e9] at c1
      rw [if_neg c1] at h
      exact ih (i + 1) _ (by omega) (by omega) h
theorem k12_find {y1 : Int64} {x3 : Int32} (hz : kz 12 a I L I0 L0) (b0 : 0 ≤ (I 2 5).toInt) (b1 : (I 2 5).toInt ≤ 35) (h : Φ (some (.int (fd a y1 x3)), (xLay, I, L, kQ12 R))) : sm_wp sm_P S d 272 0 [.ref 2, .long y1, .int x3] [] (xLay, I, L, kQ12 R) (0, 0) Φ := s12_X7_find_0 (k12_find1 hz b0 b1 (cnt a.1) 0 0 (by decide) (by omega) h)
theorem k12_addSaying {x1 : Int32} {b : Bool} (hz : kz 12 a I L I0 L0) (hb : x1 = 0 ↔ b = false) (b0 : 0 ≤ (I 12 3).toInt) (h : ∀ J L', kz 12 (sy_new b a) J L' I0 L0 → Φ (none, (xLay, J, L', kQ12 R))) : sm_wp sm_P S d 14 0 [.ref 12, .int x1] [] (xLay, I, L, kQ12 R) (0, 0) Φ := by
  have e3 : I 12 3 = a.1 12 3 := k12_T hz 12 3 (by decide) (by decide)
  have e6 : I 12 6 = a.1 12 6 := k12_T hz 12 6 (by decide) (by decide)
  have c10 : (10 : Int32).toInt = 10 := by decide
  have c4 : (4 : Int32).toInt = 4 := by decide
  have fin : ∀ (a1 : sg) (J : sm_I), kz 12 a1 J L I0 L0 → J 12 3 = I 12 3 → I 12 3 < 10 → sy_new b a = u2 (u2 (u2 a1 22 (a.1 12 3).toNatClampNeg 1) 23 (a.1 12 3 * 4).toNatClampNeg 1) 12 3 (a.1 12 3 + 1) → (vp_in (J 12 3) 10) ∧ ∀ I1 : sm_I, I1 = (sm_up J 22 (J 12 3).toNatClampNeg (1 : Int32)) → (vp_in ((I1 12 3) * (4 : Int32)) 40) ∧ ∀ I2 : sm_I, I2 = (sm_up I1 23 ((I1 12 3) * (4 : Int32)).toNatClampNeg (1 : Int32)) → ∀ I3 : sm_I, I3 = (sm_up I2 12 3 ((I2 12 3) + (1 : Int32))) → Φ (none, (xLay, I3, L, (kQ12 R))) := by
    intro a1 J hJ eJ c ea
    have c := kl_lt.mp c
    have m4 : (I 12 3 * 4).toInt = (I 12 3).toInt * 4 := ml_mu rfl c4 (by omega) (by omega)
    refine ⟨by rw [eJ]; exact kl_in b0 (by omega), fun I1 q1 => ?_⟩
    have g1 : I1 12 3 = I 12 3 := by rw [q1, en_up_ne _ _ _ _ (by omega)]; exact eJ
    rw [g1]
    refine ⟨kl_in (by omega) (by omega), fun I2 q2 I3 q3 => h I3 L ?_⟩
    have g2 : I2 12 3 = I 12 3 := by rw [q2, en_up_ne _ _ _ _ (by omega)]; exact g1
    rw [ea, q3, g2, q2, q1, eJ, ← e3]
    exact k12_up (by decide) (by decide) (k12_up (by decide) (by decide) (k12_up (by decide) (by decide) hJ))
  refine s12_X10_addSaying_0 ⟨fun c => ⟨fun c1 => fin a I hz rfl c ?_, fun c1 n4 q4 => fin (u2 a 12 6 n4) _ (k12_up (by decide) (by decide) hz) (en_up_ne _ _ _ _ (by omega)) c ?_⟩, fun c => ?_⟩
  · unfold sy_new
    rw [if_pos (by rw [← e3]; exact c), if_neg (by rw [hb.mp c1]; decide)]
  · unfold sy_new
    have bt : b = true := by
      cases e : b with
      | true => rfl
      | false => exact absurd (hb.mpr e) c1
    rw [if_pos (by rw [← e3]; exact c), if_pos bt, q4, e3, e6]
  · refine h I L ?_
    unfold sy_new
    rw [if_neg (by rw [← e3]; exact c)]; exact hz
theorem k12_numberNew {x1 : Int32} (hz : kz 12 a I L I0 L0) (b0 : 0 ≤ (I 12 3).toInt) (h : ∀ J L', kz 12 (nb_new x1 a).2 J L' I0 L0 → Φ (some (.int (nb_new x1 a).1), (xLay, J, L', kQ12 R))) : sm_wp sm_P S (d + 1) 275 0 [.ref 2, .int x1] [] (xLay, I, L, kQ12 R) (0, 0) Φ := by
  have e0 : I 12 0 = a.1 12 0 := k12_T hz 12 0 (by decide) (by decide)
  have e1 : I 12 1 = a.1 12 1 := k12_T hz 12 1 (by decide) (by decide)
  have e2 : I 12 2 = a.1 12 2 := k12_T hz 12 2 (by decide) (by decide)
  have e4 : I 12 4 = a.1 12 4 := k12_T hz 12 4 (by decide) (by decide)
  have e7 : I 2 7 = a.1 2 7 := hz.1.1 7 (by decide)
  unfold nb_new at h
  refine s12_X7_numberNew_0 ⟨fun c n q => ?_, fun c => ⟨fun c1 n q => ?_, fun c1 => ⟨fun c2 n q => ?_, fun c2 => ⟨fun c3 n q => ?_, fun c3 => ⟨fun c4 => ?_, fun c4 => ?_⟩⟩⟩⟩⟩
  · rw [if_pos c] at h
    rw [en_up_eq]
    have en : n = mnn 4 (a.1 12 0) := by rw [q, e0]; rfl
    rw [en]
    exact h _ L (k12_up (by decide) (by decide) hz)
  · rw [if_neg c, if_pos c1] at h
    rw [en_up_eq]
    have en : n = mnn 6 (a.1 12 1) := by rw [q, e1]; rfl
    rw [en]
    exact h _ L (k12_up (by decide) (by decide) hz)
  · rw [if_neg c, if_neg c1, if_pos c2] at h
    rw [en_up_eq]
    have en : n = mnn 10 (a.1 12 2) := by rw [q, e2]; rfl
    rw [en]
    exact h _ L (k12_up (by decide) (by decide) hz)
  · rw [if_neg c, if_neg c1, if_neg c2, if_pos c3] at h
    rw [en_up_eq]
    have en : n = mnn 5 (a.1 12 4) := by rw [q, e4]; rfl
    rw [en]
    exact h _ L (k12_up (by decide) (by decide) hz)
  · rw [if_neg c, if_neg c1, if_neg c2, if_neg c3, decide_eq_true (by rw [← e7]; exact c4)] at h
    refine k12_addSaying (b := true) hz (by decide) b0 (fun J L' hJ => ⟨J, L', rfl, ?_⟩)
    rw [show J 12 3 = (sy_new true a).1 12 3 from k12_T hJ 12 3 (by decide) (by decide)]
    exact h J L' hJ
  · rw [if_neg c, if_neg c1, if_neg c2, if_neg c3, decide_eq_false (by rw [← e7]; exact c4)] at h
    refine k12_addSaying (b := false) hz (by decide) b0 (fun J L' hJ => ⟨J, L', rfl, ?_⟩)
    rw [show J 12 3 = (sy_new false a).1 12 3 from k12_T hJ 12 3 (by decide) (by decide)]
    exact h J L' hJ
theorem k12_takeNew1 {y1 : Int64} (hz : kz 12 a I L I0 L0) (b0 : 0 ≤ (I 2 5).toInt) (b1 : (I 2 5).toInt ≤ 35) (s0 : 0 ≤ (I 12 3).toInt) (h : ∀ J L', kz 12 (tk_new y1 a).2 J L' I0 L0 → Φ (some (.int (tk_new y1 a).1), (xLay, J, L', kQ12 R))) : ∀ (m i : Nat) (x3 : Int32), x3.toInt = i → i + m = cnt a.1 → twc a.2 y1 m i = twc a.2 y1 (cnt a.1) 0 → sm_wp sm_P S (d + 2) 280 1 [.ref 2, .long y1, .int x3] [] (xLay, I, L, kQ12 R) (0, 0) Φ := by
  have e5 : I 2 5 = a.1 2 5 := hz.1.1 5 (by decide)
  have e7 : I 2 7 = a.1 2 7 := hz.1.1 7 (by decide)
  have nc : ((cnt a.1 : Nat) : Int) = (I 2 5).toInt := by unfold cnt; rw [← e5]; exact kl_nat b0
  have nn : (I 2 5).toNatClampNeg = cnt a.1 := by unfold cnt; rw [e5]
  have c35 : (35 : Int32).toInt = 35 := by decide
  have add : ∀ kd : Int32, kd = nm_kd a → twc a.2 y1 (cnt a.1) 0 = false → ¬ (35 : Int32) ≤ (I 2 5) → (vp_in (I 2 5) 35) ∧ ∀ L1 : sm_L, L1 = (sm_up L 9 (I 2 5).toNatClampNeg y1) → (vp_in (I 2 5) 35) ∧ ∀ I2 : sm_I, I2 = (sm_up I 10 (I 2 5).toNatClampNeg kd) → sm_wp sm_P S (d + 1) 275 0 [.ref 2, .int kd] [] (xLay, I2, L1, (kQ12 R)) (0, 0) (fun z => ∃ (r5 : Int32) (I3 : sm_I) (L4 : sm_L), z = (some (.int r5), (xLay, I3, L4, (kQ12 R))) ∧ (vp_in (I2 2 5) 35) ∧ ∀ I6 : sm_I, I6 = (sm_up I3 11 (I2 2 5).toNatClampNeg r5) → ∀ I7 : sm_I, I7 = (sm_up I6 2 5 ((I6 2 5) + (1 : Int32))) → Φ (some (.int (0 : Int32)), (xLay, I7, L4, (kQ12 R)))) := by
    intro kd ek tw c
    have c' := kl_nle c
    have v : vp_in (I 2 5) 35 := kl_in b0 (by omega)
    refine ⟨v, fun L1 q1 => ⟨v, fun I2 q2 => ?_⟩⟩
    have g5 : I2 2 5 = I 2 5 := by rw [q2, en_up_ne _ _ _ _ (by omega)]
    have hz2 : kz 12 (sm_up a.1 10 (cnt a.1) (nm_kd a), nmu a.2 (cnt a.1) y1) I2 L1 I0 L0 := by
      rw [q2, q1, nn, ek]
      exact kz_l (kz_r (by decide) (Or.inr (Or.inl rfl)) hz)
    refine k12_numberNew hz2 (by rw [q2, en_up_ne _ _ _ _ (by omega)]; exact s0) (fun J L' hJ => ⟨_, J, L', rfl, by rw [g5]; exact v, fun I6 q6 I7 q7 => ?_⟩)
    rw [ek] at hJ q6
    have n35 : ¬ (35 : Int32) ≤ a.1 2 5 := by rw [← e5]; exact c
    have et : tk_new y1 a = (0, nm_add y1 a) := by unfold tk_new; rw [if_neg (by rw [tw]; decide), if_neg n35]
    rw [et] at h
    refine h I7 L' ?_
    have g65 : I6 2 5 = a.1 2 5 := by
      rw [q6, en_up_ne _ _ _ _ (by omega), hJ.1.1 5 (by decide)]
      unfold nb_new sy_new u2
      show (if _ then _ else _ : Int32 × sg).2.1 2 5 = _
      repeat' split
      all_goals first | rfl | (simp only [en_up_ne _ _ _ _ (show ¬ ((2 : Nat) = 12 ∧ (5 : Nat) = 0) by decide), en_up_ne _ _ _ _ (show ¬ ((2 : Nat) = 12 ∧ (5 : Nat) = 1) by decide), en_up_ne _ _ _ _ (show ¬ ((2 : Nat) = 12 ∧ (5 : Nat) = 2) by decide), en_up_ne _ _ _ _ (show ¬ ((2 : Nat) = 12 ∧ (5 : Nat) = 3) by decide), en_up_ne _ _ _ _ (show ¬ ((2 : Nat) = 12 ∧ (5 : Nat) = 4) by decide), en_up_ne _ _ _ _ (show ¬ ((2 : Nat) = 12 ∧ (5 : Nat) = 6) by decide), sm_up]; simp)
    rw [q7, g65, q6, g5, nn]
    exact kz_r (by decide) (Or.inl ⟨rfl, by decide⟩) (kz_r (by decide) (Or.inr (Or.inr rfl)) hJ)
  have none_ : twc a.2 y1 (cnt a.1) 0 = false → (35 : Int32) ≤ (I 2 5) → Φ (some (.int (0 : Int32)), (xLay, I, L, (kQ12 R))) := fun tw c => by
    have et : tk_new y1 a = (0, a) := by unfold tk_new; rw [if_neg (by rw [tw]; decide), if_pos (by rw [← e5]; exact c)]
    rw [et] at h
    exact h I L hz
  intro m
  induction m with
  | zero =>
    intro i x3 hx hm ht
    have tw : twc a.2 y1 (cnt a.1) 0 = false := ht.symm
    refine s12_X7_takeNew_1 ⟨fun _ => ⟨fun c8 => ⟨none_ tw, add 6 (by unfold nm_kd; rw [if_pos (by rw [← e7]; exact c8)]) tw⟩, fun c8 => ⟨none_ tw, add (I 2 7) (by unfold nm_kd; rw [if_neg (by rw [← e7]; exact c8), e7]) tw⟩⟩, fun c => ?_⟩
    have := kl_nle c
    omega
  | succ m ih =>
    intro i x3 hx hm ht
    have n4 := tk_nat hx
    have s := ml_in1 (x := x3) (by omega)
    have v : vp_in x3 35 := kl_in (by omega) (by omega)
    have ht : (if a.2 i = y1 then true else twc a.2 y1 m (i + 1)) = twc a.2 y1 (cnt a.1) 0 := ht
    have e9 : L 9 x3.toNatClampNeg = a.2 i := by rw [n4]; exact hz.1.2.2.2.2 i
    refine s12_X7_takeNew_1 ⟨fun c => ?_, fun c => ⟨v, fun c1 => ?_, fun c1 => ?_⟩⟩
    · have := kl_le.mp c
      omega
    · rw [tk_lg, e9] at c1
      rw [if_pos c1] at ht
      have et : tk_new y1 a = (3, a) := by unfold tk_new; rw [if_pos ht.symm]
      rw [et] at h
      exact h I L hz
    · rw [tk_lg, e9] at c1
      rw [if_neg c1] at ht
      exact ih (i + 1) _ (by omega) (by omega) ht
theorem k12_takeNew {y1 : Int64} (hz : kz 12 a I L I0 L0) (b0 : 0 ≤ (I 2 5).toInt) (b1 : (I 2 5).toInt ≤ 35) (s0 : 0 ≤ (I 12 3).toInt) (h : ∀ J L', kz 12 (tk_new y1 a).2 J L' I0 L0 → Φ (some (.int (tk_new y1 a).1), (xLay, J, L', kQ12 R))) : sm_wp sm_P S (d + 2) 280 0 [.ref 2, .long y1] [] (xLay, I, L, kQ12 R) (0, 0) Φ := s12_X7_takeNew_0 (k12_takeNew1 hz b0 b1 s0 h (cnt a.1) 0 0 (by decide) (by omega) rfl)
theorem k12_takePath {x1 : Int32} {y2 : Int64} (hz : kz 12 a I L I0 L0) (b0 : 0 ≤ (I 2 5).toInt) (b1 : (I 2 5).toInt ≤ 35) (h : ∀ J L', kz 12 (tk_path x1 y2 a).2 J L' I0 L0 → Φ (some (.int (tk_path x1 y2 a).1), (xLay, J, L', kQ12 R))) : sm_wp sm_P S (d + 1) 282 0 [.ref 2, .int x1, .long y2] [] (xLay, I, L, kQ12 R) (0, 0) Φ := by
  have e8 : I 2 8 = a.1 2 8 := hz.1.1 8 (by decide)
  unfold tk_path at h
  refine s12_X7_takePath_0 (k12_find hz b0 b1 ⟨_, I, L, rfl, fun c => ?_, fun c => ⟨fun c1 => ?_, fun c1 => ?_⟩⟩)
  · rw [if_pos c] at h; exact h I L hz
  · rw [if_neg c, if_pos c1] at h
    exact h _ L (kz_r (by decide) (Or.inl ⟨rfl, by decide⟩) hz)
  · rw [if_neg c, if_neg c1] at h
    rw [en_up_eq, en_up_ne _ _ _ _ (by omega), e8]
    refine ⟨fun c2 => ?_, fun c2 => ?_⟩
    · rw [if_pos c2] at h
      exact h _ L (kz_r (by decide) (Or.inl ⟨rfl, by decide⟩) hz)
    · rw [if_neg c2] at h
      exact h _ L (kz_r (by decide) (Or.inl ⟨rfl, by decide⟩) hz)
theorem k12_putLastPerson {x2 : Int32} (hz : kz 12 a I L I0 L0) (h : ∀ J L', kz 12 (pl_last 14 x2 a) J L' I0 L0 → Φ (none, (xLay, J, L', kQ12 R))) : sm_wp sm_P S d 24 0 [.ref 12, .ref 14, .int x2] [] (xLay, I, L, kQ12 R) (0, 0) Φ := by
  have e2 : I 12 2 = a.1 12 2 := k12_T hz 12 2 (by decide) (by decide)
  have c10 : (10 : Int32).toInt = 10 := by decide
  have c10' : (Int32.ofNat 10).toInt = 10 := by decide
  unfold pl_last at h
  refine s12_X10_putLastPerson_0 ⟨fun c => ?_, fun c => ⟨fun c1 => ?_, fun c1 => ⟨?_, fun I1 q1 => ?_⟩⟩⟩
  · rw [if_pos (by rw [← e2]; exact c)] at h; exact h I L hz
  · rw [if_neg (by rw [← e2]; exact c), if_pos (by rw [← e2]; exact c1)] at h; exact h I L hz
  · have c := kl_nle c
    have c1 := kl_nlt c1
    rw [kl_0] at c
    rw [c10'] at c1
    have s : (I 12 2 - 1).toInt = (I 12 2).toInt - 1 := by rw [Int32.toInt_sub, kl_1]; exact en_bmod (by omega) (by omega) (Or.inl rfl)
    exact kl_in (by omega) (by omega)
  · rw [if_neg (by rw [← e2]; exact c), if_neg (by rw [← e2]; exact c1)] at h
    rw [q1, e2]
    exact h _ L (k12_up (by decide) (by decide) hz)
theorem k12_putLastPlace {x2 : Int32} (hz : kz 12 a I L I0 L0) (h : ∀ J L', kz 12 (pl_last 15 x2 a) J L' I0 L0 → Φ (none, (xLay, J, L', kQ12 R))) : sm_wp sm_P S d 24 0 [.ref 12, .ref 15, .int x2] [] (xLay, I, L, kQ12 R) (0, 0) Φ := by
  have e2 : I 12 2 = a.1 12 2 := k12_T hz 12 2 (by decide) (by decide)
  have c10' : (Int32.ofNat 10).toInt = 10 := by decide
  unfold pl_last at h
  refine s12_X10_putLastPlace_0 ⟨fun c => ?_, fun c => ⟨fun c1 => ?_, fun c1 => ⟨?_, fun I1 q1 => ?_⟩⟩⟩
  · rw [if_pos (by rw [← e2]; exact c)] at h; exact h I L hz
  · rw [if_neg (by rw [← e2]; exact c), if_pos (by rw [← e2]; exact c1)] at h; exact h I L hz
  · have c := kl_nle c
    have c1 := kl_nlt c1
    rw [kl_0] at c
    rw [c10'] at c1
    have s : (I 12 2 - 1).toInt = (I 12 2).toInt - 1 := by rw [Int32.toInt_sub, kl_1]; exact en_bmod (by omega) (by omega) (Or.inl rfl)
    exact kl_in (by omega) (by omega)
  · rw [if_neg (by rw [← e2]; exact c), if_neg (by rw [← e2]; exact c1)] at h
    rw [q1, e2]
    exact h _ L (k12_up (by decide) (by decide) hz)
theorem k12_takeWhere {x1 : Int32} {y2 : Int64} (hz : kz 12 a I L I0 L0) (b0 : 0 ≤ (I 2 5).toInt) (b1 : (I 2 5).toInt ≤ 35) (h : ∀ J L', kz 12 (tk_where x1 y2 a).2 J L' I0 L0 → Φ (some (.int (tk_where x1 y2 a).1), (xLay, J, L', kQ12 R))) : sm_wp sm_P S (d + 1) 285 0 [.ref 2, .int x1, .long y2] [] (xLay, I, L, kQ12 R) (0, 0) Φ := by
  unfold tk_where at h
  refine s12_X7_takeWhere_0 ⟨fun c => ⟨fun z => absurd z (by decide), fun _ => ?_⟩, fun c => ⟨fun _ => ?_, fun z => absurd rfl z⟩⟩
  · rw [if_pos c] at h
    refine k12_find hz b0 b1 ⟨_, I, L, rfl, fun c1 => ?_, fun c1 => ⟨fun z => absurd z (by decide), fun _ => ?_⟩⟩
    · rw [if_pos c1] at h; exact h I L hz
    · rw [if_neg c1] at h
      exact k12_putLastPerson hz (fun J L' hJ => ⟨J, L', rfl, h J L' hJ⟩)
  · rw [if_neg c] at h
    refine k12_find hz b0 b1 ⟨_, I, L, rfl, fun c1 => ?_, fun c1 => ⟨fun _ => ?_, fun z => absurd rfl z⟩⟩
    · rw [if_pos c1] at h; exact h I L hz
    · rw [if_neg c1] at h
      exact k12_putLastPlace hz (fun J L' hJ => ⟨J, L', rfl, h J L' hJ⟩)
theorem k12_isOpen {x1 : Int32} (hz : kz 12 a I L I0 L0) (h : Φ (some (.int (if is_op x1 a = true then 1 else 0)), (xLay, I, L, kQ12 R))) : sm_wp sm_P S (d + 1) 21 0 [.ref 12, .int x1] [] (xLay, I, L, kQ12 R) (0, 0) Φ := by
  have c10' : (Int32.ofNat 10).toInt = 10 := by decide
  have c10 : (10 : Int32).toInt = 10 := by decide
  unfold is_op at h
  refine s12_X10_isOpen_0 (s12v18_X11_valueAt_0 ⟨fun c => ⟨_, I, L, rfl, fun _ => ?_, fun z => absurd rfl z⟩, fun c => ⟨fun c1 => ⟨_, I, L, rfl, fun _ => ?_, fun z => absurd rfl z⟩, fun c1 => ⟨?_, _, I, L, rfl, fun c2 => ?_, fun c2 => ?_⟩⟩⟩)
  · rw [if_pos c] at h; exact h
  · rw [if_neg c, if_pos (show (10 : Int32) ≤ x1 from c1)] at h; exact h
  · have c := kl_nlt0 c
    have c1 := kl_nle c1
    exact kl_in c (by omega)
  · rw [if_neg c, if_neg (show ¬ (10 : Int32) ≤ x1 from c1)] at h
    rw [show I 18 x1.toNatClampNeg = a.1 18 x1.toNatClampNeg from k12_T hz 18 _ (by decide) (by decide)] at c2
    rw [decide_eq_false (fun z => z c2)] at h; exact h
  · rw [if_neg c, if_neg (show ¬ (10 : Int32) ≤ x1 from c1)] at h
    rw [show I 18 x1.toNatClampNeg = a.1 18 x1.toNatClampNeg from k12_T hz 18 _ (by decide) (by decide)] at c2
    rw [decide_eq_true c2] at h; exact h
theorem k12_oy {Ψ : Int32 → Prop} (hz : kz 12 a I L I0 L0) (t0 : 0 ≤ (I 12 2).toInt) (t1 : (I 12 2).toInt ≤ 10) (h : Φ (some (.int (if oy a.1 (a.1 2 8) (a.1 12 2).toNatClampNeg 0 = true then 5 else 0)), (xLay, I, L, kQ12 R))) : ∀ (m i : Nat) (x5 : Int32), x5.toInt = i → i + m = (a.1 12 2).toNatClampNeg → oy a.1 (a.1 2 8) m i = oy a.1 (a.1 2 8) (a.1 12 2).toNatClampNeg 0 → sm_wp sm_P S (d + 1) 281 11 [.ref 2, .int x5] [] (xLay, I, L, kQ12 R) (0, 0) Φ := by
  have e2 : I 12 2 = a.1 12 2 := k12_T hz 12 2 (by decide) (by decide)
  have e8 : I 2 8 = a.1 2 8 := hz.1.1 8 (by decide)
  have nc : (((a.1 12 2).toNatClampNeg : Nat) : Int) = (I 12 2).toInt := by rw [← e2]; exact kl_nat t0
  intro m
  induction m with
  | zero =>
    intro i x5 hx hm ht
    refine s12_X7_takeOpen_11 ⟨fun _ => ?_, fun c => ?_⟩
    · have ht : false = oy a.1 (a.1 2 8) (a.1 12 2).toNatClampNeg 0 := ht
      rw [← ht] at h; exact h
    · have := kl_nle c
      omega
  | succ m ih =>
    intro i x5 hx hm ht
    have n4 := tk_nat hx
    have s := ml_in1 (x := x5) (by omega)
    have ht : (if a.1 18 i = a.1 2 8 then true else oy a.1 (a.1 2 8) m (i + 1)) = oy a.1 (a.1 2 8) (a.1 12 2).toNatClampNeg 0 := ht
    have e18 : I 18 x5.toNatClampNeg = a.1 18 i := by rw [n4]; exact k12_T hz 18 _ (by decide) (by decide)
    refine s12_X7_takeOpen_11 ⟨fun c => ?_, fun c => ⟨kl_in (by omega) (by omega), fun c1 => ?_, fun c1 => ?_⟩⟩
    · have := kl_le.mp c
      omega
    · rw [e18, e8] at c1
      rw [if_pos c1] at ht
      rw [← ht] at h; exact h
    · rw [e18, e8] at c1
      rw [if_neg c1] at ht
      exact ih (i + 1) _ (by omega) (by omega) ht
theorem k12_takeOpen {x1 : Int32} {y2 : Int64} (hz : kz 12 a I L I0 L0) (b0 : 0 ≤ (I 2 5).toInt) (b1 : (I 2 5).toInt ≤ 35) (t0 : 0 ≤ (I 12 2).toInt) (t1 : (I 12 2).toInt ≤ 10) (h : ∀ J L', kz 12 (tk_open x1 y2 a).2 J L' I0 L0 → Φ (some (.int (tk_open x1 y2 a).1), (xLay, J, L', kQ12 R))) : sm_wp sm_P S (d + 2) 281 0 [.ref 2, .int x1, .long y2] [] (xLay, I, L, kQ12 R) (0, 0) Φ := by
  have e8 : I 2 8 = a.1 2 8 := hz.1.1 8 (by decide)
  unfold tk_open at h
  refine s12_X7_takeOpen_0 (k12_find hz b0 b1 ⟨_, I, L, rfl, fun c => ?_, fun c => ⟨fun c1 => ?_, fun c1 => ?_⟩⟩)
  · rw [if_pos c] at h; exact h I L hz
  · rw [if_neg c, if_pos c1] at h
    rw [en_up_eq]
    have hJ := kz_r (v := fd a y2 3) (by decide) (Or.inl ⟨rfl, (by decide : (8 : Nat) ≠ 11)⟩) hz
    have g := h _ L hJ
    have eo : is_op (fd a y2 3) (u2 a 2 8 (fd a y2 3)) = is_op (fd a y2 3) a := by
      unfold is_op
      rw [show ∀ i, (u2 a 2 8 (fd a y2 3)).1 18 i = a.1 18 i from fun i => u2_ne _ _ _ _ (by omega)]
    refine k12_isOpen hJ ⟨_, _, L, rfl, fun c2 => ?_, fun c2 => ?_⟩
    · rw [eo, tk_if] at c2
      rw [if_neg (by rw [c2]; decide)] at g; exact g
    · rw [eo, tk_if1] at c2
      rw [if_pos c2] at g; exact g
  · rw [if_neg c, if_neg c1] at h
    rw [en_up_eq, en_up_ne _ _ _ _ (by omega), e8]
    have hJ := kz_r (v := fd a y2 3) (by decide) (Or.inl ⟨rfl, (by decide : (9 : Nat) ≠ 11)⟩) hz
    have g := h _ L hJ
    have eo : is_op (fd a y2 3) (u2 a 2 9 (fd a y2 3)) = is_op (fd a y2 3) a := by
      unfold is_op
      rw [show ∀ i, (u2 a 2 9 (fd a y2 3)).1 18 i = a.1 18 i from fun i => u2_ne _ _ _ _ (by omega)]
    have ey : ∀ m i, oy (u2 a 2 9 (fd a y2 3)).1 ((u2 a 2 9 (fd a y2 3)).1 2 8) m i = oy a.1 (a.1 2 8) m i := by
      intro m
      have q8 : (u2 a 2 9 (fd a y2 3)).1 2 8 = a.1 2 8 := u2_ne _ _ _ _ (by omega)
      rw [q8]
      induction m with
      | zero => intro i; rfl
      | succ m ih =>
        intro i
        show (if (u2 a 2 9 (fd a y2 3)).1 18 i = a.1 2 8 then true else oy (u2 a 2 9 (fd a y2 3)).1 (a.1 2 8) m (i + 1)) = (if a.1 18 i = a.1 2 8 then true else oy a.1 (a.1 2 8) m (i + 1))
        rw [ih, show (u2 a 2 9 (fd a y2 3)).1 18 i = a.1 18 i from u2_ne _ _ _ _ (by omega)]
    have e12 : (u2 a 2 9 (fd a y2 3)).1 12 2 = a.1 12 2 := u2_ne _ _ _ _ (by omega)
    refine ⟨fun c2 => ?_, fun c2 => ?_⟩
    · rw [if_pos c2] at g; exact g
    · rw [if_neg c2] at g
      refine k12_isOpen hJ ⟨_, _, L, rfl, fun c3 => ?_, fun c3 => ?_⟩
      · rw [eo, tk_if] at c3
        rw [if_neg (by rw [c3]; decide)] at g
        refine k12_oy (Ψ := fun _ => True) hJ (by rw [en_up_ne _ _ _ _ (by omega)]; exact t0) (by rw [en_up_ne _ _ _ _ (by omega)]; exact t1) ?_ ((u2 a 2 9 (fd a y2 3)).1 12 2).toNatClampNeg 0 0 (by decide) (by omega) rfl
        rw [ey, e12]; exact g
      · rw [eo, tk_if1] at c3
        rw [if_pos c3] at g; exact g
theorem k12_takeSpanTime {x1 : Int32} {y2 : Int64} (hz : kz 12 a I L I0 L0) (b0 : 0 ≤ (I 2 5).toInt) (b1 : (I 2 5).toInt ≤ 35) (h : ∀ J L', kz 12 (tk_span x1 y2 a).2 J L' I0 L0 → Φ (some (.int (tk_span x1 y2 a).1), (xLay, J, L', kQ12 R))) : sm_wp sm_P S (d + 1) 283 0 [.ref 2, .int x1, .long y2] [] (xLay, I, L, kQ12 R) (0, 0) Φ := by
  unfold tk_span at h
  refine s12_X7_takeSpanTime_0 (k12_find hz b0 b1 ⟨_, I, L, rfl, fun c => ?_, fun c => ⟨fun c1 I4 q4 => ?_, fun c1 => ?_⟩⟩)
  · rw [if_pos c] at h; exact h I L hz
  · rw [if_neg c, if_pos c1] at h
    rw [q4]
    exact h _ L (kz_r (by decide) (Or.inl ⟨rfl, by decide⟩) (kz_r (by decide) (Or.inl ⟨rfl, by decide⟩) hz))
  · rw [if_neg c, if_neg c1] at h
    exact h _ L (kz_r (by decide) (Or.inl ⟨rfl, by decide⟩) hz)
end
