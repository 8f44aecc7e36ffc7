/-! the class's readTape with into = 49, exact (wip/pe/mk98i.py) -/
section
variable {S : sm_C} {d : Nat} {Φ : sm_Z → Prop} {I : sm_I} {L : sm_L} {R : sm_R}
theorem k49_f13a {I0 : sm_I} {x1 : Int32} (h : ∀ J : sm_I, (∀ j, j < 36 → J 50 j = x1) → (∀ a j, a ≠ 50 → J a j = I0 a j) → Φ (none, (xLay, J, L, kQ49 R))) : ∀ (m i : Nat) (I : sm_I) (x2 : Int32), x2.toInt = i → i + m = 36 → (∀ j, j < i → I 50 j = x1) → (∀ a j, a ≠ 50 → I a j = I0 a j) → sm_wp sm_P S d 306 1 [.ref 50, .int x1, .int x2, .int (Int32.ofNat 36)] [] (xLay, I, L, kQ49 R) (0, 0) Φ := by
  have cn : (Int32.ofNat 36).toInt = 36 := by decide
  intro m
  induction m with
  | zero =>
    intro i I x2 hx hm h1 h2
    refine s49f13_J7_fill_53178_1 ⟨fun _ => h I (fun j hj => h1 j (by omega)) h2, fun a => ?_⟩
    have := kl_nle a
    omega
  | succ m ih =>
    intro i I x2 hx hm h1 h2
    have nn := tk_nat hx
    have s := ml_in1 (x := x2) (by omega)
    refine s49f13_J7_fill_53178_1 ⟨fun a => ?_, fun _ => ⟨kl_in (by omega) (by omega), fun I1 e1 => ?_⟩⟩
    · have := kl_le.mp a
      omega
    · rw [nn] at e1
      refine ih (i + 1) I1 _ (by omega) (by omega) (fun j hj => ?_) (fun a j ha => ?_)
      · by_cases c : j = i
        · subst c; rw [e1, en_up_eq]
        · rw [e1, en_up_ne _ _ _ _ (by omega)]; exact h1 j (by omega)
      · rw [e1, en_up_ne _ _ _ _ (by omega)]; exact h2 a j ha
theorem k49_f13 {x1 : Int32} (h : ∀ J : sm_I, (∀ j, j < 36 → J 50 j = x1) → (∀ a j, a ≠ 50 → J a j = I a j) → Φ (none, (xLay, J, L, kQ49 R))) : sm_wp sm_P S d 306 0 [.ref 50, .int x1] [] (xLay, I, L, kQ49 R) (0, 0) Φ := s49f13_J7_fill_53178_0 (k49_f13a h 36 0 I 0 (by decide) (by decide) (fun j hj => absurd hj (Nat.not_lt_zero j)) (fun _ _ _ => rfl))
theorem k49_f14a {I0 : sm_I} {x1 : Int32} (h : ∀ J : sm_I, (∀ j, j < 10 → J 51 j = x1) → (∀ a j, a ≠ 51 → J a j = I0 a j) → Φ (none, (xLay, J, L, kQ49 R))) : ∀ (m i : Nat) (I : sm_I) (x2 : Int32), x2.toInt = i → i + m = 10 → (∀ j, j < i → I 51 j = x1) → (∀ a j, a ≠ 51 → I a j = I0 a j) → sm_wp sm_P S d 306 1 [.ref 51, .int x1, .int x2, .int (Int32.ofNat 10)] [] (xLay, I, L, kQ49 R) (0, 0) Φ := by
  have cn : (Int32.ofNat 10).toInt = 10 := by decide
  intro m
  induction m with
  | zero =>
    intro i I x2 hx hm h1 h2
    refine s49f14_J7_fill_53178_1 ⟨fun _ => h I (fun j hj => h1 j (by omega)) h2, fun a => ?_⟩
    have := kl_nle a
    omega
  | succ m ih =>
    intro i I x2 hx hm h1 h2
    have nn := tk_nat hx
    have s := ml_in1 (x := x2) (by omega)
    refine s49f14_J7_fill_53178_1 ⟨fun a => ?_, fun _ => ⟨kl_in (by omega) (by omega), fun I1 e1 => ?_⟩⟩
    · have := kl_le.mp a
      omega
    · rw [nn] at e1
      refine ih (i + 1) I1 _ (by omega) (by omega) (fun j hj => ?_) (fun a j ha => ?_)
      · by_cases c : j = i
        · subst c; rw [e1, en_up_eq]
        · rw [e1, en_up_ne _ _ _ _ (by omega)]; exact h1 j (by omega)
      · rw [e1, en_up_ne _ _ _ _ (by omega)]; exact h2 a j ha
theorem k49_f14 {x1 : Int32} (h : ∀ J : sm_I, (∀ j, j < 10 → J 51 j = x1) → (∀ a j, a ≠ 51 → J a j = I a j) → Φ (none, (xLay, J, L, kQ49 R))) : sm_wp sm_P S d 306 0 [.ref 51, .int x1] [] (xLay, I, L, kQ49 R) (0, 0) Φ := s49f14_J7_fill_53178_0 (k49_f14a h 10 0 I 0 (by decide) (by decide) (fun j hj => absurd hj (Nat.not_lt_zero j)) (fun _ _ _ => rfl))
theorem k49_f15a {I0 : sm_I} {x1 : Int32} (h : ∀ J : sm_I, (∀ j, j < 10 → J 52 j = x1) → (∀ a j, a ≠ 52 → J a j = I0 a j) → Φ (none, (xLay, J, L, kQ49 R))) : ∀ (m i : Nat) (I : sm_I) (x2 : Int32), x2.toInt = i → i + m = 10 → (∀ j, j < i → I 52 j = x1) → (∀ a j, a ≠ 52 → I a j = I0 a j) → sm_wp sm_P S d 306 1 [.ref 52, .int x1, .int x2, .int (Int32.ofNat 10)] [] (xLay, I, L, kQ49 R) (0, 0) Φ := by
  have cn : (Int32.ofNat 10).toInt = 10 := by decide
  intro m
  induction m with
  | zero =>
    intro i I x2 hx hm h1 h2
    refine s49f15_J7_fill_53178_1 ⟨fun _ => h I (fun j hj => h1 j (by omega)) h2, fun a => ?_⟩
    have := kl_nle a
    omega
  | succ m ih =>
    intro i I x2 hx hm h1 h2
    have nn := tk_nat hx
    have s := ml_in1 (x := x2) (by omega)
    refine s49f15_J7_fill_53178_1 ⟨fun a => ?_, fun _ => ⟨kl_in (by omega) (by omega), fun I1 e1 => ?_⟩⟩
    · have := kl_le.mp a
      omega
    · rw [nn] at e1
      refine ih (i + 1) I1 _ (by omega) (by omega) (fun j hj => ?_) (fun a j ha => ?_)
      · by_cases c : j = i
        · subst c; rw [e1, en_up_eq]
        · rw [e1, en_up_ne _ _ _ _ (by omega)]; exact h1 j (by omega)
      · rw [e1, en_up_ne _ _ _ _ (by omega)]; exact h2 a j ha
theorem k49_f15 {x1 : Int32} (h : ∀ J : sm_I, (∀ j, j < 10 → J 52 j = x1) → (∀ a j, a ≠ 52 → J a j = I a j) → Φ (none, (xLay, J, L, kQ49 R))) : sm_wp sm_P S d 306 0 [.ref 52, .int x1] [] (xLay, I, L, kQ49 R) (0, 0) Φ := s49f15_J7_fill_53178_0 (k49_f15a h 10 0 I 0 (by decide) (by decide) (fun j hj => absurd hj (Nat.not_lt_zero j)) (fun _ _ _ => rfl))
theorem k49_f18a {I0 : sm_I} {x1 : Int32} (h : ∀ J : sm_I, (∀ j, j < 10 → J 55 j = x1) → (∀ a j, a ≠ 55 → J a j = I0 a j) → Φ (none, (xLay, J, L, kQ49 R))) : ∀ (m i : Nat) (I : sm_I) (x2 : Int32), x2.toInt = i → i + m = 10 → (∀ j, j < i → I 55 j = x1) → (∀ a j, a ≠ 55 → I a j = I0 a j) → sm_wp sm_P S d 306 1 [.ref 55, .int x1, .int x2, .int (Int32.ofNat 10)] [] (xLay, I, L, kQ49 R) (0, 0) Φ := by
  have cn : (Int32.ofNat 10).toInt = 10 := by decide
  intro m
  induction m with
  | zero =>
    intro i I x2 hx hm h1 h2
    refine s49f18_J7_fill_53178_1 ⟨fun _ => h I (fun j hj => h1 j (by omega)) h2, fun a => ?_⟩
    have := kl_nle a
    omega
  | succ m ih =>
    intro i I x2 hx hm h1 h2
    have nn := tk_nat hx
    have s := ml_in1 (x := x2) (by omega)
    refine s49f18_J7_fill_53178_1 ⟨fun a => ?_, fun _ => ⟨kl_in (by omega) (by omega), fun I1 e1 => ?_⟩⟩
    · have := kl_le.mp a
      omega
    · rw [nn] at e1
      refine ih (i + 1) I1 _ (by omega) (by omega) (fun j hj => ?_) (fun a j ha => ?_)
      · by_cases c : j = i
        · subst c; rw [e1, en_up_eq]
        · rw [e1, en_up_ne _ _ _ _ (by omega)]; exact h1 j (by omega)
      · rw [e1, en_up_ne _ _ _ _ (by omega)]; exact h2 a j ha
theorem k49_f18 {x1 : Int32} (h : ∀ J : sm_I, (∀ j, j < 10 → J 55 j = x1) → (∀ a j, a ≠ 55 → J a j = I a j) → Φ (none, (xLay, J, L, kQ49 R))) : sm_wp sm_P S d 306 0 [.ref 55, .int x1] [] (xLay, I, L, kQ49 R) (0, 0) Φ := s49f18_J7_fill_53178_0 (k49_f18a h 10 0 I 0 (by decide) (by decide) (fun j hj => absurd hj (Nat.not_lt_zero j)) (fun _ _ _ => rfl))
theorem k49_f21a {I0 : sm_I} {x1 : Int32} (h : ∀ J : sm_I, (∀ j, j < 10 → J 58 j = x1) → (∀ a j, a ≠ 58 → J a j = I0 a j) → Φ (none, (xLay, J, L, kQ49 R))) : ∀ (m i : Nat) (I : sm_I) (x2 : Int32), x2.toInt = i → i + m = 10 → (∀ j, j < i → I 58 j = x1) → (∀ a j, a ≠ 58 → I a j = I0 a j) → sm_wp sm_P S d 306 1 [.ref 58, .int x1, .int x2, .int (Int32.ofNat 10)] [] (xLay, I, L, kQ49 R) (0, 0) Φ := by
  have cn : (Int32.ofNat 10).toInt = 10 := by decide
  intro m
  induction m with
  | zero =>
    intro i I x2 hx hm h1 h2
    refine s49f21_J7_fill_53178_1 ⟨fun _ => h I (fun j hj => h1 j (by omega)) h2, fun a => ?_⟩
    have := kl_nle a
    omega
  | succ m ih =>
    intro i I x2 hx hm h1 h2
    have nn := tk_nat hx
    have s := ml_in1 (x := x2) (by omega)
    refine s49f21_J7_fill_53178_1 ⟨fun a => ?_, fun _ => ⟨kl_in (by omega) (by omega), fun I1 e1 => ?_⟩⟩
    · have := kl_le.mp a
      omega
    · rw [nn] at e1
      refine ih (i + 1) I1 _ (by omega) (by omega) (fun j hj => ?_) (fun a j ha => ?_)
      · by_cases c : j = i
        · subst c; rw [e1, en_up_eq]
        · rw [e1, en_up_ne _ _ _ _ (by omega)]; exact h1 j (by omega)
      · rw [e1, en_up_ne _ _ _ _ (by omega)]; exact h2 a j ha
theorem k49_f21 {x1 : Int32} (h : ∀ J : sm_I, (∀ j, j < 10 → J 58 j = x1) → (∀ a j, a ≠ 58 → J a j = I a j) → Φ (none, (xLay, J, L, kQ49 R))) : sm_wp sm_P S d 306 0 [.ref 58, .int x1] [] (xLay, I, L, kQ49 R) (0, 0) Φ := s49f21_J7_fill_53178_0 (k49_f21a h 10 0 I 0 (by decide) (by decide) (fun j hj => absurd hj (Nat.not_lt_zero j)) (fun _ _ _ => rfl))
theorem k49_f22a {I0 : sm_I} {x1 : Int32} (h : ∀ J : sm_I, (∀ j, j < 10 → J 59 j = x1) → (∀ a j, a ≠ 59 → J a j = I0 a j) → Φ (none, (xLay, J, L, kQ49 R))) : ∀ (m i : Nat) (I : sm_I) (x2 : Int32), x2.toInt = i → i + m = 10 → (∀ j, j < i → I 59 j = x1) → (∀ a j, a ≠ 59 → I a j = I0 a j) → sm_wp sm_P S d 306 1 [.ref 59, .int x1, .int x2, .int (Int32.ofNat 10)] [] (xLay, I, L, kQ49 R) (0, 0) Φ := by
  have cn : (Int32.ofNat 10).toInt = 10 := by decide
  intro m
  induction m with
  | zero =>
    intro i I x2 hx hm h1 h2
    refine s49f22_J7_fill_53178_1 ⟨fun _ => h I (fun j hj => h1 j (by omega)) h2, fun a => ?_⟩
    have := kl_nle a
    omega
  | succ m ih =>
    intro i I x2 hx hm h1 h2
    have nn := tk_nat hx
    have s := ml_in1 (x := x2) (by omega)
    refine s49f22_J7_fill_53178_1 ⟨fun a => ?_, fun _ => ⟨kl_in (by omega) (by omega), fun I1 e1 => ?_⟩⟩
    · have := kl_le.mp a
      omega
    · rw [nn] at e1
      refine ih (i + 1) I1 _ (by omega) (by omega) (fun j hj => ?_) (fun a j ha => ?_)
      · by_cases c : j = i
        · subst c; rw [e1, en_up_eq]
        · rw [e1, en_up_ne _ _ _ _ (by omega)]; exact h1 j (by omega)
      · rw [e1, en_up_ne _ _ _ _ (by omega)]; exact h2 a j ha
theorem k49_f22 {x1 : Int32} (h : ∀ J : sm_I, (∀ j, j < 10 → J 59 j = x1) → (∀ a j, a ≠ 59 → J a j = I a j) → Φ (none, (xLay, J, L, kQ49 R))) : sm_wp sm_P S d 306 0 [.ref 59, .int x1] [] (xLay, I, L, kQ49 R) (0, 0) Φ := s49f22_J7_fill_53178_0 (k49_f22a h 10 0 I 0 (by decide) (by decide) (fun j hj => absurd hj (Nat.not_lt_zero j)) (fun _ _ _ => rfl))
theorem k49_f23a {I0 : sm_I} {x1 : Int32} (h : ∀ J : sm_I, (∀ j, j < 40 → J 60 j = x1) → (∀ a j, a ≠ 60 → J a j = I0 a j) → Φ (none, (xLay, J, L, kQ49 R))) : ∀ (m i : Nat) (I : sm_I) (x2 : Int32), x2.toInt = i → i + m = 40 → (∀ j, j < i → I 60 j = x1) → (∀ a j, a ≠ 60 → I a j = I0 a j) → sm_wp sm_P S d 306 1 [.ref 60, .int x1, .int x2, .int (Int32.ofNat 40)] [] (xLay, I, L, kQ49 R) (0, 0) Φ := by
  have cn : (Int32.ofNat 40).toInt = 40 := by decide
  intro m
  induction m with
  | zero =>
    intro i I x2 hx hm h1 h2
    refine s49f23_J7_fill_53178_1 ⟨fun _ => h I (fun j hj => h1 j (by omega)) h2, fun a => ?_⟩
    have := kl_nle a
    omega
  | succ m ih =>
    intro i I x2 hx hm h1 h2
    have nn := tk_nat hx
    have s := ml_in1 (x := x2) (by omega)
    refine s49f23_J7_fill_53178_1 ⟨fun a => ?_, fun _ => ⟨kl_in (by omega) (by omega), fun I1 e1 => ?_⟩⟩
    · have := kl_le.mp a
      omega
    · rw [nn] at e1
      refine ih (i + 1) I1 _ (by omega) (by omega) (fun j hj => ?_) (fun a j ha => ?_)
      · by_cases c : j = i
        · subst c; rw [e1, en_up_eq]
        · rw [e1, en_up_ne _ _ _ _ (by omega)]; exact h1 j (by omega)
      · rw [e1, en_up_ne _ _ _ _ (by omega)]; exact h2 a j ha
theorem k49_f23 {x1 : Int32} (h : ∀ J : sm_I, (∀ j, j < 40 → J 60 j = x1) → (∀ a j, a ≠ 60 → J a j = I a j) → Φ (none, (xLay, J, L, kQ49 R))) : sm_wp sm_P S d 306 0 [.ref 60, .int x1] [] (xLay, I, L, kQ49 R) (0, 0) Φ := s49f23_J7_fill_53178_0 (k49_f23a h 40 0 I 0 (by decide) (by decide) (fun j hj => absurd hj (Nat.not_lt_zero j)) (fun _ _ _ => rfl))
/-- what is told when nothing is told yet -/
def c490 (J : sm_I) : Prop := (∀ j, j < 5 → J 49 j = 0) ∧ J 49 6 = 0 ∧ (∀ i, i < 10 → J 51 i = -1 ∧ J 52 i = -1 ∧ J 55 i = -1 ∧ J 58 i = 1) ∧ (∀ i, i < 40 → J 60 i = 0) ∧ ∀ i, i < 36 → J 50 i = if i % 7 = 0 then 0 else -2
theorem k49_clear1 {I0 : sm_I} (h : ∀ J : sm_I, c490 J → (∀ p j, p < 12 → J p j = I0 p j) → Φ (none, (xLay, J, L, kQ49 R))) : ∀ (m i : Nat) (I : sm_I) (x1 : Int32), x1.toInt = i → i + m = 6 → (∀ j, j < 5 → I 49 j = 0) → I 49 6 = 0 → (∀ p j, p < 12 → I p j = I0 p j) → (∀ j, j < 36 → I 50 j = if j % 7 = 0 ∧ j < 7 * i then 0 else -2) → sm_wp sm_P S (d + 1) 16 1 [.ref 49, .int x1] [] (xLay, I, L, kQ49 R) (0, 0) Φ := by
  have c6 : (6 : Int32).toInt = 6 := by decide
  intro m
  induction m with
  | zero =>
    intro i I x1 hx hm a1 a2 a3 a4
    refine s49_X10_clear_1 ⟨fun _ => ?_, fun q => ?_⟩
    · refine k49_f14 (fun J1 b1 o1 => ⟨J1, L, rfl, k49_f15 (fun J2 b2 o2 => ⟨J2, L, rfl, k49_f18 (fun J3 b3 o3 => ⟨J3, L, rfl, k49_f21 (fun J4 b4 o4 => ⟨J4, L, rfl, k49_f22 (fun J5 b5 o5 => ⟨J5, L, rfl, k49_f23 (fun J6 b6 o6 => ⟨J6, L, rfl, h J6 ⟨fun j hj => ?_, ?_, fun k hk => ⟨?_, ?_, ?_, ?_⟩, b6, fun j hj => ?_⟩ (fun p j hp => ?_)⟩)⟩)⟩)⟩)⟩)⟩)
      · rw [o6 _ _ (by decide), o5 _ _ (by decide), o4 _ _ (by decide), o3 _ _ (by decide), o2 _ _ (by decide), o1 _ _ (by decide)]; exact a1 j hj
      · rw [o6 _ _ (by decide), o5 _ _ (by decide), o4 _ _ (by decide), o3 _ _ (by decide), o2 _ _ (by decide), o1 _ _ (by decide)]; exact a2
      · rw [o6 _ _ (by decide), o5 _ _ (by decide), o4 _ _ (by decide), o3 _ _ (by decide), o2 _ _ (by decide)]; exact b1 k hk
      · rw [o6 _ _ (by decide), o5 _ _ (by decide), o4 _ _ (by decide), o3 _ _ (by decide)]; exact b2 k hk
      · rw [o6 _ _ (by decide), o5 _ _ (by decide), o4 _ _ (by decide)]; exact b3 k hk
      · rw [o6 _ _ (by decide), o5 _ _ (by decide)]; exact b4 k hk
      · rw [o6 _ _ (by decide), o5 _ _ (by decide), o4 _ _ (by decide), o3 _ _ (by decide), o2 _ _ (by decide), o1 _ _ (by decide), a4 j hj]
        by_cases c : j % 7 = 0
        · rw [if_pos ⟨c, by omega⟩, if_pos c]
        · rw [if_neg (fun q => c q.1), if_neg c]
      · rw [o6 _ _ (by omega), o5 _ _ (by omega), o4 _ _ (by omega), o3 _ _ (by omega), o2 _ _ (by omega), o1 _ _ (by omega)]; exact a3 p j hp
    · have := kl_nle q
      omega
  | succ m ih =>
    intro i I x1 hx hm a1 a2 a3 a4
    have s1 := ml_in1 (x := x1) (by omega)
    have m6 : (x1 * 6).toInt = (i : Int) * 6 := ml_mu hx c6 (by omega) (by omega)
    have s7 : (x1 * 6 + x1).toInt = ((7 * i : Nat) : Int) := (ml_ad m6 hx (by omega) (by omega)).trans (by omega)
    have n7 := tk_nat s7
    refine s49_X10_clear_1 ⟨fun q => ?_, fun _ => ⟨kl_in (by omega) (by omega), fun I2 e2 => ?_⟩⟩
    · have := kl_le.mp q
      omega
    · rw [n7] at e2
      have o2 : ∀ p j, ¬ (p = 50 ∧ j = 7 * i) → I2 p j = I p j := fun p j hp => by rw [e2, en_up_ne _ _ _ _ hp]
      refine ih (i + 1) I2 _ (by omega) (by omega) (fun j hj => by rw [o2 _ _ (by omega)]; exact a1 j hj) (by rw [o2 _ _ (by omega)]; exact a2) (fun p j hp => by rw [o2 _ _ (by omega)]; exact a3 p j hp) (fun j hj => ?_)
      by_cases cj : j = 7 * i
      · rw [cj, e2, en_up_eq, if_pos ⟨by omega, by omega⟩]
      · rw [o2 _ _ (by omega), a4 j hj]
        by_cases c : j % 7 = 0 ∧ j < 7 * i
        · rw [if_pos c, if_pos ⟨c.1, by omega⟩]
        · rw [if_neg c, if_neg (fun q => c ⟨q.1, by have := q.1; have := q.2; omega⟩)]
theorem k49_clear (h : ∀ J : sm_I, c490 J → (∀ p j, p < 12 → J p j = I p j) → Φ (none, (xLay, J, L, kQ49 R))) : sm_wp sm_P S (d + 1) 16 0 [.ref 49] [] (xLay, I, L, kQ49 R) (0, 0) Φ := by
  refine s49_X10_clear_0 (fun I1 e1 I2 e2 I3 e3 => k49_f13 (fun J b o => ⟨J, L, rfl, k49_clear1 (I0 := I) h 6 0 J 0 (by decide) (by decide) (fun j hj => ?_) ?_ (fun p j hp => ?_) (fun j hj => ?_)⟩))
  · rw [o _ _ (by decide), en_up_ne _ _ _ _ (by omega), e3]
    match j, hj with
    | 0, _ => rw [en_up_ne _ _ _ _ (by omega), en_up_ne _ _ _ _ (by omega), e2, en_up_ne _ _ _ _ (by omega), en_up_ne _ _ _ _ (by omega), e1, en_up_ne _ _ _ _ (by omega), en_up_eq]
    | 1, _ => rw [en_up_ne _ _ _ _ (by omega), en_up_ne _ _ _ _ (by omega), e2, en_up_ne _ _ _ _ (by omega), en_up_ne _ _ _ _ (by omega), e1, en_up_eq]
    | 2, _ => rw [en_up_ne _ _ _ _ (by omega), en_up_ne _ _ _ _ (by omega), e2, en_up_ne _ _ _ _ (by omega), en_up_eq]
    | 3, _ => rw [en_up_ne _ _ _ _ (by omega), en_up_ne _ _ _ _ (by omega), e2, en_up_eq]
    | 4, _ => rw [en_up_ne _ _ _ _ (by omega), en_up_eq]
    | j + 5, hj => omega
  · rw [o _ _ (by decide), en_up_eq]
  · rw [o _ _ (by omega), en_up_ne _ _ _ _ (by omega), e3, en_up_ne _ _ _ _ (by omega), en_up_ne _ _ _ _ (by omega), e2, en_up_ne _ _ _ _ (by omega), en_up_ne _ _ _ _ (by omega), e1, en_up_ne _ _ _ _ (by omega), en_up_ne _ _ _ _ (by omega)]
  · rw [b j hj, if_neg (by omega)]
theorem k49_scan {x2 : Int32} {n : Nat} (hn : n ≤ 2000) (h2 : x2.toInt = n) (h : ∀ (c : Nat) (J : sm_I) (K : sm_L), c ≤ 501 → (J 3 3).toInt = c → tk_rows (I 1) n c J K → J 4 c = 21 → (J 5 c).toInt = n → (c ≤ 500 → tk_at (I 1) n c = n) → ks_fr I J L K → Φ (none, (xLay, J, K, kQ49 R))) : sm_wp sm_P S (d + 3) 301 0 [.ref 3, .ref 1, .int x2] [] (xLay, I, L, kQ49 R) (0, 0) Φ := by
  have q := ks_scan (S := S) (d := d) (q := 49) (Φ := Φ) (I := I) (L := L) (R := kQ49 R) hn h2 (by rw [kT_Q49]; exact h)
  rw [kT_Q49] at q
  exact q
theorem k49_syn {K : Nat → Int32} {c : Nat} (hc : (I 3 3).toInt = c) (c5 : c ≤ 501) (hK : ∀ i, i ≤ c → i ≤ 500 → I 4 i = K i) (hE : c ≤ 500 → K c = 21) (hN : ∀ i, i < c → K i ≠ 21) (h : ∀ (r : Int32) (J : sm_I), (∀ a j, a ≠ 7 → a ≠ 8 → ¬ (a = 2 ∧ j = 11) → J a j = I a j) → (SY K 501 0 0 gc0 = none → r = 0) → (∀ f j, SY K 501 0 0 gc0 = some (f, j) → r = f ∧ f ≠ 0 ∧ J 2 11 = I 5 j ∧ j ≤ 500) → Φ (some (.int r), (xLay, J, L, kQ49 R))) : sm_wp sm_P S (d + 2) 277 0 [.ref 2] [] (xLay, I, L, kQ49 R) (0, 0) Φ := by
  have q := ks_syn (S := S) (d := d) (q := 49) (Φ := Φ) (I := I) (L := L) (R := kQ49 R) hc c5 hK hE hN (by rw [kT_Q49]; exact h)
  rw [kT_Q49] at q
  exact q
/-- the pure machine's memory, as the class's stands -/
def k49_a (I : sm_I) (L : sm_L) : sg := (fun c j => if 12 ≤ c then I (c + (49 - 12)) j else I c j, fun j => L 9 j)
theorem k49_kr : kr 49 (k49_a I L) I L := ⟨fun _ _ => rfl, fun _ => rfl, fun _ => rfl, fun c j h1 h2 => by show _ = (if 12 ≤ c then I (c + (49 - 12)) j else I c j); rw [if_pos h1], fun _ => rfl⟩
theorem k49_ini (h : c490 I) (h5 : I 2 5 = 0) : ini (k49_a I L) := ⟨h5, h.1, h.2.1, h.2.2.1, h.2.2.2.1, h.2.2.2.2⟩
theorem k49_readTape {x2 : Int32} {n : Nat} (hn : n ≤ 2000) (h2 : x2.toInt = n) (hm : en_mem kl_tb klX (xLay, I, L, kQ49 R)) (h : ∀ (r : Int32) (J : sm_I) (L' : sm_L) (R' : sm_R) (a0 : sg), RDk (I 1) n a0 r J → RDt 49 (I 1) n a0 I J → Φ (some (.int r), (xLay, J, L', kQ49 R'))) : sm_wp sm_P S (d + 6) 276 0 [.ref 2, .ref 1, .int x2] [] (xLay, I, L, kQ49 R) (0, 0) Φ := by
  refine s49x_X7_readTape_0 ?_
  -- clear
  have A1 := klh_62 (Sc := S) (d + 5) (by show 1 ≤ d + 5; omega) [.ref 49] (xLay, I, L, kQ49 R) ⟨⟨rfl, rfl⟩, trivial⟩ hm ml_pf0
  have B1 : sm_wp sm_P S (d + 5) 16 0 [.ref 49] [] (xLay, I, L, kQ49 R) (0, 0) (fun z => ∃ J : sm_I, z = (none, (xLay, J, L, kQ49 R)) ∧ c490 J ∧ ∀ p j, p < 12 → J p j = I p j) := k49_clear (fun J a b => ⟨J, rfl, a, b⟩)
  refine sm_wp_mono (sm_wp_and A1 B1) (fun z hz => ?_)
  obtain ⟨⟨-, m1, f1⟩, J1, ez, c1, o1⟩ := hz
  subst ez
  have k1 : ko 49 I J1 := fun c j p1 p2 => (f1.2 c j (lw_rg (Q := 49) (by decide +kernel) p2)).1
  have m1 : en_mem kl_tb klX (xLay, J1, L, kQ49 R) := m1
  refine ⟨J1, L, rfl, ?_⟩
  have m2 : en_mem kl_tb klX (xLay, sm_up J1 2 5 0, L, kQ49 R) := kx_wr m1 (by decide +kernel) (fun q hq => by
    rw [show en_int kl_tb 2 5 = some (0, 35) from by decide +kernel] at hq
    rw [← Option.some.inj hq]; decide)
  have e1 : sm_up J1 2 5 0 1 = I 1 := funext (fun j => by rw [en_up_ne _ _ _ _ (by omega)]; exact o1 1 j (by decide))
  -- the TOKENS
  have A2 := klh_197 (Sc := S) (d + 5) (by show 3 ≤ d + 5; omega) [.ref 3, .ref 1, .int x2] (xLay, sm_up J1 2 5 0, L, kQ49 R) ⟨⟨rfl, rfl⟩, ⟨rfl, rfl⟩, ⟨rfl, by show (0 : Int) ≤ _; omega, by show _ ≤ (2000 : Int); omega⟩, trivial⟩ m2 ml_pf0
  have B2 : sm_wp sm_P S (d + 5) 301 0 [.ref 3, .ref 1, .int x2] [] (xLay, sm_up J1 2 5 0, L, kQ49 R) (0, 0) (fun z => ∃ (c : Nat) (J : sm_I) (K : sm_L), z = (none, (xLay, J, K, kQ49 R)) ∧ c ≤ 501 ∧ (J 3 3).toInt = c ∧ tk_rows (I 1) n c J K ∧ J 4 c = 21 ∧ (J 5 c).toInt = n ∧ (c ≤ 500 → tk_at (I 1) n c = n) ∧ ks_fr (sm_up J1 2 5 0) J L K) := k49_scan (d := d + 2) hn h2 (fun c J K q1 q2 q3 q4 q5 q6 q7 => ⟨c, J, K, rfl, q1, q2, by rw [← e1]; exact q3, q4, q5, by rw [← e1]; exact q6, q7⟩)
  refine sm_wp_mono (sm_wp_and A2 B2) (fun z hz => ?_)
  obtain ⟨⟨-, m3, -⟩, c, J3, K3, ez, c5, h33, hr, h21, h5c, hend, hfr⟩ := hz
  subst ez
  have m3 : en_mem kl_tb klX (xLay, J3, K3, kQ49 R) := m3
  refine ⟨J3, K3, rfl, ?_⟩
  obtain ⟨hK, hE⟩ := tk_rK c5 hr h21 hend
  have hN : ∀ i, i < c → tk_K (I 1) n i ≠ 21 := fun i hi q => by
    have := tk_K_21.mp q
    have := (hr i hi).1
    omega
  have pl : ∀ j, j ≤ c → (c = 501 → j ≤ 500) → (J3 5 j).toInt = tk_at (I 1) n j := fun j hj h5 => by
    rcases Nat.lt_or_ge j c with q | q
    · exact (hr j q).2.2.1
    · have e : j = c := by omega
      subst e
      rw [h5c, hend (by omega)]
  -- the grammar
  have A3 := klh_188 (Sc := S) (d + 5) (by show 2 ≤ d + 5; omega) [.ref 2] (xLay, J3, K3, kQ49 R) ⟨⟨rfl, rfl⟩, trivial⟩ m3 ml_pf0
  have B3 : sm_wp sm_P S (d + 5) 277 0 [.ref 2] [] (xLay, J3, K3, kQ49 R) (0, 0) (fun z => ∃ (r : Int32) (J : sm_I), z = (some (.int r), (xLay, J, K3, kQ49 R)) ∧ (∀ a j, a ≠ 7 → a ≠ 8 → ¬ (a = 2 ∧ j = 11) → J a j = J3 a j) ∧ (SY (tk_K (I 1) n) 501 0 0 gc0 = none → r = 0) ∧ ∀ f j, SY (tk_K (I 1) n) 501 0 0 gc0 = some (f, j) → r = f ∧ f ≠ 0 ∧ J 2 11 = J3 5 j ∧ j ≤ 500) := k49_syn (d := d + 3) h33 c5 hK hE hN (fun r J q1 q2 q3 => ⟨r, J, rfl, q1, q2, q3⟩)
  refine sm_wp_mono (sm_wp_and A3 B3) (fun z hz => ?_)
  obtain ⟨⟨-, m4, -⟩, r9, J4, ez, o4, s0, s1⟩ := hz
  subst ez
  have m4 : en_mem kl_tb klX (xLay, J4, K3, kQ49 R) := m4
  refine ⟨r9, J4, K3, rfl, ?_⟩
  -- what is told yet: nothing
  have tld : ∀ p j, 12 ≤ p → J4 p j = J1 p j := fun p j hp => by rw [o4 p j (by omega) (by omega) (by omega), hfr.1 p j (by omega) (by omega) (by omega), en_up_ne _ _ _ _ (by omega)]
  have k4 : ko 49 I J4 := fun c j p1 p2 => by rw [tld c j p1]; exact k1 c j p1 p2
  have c4 : c490 J4 := by
    obtain ⟨q1, q2, q3, q4, q5⟩ := c1
    refine ⟨fun j hj => by rw [tld _ _ (by decide)]; exact q1 j hj, by rw [tld _ _ (by decide)]; exact q2, fun i hi => ?_, fun i hi => by rw [tld _ _ (by decide)]; exact q4 i hi, fun i hi => by rw [tld _ _ (by decide)]; exact q5 i hi⟩
    rw [tld _ _ (by decide), tld _ _ (by decide), tld _ _ (by decide), tld _ _ (by decide)]; exact q3 i hi
  have z5 : J4 2 5 = 0 := by rw [o4 2 5 (by decide) (by decide) (by omega), hfr.1 2 5 (by decide) (by decide) (by omega), en_up_eq]
  have hini : ini (k49_a J4 K3) := k49_ini c4 z5
  have bad : ∀ f j, SY (tk_K (I 1) n) 501 0 0 gc0 = some (f, j) → r9 = f ∧ f ≠ 0 ∧ (J4 2 11).toInt = tk_at (I 1) n j := fun f j q => by
    obtain ⟨w1, w2, w3, w4⟩ := s1 f j q
    refine ⟨w1, w2, ?_⟩
    rw [w3]
    refine pl j ?_ (fun _ => w4)
    by_cases c501 : c = 501
    · omega
    · exact SY_le (hE (by omega)) 501 0 0 gc0 (Nat.zero_le _) f j q
  refine ⟨fun r0 => ?_, fun r0 => ⟨fun q => absurd q r0, fun _ => h r9 J4 K3 R (k49_a J4 K3) ⟨hini, bad, fun q => absurd (s0 q) r0⟩ ⟨k4, fun q => absurd (s0 q) r0⟩⟩⟩
  have sn : SY (tk_K (I 1) n) 501 0 0 gc0 = none := by
    cases e : SY (tk_K (I 1) n) 501 0 0 gc0 with
    | none => rfl
    | some q =>
      obtain ⟨f, j⟩ := q
      obtain ⟨w1, w2, -⟩ := s1 f j e
      rw [r0] at w1
      exact absurd w1.symm w2
  have c500 : c ≤ 500 := by
    obtain ⟨c', -, q⟩ := SY_c 501 0 0 gc0 (by decide) sn
    rcases q with ⟨q1, q2⟩ | ⟨-, q2⟩
    · rcases Nat.lt_or_ge c' c with y | y
      · exact absurd q2 (hN c' y)
      · omega
    · omega
  have kin : ∀ i, 0 ≤ (tk_K (I 1) n i).toInt ∧ (tk_K (I 1) n i).toInt ≤ 21 := fun i => (TS_of c5 (fun i hi => (hr i hi).1) hend).2.1 i
  have A4 := klh_187 (Sc := S) (d + 5) (by show 5 ≤ d + 5; omega) [.ref 2] (xLay, J4, K3, kQ49 R) ⟨⟨rfl, rfl⟩, trivial⟩ m4 ml_pf0
  have B4 : sm_wp sm_P S (d + 5) 274 0 [.ref 2] [] (xLay, J4, K3, kQ49 R) (0, 0) (fun z => ∃ (r : Int32) (J : sm_I) (L' : sm_L), z = (some (.int r), (xLay, J, L', kQ49 R)) ∧ ((ME (tk_K (I 1) n) (fun i => tk_vl (I 1) n (tk_at (I 1) n i)) 501 0 0 (k49_a J4 K3)).1 = none → r = 0 ∧ kr 49 (ME (tk_K (I 1) n) (fun i => tk_vl (I 1) n (tk_at (I 1) n i)) 501 0 0 (k49_a J4 K3)).2 J L') ∧ (∀ f j, (ME (tk_K (I 1) n) (fun i => tk_vl (I 1) n (tk_at (I 1) n i)) 501 0 0 (k49_a J4 K3)).1 = some (f, j) → r = f ∧ f ≠ 0 ∧ J 2 11 = J4 5 j ∧ j < c) ∧ ko 49 J4 J) := k49_mean (a := k49_a J4 K3) (K := tk_K (I 1) n) (V := fun i => tk_vl (I 1) n (tk_at (I 1) n i)) (by rw [o4 3 3 (by decide) (by decide) (by omega)]; exact h33) c500 (fun i hi => by rw [o4 4 i (by decide) (by decide) (by omega)]; exact hK i (by omega) (by omega)) (fun i hi => (hr i hi).2.2.2) kin (hE c500) hN m4 k49_kr (fun r21 J5 L5 q1 q2 q3 => ⟨r21, J5, L5, rfl, q1, q2, q3⟩)
  refine sm_wp_mono (sm_wp_and A4 B4) (fun z hz => ?_)
  obtain ⟨⟨-, m5, -⟩, r21, J5, L5, ez, q1, q2, q3⟩ := hz
  subst ez
  have k5 : ko 49 I J5 := fun c j p1 p2 => by rw [q3 c j p1 p2]; exact k4 c j p1 p2
  have m5 : en_mem kl_tb klX (xLay, J5, L5, kQ49 R) := m5
  refine ⟨r21, J5, L5, rfl, fun r21z => ?_, fun r21z => ?_⟩
  · have mn : (ME (tk_K (I 1) n) (fun i => tk_vl (I 1) n (tk_at (I 1) n i)) 501 0 0 (k49_a J4 K3)).1 = none := by
      cases e : (ME (tk_K (I 1) n) (fun i => tk_vl (I 1) n (tk_at (I 1) n i)) 501 0 0 (k49_a J4 K3)).1 with
      | none => rfl
      | some q =>
        obtain ⟨f, j⟩ := q
        obtain ⟨w1, w2, -⟩ := q2 f j e
        rw [r21z] at w1
        exact absurd w1.symm w2
    have fin : ∀ J' L' R', RDt 49 (I 1) n (k49_a J4 K3) I J' → Φ (some (.int r21), (xLay, J', L', kQ49 R')) := (fun J' L' R' hT => h r21 J' L' R' (k49_a J4 K3) ⟨hini, fun f j q => (by rw [sn] at q; cases q), fun _ => ⟨fun f j q => (by rw [mn] at q; cases q), fun _ => r21z⟩⟩ hT)
    obtain ⟨M, eM⟩ : ∃ M, M = (ME (tk_K (I 1) n) (fun i => tk_vl (I 1) n (tk_at (I 1) n i)) 501 0 0 (k49_a J4 K3)).2 := ⟨_, rfl⟩
    obtain ⟨s', hn, ht, -⟩ := ME_wi (V := fun i => tk_vl (I 1) n (tk_at (I 1) n i)) (tk_V (b := I 1) (n := n)) 501 0 0 (k49_a J4 K3) (WI_0 hini) mn
    rw [← eM] at hn ht
    have kc : ∀ c j, 12 ≤ c → c < 49 → J5 (c + (49 - 12)) j = M.1 c j := fun c j p1 p2 => by rw [eM]; exact (q1 mn).2.2.2.2.1 c j p1 p2
    have k13 : J5 50 = M.1 13 := funext (fun j => kc 13 j (by decide) (by decide))
    have p0 := kl_nat hn.1.1
    have p6 := hn.1.2
    have A5 := klh_68 (Sc := S) (d + 5) (by show 1 ≤ d + 5; omega) [.ref 49] (xLay, J5, L5, kQ49 R) ⟨⟨rfl, rfl⟩, trivial⟩ m5 ml_pf0
    have B5 : sm_wp sm_P S (d + 4 + 1) 18 0 [.ref 49] [] (xLay, J5, L5, kQ49 R) (0, 0) (fun z => w49ok z.2.2.1 ∧ ∀ i, i < 36 → nv (z.2.2.1 50 i) = Ft (M.1 12 1).toNatClampNeg (fun i => nv (M.1 13 i)) i) := by
      refine w49_walks (p := (M.1 12 1).toNatClampNeg) (by omega) ?_ (fun i hi => ?_) ?_ ?_ (fun J a b _ => ⟨a, fun i hi => by rw [b i hi, k13]⟩)
      · rw [show J5 49 1 = M.1 12 1 from kc 12 1 (by decide) (by decide)]; omega
      · rw [k13]
        rcases ht.2.2.2 i hi with c | c
        · exact Or.inl c
        · exact Or.inr c.1
      · rw [k13]; exact wt_WB ht
      · rw [k13]; exact wt_WS hn ht
    refine sm_wp_mono (sm_wp_and A5 B5) (fun z hz => ?_)
    obtain ⟨⟨pr6, m6, f6⟩, ok6, w6⟩ := hz
    obtain ⟨o6, lay6, J6, L6, R6⟩ := z
    have ok6 : w49ok J6 := ok6
    have w6 : ∀ i, i < 36 → nv (J6 50 i) = Ft (M.1 12 1).toNatClampNeg (fun i => nv (M.1 13 i)) i := w6
    obtain rfl : lay6 = xLay := m6.2.2.2.2.1
    obtain rfl : o6 = none := kpr9 pr6
    have e6 : kQ49 R6 = R6 := kQ49_eq m6 (by rw [(f6.2 2 6 (by decide +kernel)).2]; rfl)
    refine ⟨J6, L6, R6, by rw [e6], ?_⟩
    have A6 := klh_66 (Sc := S) (d + 5) (by show 1 ≤ d + 5; omega) [.ref 49] (xLay, J6, L6, R6) ⟨⟨rfl, rfl⟩, trivial⟩ m6 ml_pf0
    have g6 : ∀ c j, 12 ≤ c → c < 49 → c ≠ 13 → J6 (c + (49 - 12)) j = M.1 c j := fun c j p1 p2 p3 => by
      have w6 : en_wok [(50, [])] (c + (49 - 12)) j = false := lw_rv (Q := 49 - 12) p3
      rw [show J6 (c + (49 - 12)) j = J5 (c + (49 - 12)) j from (f6.2 _ j w6).1]
      exact kc c j p1 p2
    have t14 : J6 51 = M.1 14 := funext (fun j => g6 14 j (by decide) (by decide) (by decide))
    have t15 : J6 52 = M.1 15 := funext (fun j => g6 15 j (by decide) (by decide) (by decide))
    have t2 : J6 49 2 = M.1 12 2 := g6 12 2 (by decide) (by decide) (by decide)
    have b2 : 0 ≤ (J6 49 2).toInt ∧ (J6 49 2).toInt ≤ 10 := m6.2.1 49 2 (0, 10) (by decide +kernel)
    have n2 := kl_nat b2.1
    have mc6 : mc49 J6 = mvc (M.1 14) (M.1 15) := by unfold mc49; rw [t14, t15]
    have B6 : sm_wp sm_P S (d + 5) 17 0 [.ref 49] [] (xLay, J6, L6, R6) (0, 0) (fun z => bpA M → mv49 J6 z.2.2.1 (alst M)) := by
      by_cases bp : bpA M
      · have g := k49_moves (S := S) (d := d + 4) (L := L6) (R := R6) (I := J6) (T := (M.1 12 2).toNatClampNeg) (Φ := fun z => bpA M → mv49 J6 z.2.2.1 (alst M)) (by rw [← t2]; omega) (by rw [← t2]; omega) (fun i hi h14 => by
          rw [t14] at h14
          rw [t15]
          exact bp i (by rw [← t2]; rw [← t2] at hi; omega) h14) (fun J h _ => by
          rw [mc6] at h
          exact h)
        rw [e6] at g
        exact g
      · exact sm_wp_mono A6 (fun z _ q => absurd q bp)
    rw [e6]
    refine sm_wp_mono (sm_wp_and A6 B6) (fun z hz => ?_)
    obtain ⟨⟨pr7, m7, f7⟩, w7⟩ := hz
    obtain ⟨o7, lay7, J7, L7, R7⟩ := z
    have w7 : bpA M → mv49 J6 J7 (alst M) := w7
    obtain rfl : lay7 = xLay := m7.2.2.2.2.1
    obtain rfl : o7 = none := kpr9 pr7
    have e7 : kQ49 R7 = R7 := kQ49_eq m7 (by rw [(f7.2 2 6 (by decide +kernel)).2]; exact (f6.2 2 6 (by decide +kernel)).2.trans rfl)
    have s13 : J7 50 = J6 50 := funext (fun j => (f7.2 50 j rfl).1)
    refine ⟨J7, L7, R7, by rw [e7], fin J7 L7 R7 ⟨fun c j p1 p2 => ?_, fun _ _ => ⟨fun c j p1 p2 p3 p4 => ?_, ?_, fun i hi => ⟨?_, ?_⟩, fun bp => ?_⟩⟩⟩
    · have u7 : J7 c j = J6 c j := (f7.2 c j (lw_rg (Q := 49) (by decide +kernel) p2)).1
      have u6 : J6 c j = J5 c j := (f6.2 c j (lw_rg (Q := 49) (by decide +kernel) p2)).1
      rw [u7, u6]; exact k5 c j p1 p2
    · have v7 : en_wok [(49, [5]), (71, []), (72, []), (73, [])] (c + (49 - 12)) j = false := lw_rw (Q := 49 - 12) p2 p4
      have u7 : J7 (c + (49 - 12)) j = J6 (c + (49 - 12)) j := (f7.2 _ j v7).1
      rw [u7, ← eM]
      exact g6 c j p1 (by omega) p3
    · rw [← eM]; exact ⟨hn, ht⟩
    · show J7 50 i = -2 ∨ 0 ≤ (J7 50 i).toInt
      rw [s13]; exact ok6 i hi
    · show nv (J7 50 i) = _
      rw [s13, ← eM]; exact w6 i hi
    · rw [← eM] at bp ⊢
      obtain ⟨h1, h2, -⟩ := w7 bp
      refine ⟨h1, fun j hj => ?_⟩
      obtain ⟨r1, r2, r3⟩ := h2 j hj
      refine ⟨r1, r2, ?_⟩
      show J7 73 j = J7 50 _
      rw [s13, show J7 73 j = _ from r3, t15]
  · refine h r21 J5 L5 R (k49_a J4 K3) ⟨hini, fun f j q => (by rw [sn] at q; cases q), fun _ => ⟨fun f j q => ?_, fun q => absurd (q1 q).1 r21z⟩⟩ ⟨k5, fun _ q => absurd (q1 q).1 r21z⟩
    obtain ⟨w1, w2, w3, w4⟩ := q2 f j q
    refine ⟨w1, w2, ?_⟩
    rw [w3, o4 5 j (by decide) (by decide) (by omega)]
    exact pl j (by omega) (fun _ => by omega)
end
