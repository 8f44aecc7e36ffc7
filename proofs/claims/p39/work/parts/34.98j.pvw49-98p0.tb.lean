section
/-! the class's readTape with into = 49, exact (wip/pe/mk98i.py) -/
section
variable {S : sm_C} {d : Nat} {Φ : sm_Z → Prop} {I : sm_I} {L : sm_L} {R : sm_R}
theorem k49_f13a {I0 : sm_I} {x1 : Int32} (h : ∀ J : sm_I, (∀ j, j < 36 → J 50 j = x1) → (∀ a j, a ≠ 50 → J a j = I0 a j) → Φ (none, (xLay, J, L, kQ49 R))) : ∀ (m i : Nat) (I : sm_I) (x2 : Int32), x2.toInt = i → i + m = 36 → (∀ j, j < i → I 50 j = x1) → (∀ a j, a ≠ 50 → I a j = I0 a j) → sm_wp sm_P S d 306 1 [.ref 50, .int x1, .int x2, .int (Int32.ofNat 36)] [] (xLay, I, L, kQ49 R) (0, 0) Φ := by
  have cn : (Int32.ofNat 36).toInt = 36 := by decide
  intro m
  induction m with
  | zero =>
    intro i I x2 hx hm h1 h2
    refine s49f13_J7_fill_53178_1 ⟨fun _ => h I (fun j hj => h1 j (by omega)) h2, fun a => ?_⟩
    have := kl_nle a
    omega
  | succ m ih =>
    intro i I x2 hx hm h1 h2
    have nn := tk_nat hx
    have s := ml_in1 (x := x2) (by omega)
    refine s49f13_J7_fill_53178_1 ⟨fun a => ?_, fun _ => ⟨kl_in (by omega) (by omega), fun I1 e1 => ?_⟩⟩
    · have := kl_le.mp a
      omega
    · rw [nn] at e1
      refine ih (i + 1) I1 _ (by omega) (by omega) (fun j hj => ?_) (fun a j ha => ?_)
      · by_cases c : j = i
        · subst c; rw [e1, en_up_eq]
        · rw [e1, en_up_ne _ _ _ _ (by omega)]; exact h1 j (by omega)
      · rw [e1, en_up_ne _ _ _ _ (by omega)]; exact h2 a j ha
theorem k49_f13 {x1 : Int32} (h : ∀ J : sm_I, (∀ j, j < 36 → J 50 j = x1) → (∀ a j, a ≠ 50 → J a j = I a j) → Φ (none, (xLay, J, L, kQ49 R))) : sm_wp sm_P S d 306 0 [.ref 50, .int x1] [] (xLay, I, L, kQ49 R) (0, 0) Φ := s49f13_J7_fill_53178_0 (k49_f13a h 36 0 I 0 (by decide) (by decide) (fun j hj => absurd hj (Nat.not_lt_zero j)) (fun _ _ _ => rfl))
theorem k49_f14a {I0 : sm_I} {x1 : Int32} (h : ∀ J : sm_I, (∀ j, j < 10 → J 51 j = x1) → (∀ a j, a ≠ 51 → J a j = I0 a j) → Φ (none, (xLay, J, L, kQ49 R))) : ∀ (m i : Nat) (I : sm_I) (x2 : Int32), x2.toInt = i → i + m = 10 → (∀ j, j < i → I 51 j = x1) → (∀ a j, a ≠ 51 → I a j = I0 a j) → sm_wp sm_P S d 306 1 [.ref 51, .int x1, .int x2, .int (Int32.ofNat 10)] [] (xLay, I, L, kQ49 R) (0, 0) Φ := by
  have cn : (Int32.ofNat 10).toInt = 10 := by decide
  intro m
  induction m with
  | zero =>
    intro i I x2 hx hm h1 h2
    refine s49f14_J7_fill_53178_1 ⟨fun _ => h I (fun j hj => h1 j (by omega)) h2, fun a => ?_⟩
    have := kl_nle a
    omega
  | succ m ih =>
    intro i I x2 hx hm h1 h2
    have nn := tk_nat hx
    have s := ml_in1 (x := x2) (by omega)
    refine s49f14_J7_fill_53178_1 ⟨fun a => ?_, fun _ => ⟨kl_in (by omega) (by omega), fun I1 e1 => ?_⟩⟩
    · have := kl_le.mp a
      omega
    · rw [nn] at e1
      refine ih (i + 1) I1 _ (by omega) (by omega) (fun j hj => ?_) (fun a j ha => ?_)
      · by_cases c : j = i
        · subst c; rw [e1, en_up_eq]
        · rw [e1, en_up_ne _ _ _ _ (by omega)]; exact h1 j (by omega)
      · rw [e1, en_up_ne _ _ _ _ (by omega)]; exact h2 a j ha
theorem k49_f14 {x1 : Int32} (h : ∀ J : sm_I, (∀ j, j < 10 → J 51 j = x1) → (∀ a j, a ≠ 51 → J a j = I a j) → Φ (none, (xLay, J, L, kQ49 R))) : sm_wp sm_P S d 306 0 [.ref 51, .int x1] [] (xLay, I, L, kQ49 R) (0, 0) Φ := s49f14_J7_fill_53178_0 (k49_f14a h 10 0 I 0 (by decide) (by decide) (fun j hj => absurd hj (Nat.not_lt_zero j)) (fun _ _ _ => rfl))
theorem k49_f15a {I0 : sm_I} {x1 : Int32} (h : ∀ J : sm_I, (∀ j, j < 10 → J 52 j = x1) → (∀ a j, a ≠ 52 → J a j = I0 a j) → Φ (none, (xLay, J, L, kQ49 R))) : ∀ (m i : Nat) (I : sm_I) (x2 : Int32), x2.toInt = i → i + m = 10 → (∀ j, j < i → I 52 j = x1) → (∀ a j, a ≠ 52 → I a j = I0 a j) → sm_wp sm_P S d 306 1 [.ref 52, .int x1, .int x2, .int (Int32.ofNat 10)] [] (xLay, I, L, kQ49 R) (0, 0) Φ := by
  have cn : (Int32.ofNat 10).toInt = 10 := by decide
  intro m
  induction m with
  | zero =>
    intro i I x2 hx hm h1 h2
    refine s49f15_J7_fill_53178_1 ⟨fun _ => h I (fun j hj => h1 j (by omega)) h2, fun a => ?_⟩
    have := kl_nle a
    omega
  | succ m ih =>
    intro i I x2 hx hm h1 h2
    have nn := tk_nat hx
    have s := ml_in1 (x := x2) (by omega)
    refine s49f15_J7_fill_53178_1 ⟨fun a => ?_, fun _ => ⟨kl_in (by omega) (by omega), fun I1 e1 => ?_⟩⟩
    · have := kl_le.mp a
      omega
    · rw [nn] at e1
      refine ih (i + 1) I1 _ (by omega) (by omega) (fun j hj => ?_) (fun a j ha => ?_)
      · by_cases c : j = i
        · subst c; rw [e1, en_up_eq]
        · rw [e1, en_up_ne _ _ _ _ (by omega)]; exact h1 j (by omega)
      · rw [e1, en_up_ne _ _ _ _ (by omega)]; exact h2 a j ha
theorem k49_f15 {x1 : Int32} (h : ∀ J : sm_I, (∀ j, j < 10 → J 52 j = x1) → (∀ a j, a ≠ 52 → J a j = I a j) → Φ (none, (xLay, J, L, kQ49 R))) : sm_wp sm_P S d 306 0 [.ref 52, .int x1] [] (xLay, I, L, kQ49 R) (0, 0) Φ := s49f15_J7_fill_53178_0 (k49_f15a h 10 0 I 0 (by decide) (by decide) (fun j hj => absurd hj (Nat.not_lt_zero j)) (fun _ _ _ => rfl))
theorem k49_f18a {I0 : sm_I} {x1 : Int32} (h : ∀ J : sm_I, (∀ j, j < 10 → J 55 j = x1) → (∀ a j, a ≠ 55 → J a j = I0 a j) → Φ (none, (xLay, J, L, kQ49 R))) : ∀ (m i : Nat) (I : sm_I) (x2 : Int32), x2.toInt = i → i + m = 10 → (∀ j, j < i → I 55 j = x1) → (∀ a j, a ≠ 55 → I a j = I0 a j) → sm_wp sm_P S d 306 1 [.ref 55, .int x1, .int x2, .int (Int32.ofNat 10)] [] (xLay, I, L, kQ49 R) (0, 0) Φ := by
  have cn : (Int32.ofNat 10).toInt = 10 := by decide
  intro m
  induction m with
  | zero =>
    intro i I x2 hx hm h1 h2
    refine s49f18_J7_fill_53178_1 ⟨fun _ => h I (fun j hj => h1 j (by omega)) h2, fun a => ?_⟩
    have := kl_nle a
    omega
  | succ m ih =>
    intro i I x2 hx hm h1 h2
    have nn := tk_nat hx
    have s := ml_in1 (x := x2) (by omega)
    refine s49f18_J7_fill_53178_1 ⟨fun a => ?_, fun _ => ⟨kl_in (by omega) (by omega), fun I1 e1 => ?_⟩⟩
    · have := kl_le.mp a
      omega
    · rw [nn] at e1
      refine ih (i + 1) I1 _ (by omega) (by omega) (fun j hj => ?_) (fun a j ha => ?_)
      · by_cases c : j = i
        · subst c; rw [e1, en_up_eq]
        · rw [e1, en_up_ne _ _ _ _ (by omega)]; exact h1 j (by omega)
      · rw [e1, en_up_ne _ _ _ _ (by omega)]; exact h2 a j ha
theorem k49_f18 {x1 : Int32} (h : ∀ J : sm_I, (∀ j, j < 10 → J 55 j = x1) → (∀ a j, a ≠ 55 → J a j = I a j) → Φ (none, (xLay, J, L, kQ49 R))) : sm_wp sm_P S d 306 0 [.ref 55, .int x1] [] (xLay, I, L, kQ49 R) (0, 0) Φ := s49f18_J7_fill_53178_0 (k49_f18a h 10 0 I 0 (by decide) (by decide) (fun j hj => absurd hj (Nat.not_lt_zero j)) (fun _ _ _ => rfl))
theorem k49_f21a {I0 : sm_I} {x1 : Int32} (h : ∀ J : sm_I, (∀ j, j < 10 → J 58 j = x1) → (∀ a j, a ≠ 58 → J a j = I0 a j) → Φ (none, (xLay, J, L, kQ49 R))) : ∀ (m i : Nat) (I : sm_I) (x2 : Int32), x2.toInt = i → i + m = 10 → (∀ j, j < i → I 58 j = x1) → (∀ a j, a ≠ 58 → I a j = I0 a j) → sm_wp sm_P S d 306 1 [.ref 58, .int x1, .int x2, .int (Int32.ofNat 10)] [] (xLay, I, L, kQ49 R) (0, 0) Φ := by
  have cn : (Int32.ofNat 10).toInt = 10 := by decide
  intro m
  induction m with
  | zero =>
    intro i I x2 hx hm h1 h2
    refine s49f21_J7_fill_53178_1 ⟨fun _ => h I (fun j hj => h1 j (by omega)) h2, fun a => ?_⟩
    have := kl_nle a
    omega
  | succ m ih =>
    intro i I x2 hx hm h1 h2
    have nn := tk_nat hx
    have s := ml_in1 (x := x2) (by omega)
    refine s49f21_J7_fill_53178_1 ⟨fun a => ?_, fun _ => ⟨kl_in (by omega) (by omega), fun I1 e1 => ?_⟩⟩
    · have := kl_le.mp a
      omega
    · rw [nn] at e1
      refine ih (i + 1) I1 _ (by omega) (by omega) (fun j hj => ?_) (fun a j ha => ?_)
      · by_cases c : j = i
        · subst c; rw [e1, en_up_eq]
        · rw [e1, en_up_ne _ _ _ _ (by omega)]; exact h1 j (by omega)
      · rw [e1, en_up_ne _ _ _ _ (by omega)]; exact h2 a j ha
theorem k49_f21 {x1 : Int32} (h : ∀ J : sm_I, (∀ j, j < 10 → J 58 j = x1) → (∀ a j, a ≠ 58 → J a j = I a j) → Φ (none, (xLay, J, L, kQ49 R))) : sm_wp sm_P S d 306 0 [.ref 58, .int x1] [] (xLay, I, L, kQ49 R) (0, 0) Φ := s49f21_J7_fill_53178_0 (k49_f21a h 10 0 I 0 (by decide) (by decide) (fun j hj => absurd hj (Nat.not_lt_zero j)) (fun _ _ _ => rfl))
theorem k49_f22a {I0 : sm_I} {x1 : Int32} (h : ∀ J : sm_I, (∀ j, j < 10 → J 59 j = x1) → (∀ a j, a ≠ 59 → J a j = I0 a j) → Φ (none, (xLay, J, L, kQ49 R))) : ∀ (m i : Nat) (I : sm_I) (x2 : Int32), x2.toInt = i → i + m = 10 → (∀ j, j < i → I 59 j = x1) → (∀ a j, a ≠ 59 → I a j = I0 a j) → sm_wp sm_P S d 306 1 [.ref 59, .int x1, .int x2, .int (Int32.ofNat 10)] [] (xLay, I, L, kQ49 R) (0, 0) Φ := by
  have cn : (Int32.ofNat 10).toInt = 10 := by decide
  intro m
  induction m with
  | zero =>
    intro i I x2 hx hm h1 h2
    refine s49f22_J7_fill_53178_1 ⟨fun _ => h I (fun j hj => h1 j (by omega)) h2, fun a => ?_⟩
    have := kl_nle a
    omega
  | succ m ih =>
    intro i I x2 hx hm h1 h2
    have nn := tk_nat hx
    have s := ml_in1 (x := x2) (by omega)
    refine s49f22_J7_fill_53178_1 ⟨fun a => ?_, fun _ => ⟨kl_in (by omega) (by omega), fun I1 e1 => ?_⟩⟩
    · have := kl_le.mp a
      omega
    · rw [nn] at e1
      refine ih (i + 1) I1 _ (by omega) (by omega) (fun j hj => ?_) (fun a j ha => ?_)
      · by_cases c : j = i
        · subst c; rw [e1, en_up_eq]
        · rw [e1, en_up_ne _ _ _ _ (by omega)]; exact h1 j (by omega)
      · rw [e1, en_up_ne _ _ _ _ (by omega)]; exact h2 a j ha
theorem k49_f22 {x1 : Int32} (h : ∀ J : sm_I, (∀ j, j < 10 → J 59 j = x1) → (∀ a j, a ≠ 59 → J a j = I a j) → Φ (none, (xLay, J, L, kQ49 R))) : sm_wp sm_P S d 306 0 [.ref 59, .int x1] [] (xLay, I, L, kQ49 R) (0, 0) Φ := s49f22_J7_fill_53178_0 (k49_f22a h 10 0 I 0 (by decide) (by decide) (fun j hj => absurd hj (Nat.not_lt_zero j)) (fun _ _ _ => rfl))
theorem k49_f23a {I0 : sm_I} {x1 : Int32} (h : ∀ J : sm_I, (∀ j, j < 40 → J 60 j = x1) → (∀ a j, a ≠ 60 → J a j = I0 a j) → Φ (none, (xLay, J, L, kQ49 R))) : ∀ (m i : Nat) (I : sm_I) (x2 : Int32), x2.toInt = i → i + m = 40 → (∀ j, j < i → I 60 j = x1) → (∀ a j, a ≠ 60 → I a j = I0 a j) → sm_wp sm_P S d 306 1 [.ref 60, .int x1, .int x2, .int (Int32.ofNat 40)] [] (xLay, I, L, kQ49 R) (0, 0) Φ := by
  have cn : (Int32.ofNat 40).toInt = 40 := by decide
  intro m
  induction m with
  | zero =>
    intro i I x2 hx hm h1 h2
    refine s49f23_J7_fill_53178_1 ⟨fun _ => h I (fun j hj => h1 j (by omega)) h2, fun a => ?_⟩
    have := kl_nle a
    omega
  | succ m ih =>
    intro i I x2 hx hm h1 h2
    have nn := tk_nat hx
    have s := ml_in1 (x := x2) (by omega)
    refine s49f23_J7_fill_53178_1 ⟨fun a => ?_, fun _ => ⟨kl_in (by omega) (by omega), fun I1 e1 => ?_⟩⟩
    · have := kl_le.mp a
      omega
    · rw [nn] at e1
      refine ih (i + 1) I1 _ (by omega) (by omega) (fun j hj => ?_) (fun a j ha => ?_)
      · by_cases c : j = i
        · subst c; rw [e1, en_up_eq]
        · rw [e1, en_up_ne _ _ _ _ (by omega)]; exact h1 j (by omega)
      · rw [e1, en_up_ne _ _ _ _ (by omega)]; exact h2 a j ha
theorem k49_f23 {x1 : Int32} (h : ∀ J : sm_I, (∀ j, j < 40 → J 60 j = x1) → (∀ a j, a ≠ 60 → J a j = I a j) → Φ (none, (xLay, J, L, kQ49 R))) : sm_wp sm_P S d 306 0 [.ref 60, .int x1] [] (xLay, I, L, kQ49 R) (0, 0) Φ := s49f23_J7_fill_53178_0 (k49_f23a h 40 0 I 0 (by decide) (by decide) (fun j hj => absurd hj (Nat.not_lt_zero j)) (fun _ _ _ => rfl))
/-- what is told when nothing is told yet -/
def c490 (J : sm_I) : Prop := (∀ j, j < 5 → J 49 j = 0) ∧ J 49 6 = 0 ∧ (∀ i, i < 10 → J 51 i = -1 ∧ J 52 i = -1 ∧ J 55 i = -1 ∧ J 58 i = 1) ∧ (∀ i, i < 40 → J 60 i = 0) ∧ ∀ i, i < 36 → J 50 i = if i % 7 = 0 then 0 else -2
theorem k49_clear1 {I0 : sm_I} (h : ∀ J : sm_I, c490 J → (∀ p j, p < 12 → J p j = I0 p j) → Φ (none, (xLay, J, L, kQ49 R))) : ∀ (m i : Nat) (I : sm_I) (x1 : Int32), x1.toInt = i → i + m = 6 → (∀ j, j < 5 → I 49 j = 0) → I 49 6 = 0 → (∀ p j, p < 12 → I p j = I0 p j) → (∀ j, j < 36 → I 50 j = if j % 7 = 0 ∧ j < 7 * i then 0 else -2) → sm_wp sm_P S (d + 1) 16 1 [.ref 49, .int x1] [] (xLay, I, L, kQ49 R) (0, 0) Φ := by
  have c6 : (6 : Int32).toInt = 6 := by decide
  intro m
  induction m with
  | zero =>
    intro i I x1 hx hm a1 a2 a3 a4
    refine s49_X10_clear_1 ⟨fun _ => ?_, fun q => ?_⟩
    · refine k49_f14 (fun J1 b1 o1 => ⟨J1, L, rfl, k49_f15 (fun J2 b2 o2 => ⟨J2, L, rfl, k49_f18 (fun J3 b3 o3 => ⟨J3, L, rfl, k49_f21 (fun J4 b4 o4 => ⟨J4, L, rfl, k49_f22 (fun J5 b5 o5 => ⟨J5, L, rfl, k49_f23 (fun J6 b6 o6 => ⟨J6, L, rfl, h J6 ⟨fun j hj => ?_, ?_, fun k hk => ⟨?_, ?_, ?_, ?_⟩, b6, fun j hj => ?_⟩ (fun p j hp => ?_)⟩)⟩)⟩)⟩)⟩)⟩)
      · rw [o6 _ _ (by decide), o5 _ _ (by decide), o4 _ _ (by decide), o3 _ _ (by decide), o2 _ _ (by decide), o1 _ _ (by decide)]; exact a1 j hj
      · rw [o6 _ _ (by decide), o5 _ _ (by decide), o4 _ _ (by decide), o3 _ _ (by decide), o2 _ _ (by decide), o1 _ _ (by decide)]; exact a2
      · rw [o6 _ _ (by decide), o5 _ _ (by decide), o4 _ _ (by decide), o3 _ _ (by decide), o2 _ _ (by decide)]; exact b1 k hk
      · rw [o6 _ _ (by decide), o5 _ _ (by decide), o4 _ _ (by decide), o3 _ _ (by decide)]; exact b2 k hk
      · rw [o6 _ _ (by decide), o5 _ _ (by decide), o4 _ _ (by decide)]; exact b3 k hk
      · rw [o6 _ _ (by decide), o5 _ _ (by decide)]; exact b4 k hk
      · rw [o6 _ _ (by decide), o5 _ _ (by decide), o4 _ _ (by decide), o3 _ _ (by decide), o2 _ _ (by decide), o1 _ _ (by decide), a4 j hj]
        by_cases c : j % 7 = 0
        · rw [if_pos ⟨c, by omega⟩, if_pos c]
        · rw [if_neg (fun q => c q.1), if_neg c]
      · rw [o6 _ _ (by omega), o5 _ _ (by omega), o4 _ _ (by omega), o3 _ _ (by omega), o2 _ _ (by omega), o1 _ _ (by omega)]; exact a3 p j hp
    · have := kl_nle q
      omega
  | succ m ih =>
    intro i I x1 hx hm a1 a2 a3 a4
    have s1 := ml_in1 (x := x1) (by omega)
    have m6 : (x1 * 6).toInt = (i : Int) * 6 := ml_mu hx c6 (by omega) (by omega)
    have s7 : (x1 * 6 + x1).toInt = ((7 * i : Nat) : Int) := (ml_ad m6 hx (by omega) (by omega)).trans (by omega)
    have n7 := tk_nat s7
    refine s49_X10_clear_1 ⟨fun q => ?_, fun _ => ⟨kl_in (by omega) (by omega), fun I2 e2 => ?_⟩⟩
    · have := kl_le.mp q
      omega
    · rw [n7] at e2
      have o2 : ∀ p j, ¬ (p = 50 ∧ j = 7 * i) → I2 p j = I p j := fun p j hp => by rw [e2, en_up_ne _ _ _ _ hp]
      refine ih (i + 1) I2 _ (by omega) (by omega) (fun j hj => by rw [o2 _ _ (by omega)]; exact a1 j hj) (by rw [o2 _ _ (by omega)]; exact a2) (fun p j hp => by rw [o2 _ _ (by omega)]; exact a3 p j hp) (fun j hj => ?_)
      by_cases cj : j = 7 * i
      · rw [cj, e2, en_up_eq, if_pos ⟨by omega, by omega⟩]
      · rw [o2 _ _ (by omega), a4 j hj]
        by_cases c : j % 7 = 0 ∧ j < 7 * i
        · rw [if_pos c, if_pos ⟨c.1, by omega⟩]
        · rw [if_neg c, if_neg (fun q => c ⟨q.1, by have := q.1; have := q.2; omega⟩)]
theorem k49_clear (h : ∀ J : sm_I, c490 J → (∀ p j, p < 12 → J p j = I p j) → Φ (none, (xLay, J, L, kQ49 R))) : sm_wp sm_P S (d + 1) 16 0 [.ref 49] [] (xLay, I, L, kQ49 R) (0, 0) Φ := by
  refine s49_X10_clear_0 (fun I1 e1 I2 e2 I3 e3 => k49_f13 (fun J b o => ⟨J, L, rfl, k49_clear1 (I0 := I) h 6 0 J 0 (by decide) (by decide) (fun j hj => ?_) ?_ (fun p j hp => ?_) (fun j hj => ?_)⟩))
  · rw [o _ _ (by decide), en_up_ne _ _ _ _ (by omega), e3]
    match j, hj with
    | 0, _ => rw [en_up_ne _ _ _ _ (by omega), en_up_ne _ _ _ _ (by omega), e2, en_up_ne _ _ _ _ (by omega), en_up_ne _ _ _ _ (by omega), e1, en_up_ne _ _ _ _ (by omega), en_up_eq]
    | 1, _ => rw [en_up_ne _ _ _ _ (by omega), en_up_ne _ _ _ _ (by omega), e2, en_up_ne _ _ _ _ (by omega), en_up_ne _ _ _ _ (by omega), e1, en_up_eq]
    | 2, _ => rw [en_up_ne _ _ _ _ (by omega), en_up_ne _ _ _ _ (by omega), e2, en_up_ne _ _ _ _ (by omega), en_up_eq]
    | 3, _ => rw [en_up_ne _ _ _ _ (by omega), en_up_ne _ _ _ _ (by omega), e2, en_up_eq]
    | 4, _ => rw [en_up_ne _ _ _ _ (by omega), en_up_eq]
    | j + 5, hj => omega
  · rw [o _ _ (by decide), en_up_eq]
  · rw [o _ _ (by omega), en_up_ne _ _ _ _ (by omega), e3, en_up_ne _ _ _ _ (by omega), en_up_ne _ _ _ _ (by omega), e2, en_up_ne _ _ _ _ (by omega), en_up_ne _ _ _ _ (by omega), e1, en_up_ne _ _ _ _ (by omega), en_up_ne _ _ _ _ (by omega)]
  · rw [b j hj, if_neg (by omega)]
theorem k49_scan {x2 : Int32} {n : Nat} (hn : n ≤ 2000) (h2 : x2.toInt = n) (h : ∀ (c : Nat) (J : sm_I) (K : sm_L), c ≤ 501 → (J 3 3).toInt = c → tk_rows (I 1) n c J K → J 4 c = 21 → (J 5 c).toInt = n → (c ≤ 500 → tk_at (I 1) n c = n) → ks_fr I J L K → Φ (none, (xLay, J, K, kQ49 R))) : sm_wp sm_P S (d + 3) 301 0 [.ref 3, .ref 1, .int x2] [] (xLay, I, L, kQ49 R) (0, 0) Φ := by
  have q := ks_scan (S := S) (d := d) (q := 49) (Φ := Φ) (I := I) (L := L) (R := kQ49 R) hn h2 (by rw [kT_Q49]; exact h)
  rw [kT_Q49] at q
  exact q
theorem k49_syn {K : Nat → Int32} {c : Nat} (hc : (I 3 3).toInt = c) (c5 : c ≤ 501) (hK : ∀ i, i ≤ c → i ≤ 500 → I 4 i = K i) (hE : c ≤ 500 → K c = 21) (hN : ∀ i, i < c → K i ≠ 21) (h : ∀ (r : Int32) (J : sm_I), (∀ a j, a ≠ 7 → a ≠ 8 → ¬ (a = 2 ∧ j = 11) → J a j = I a j) → (SY K 501 0 0 gc0 = none → r = 0) → (∀ f j, SY K 501 0 0 gc0 = some (f, j) → r = f ∧ f ≠ 0 ∧ J 2 11 = I 5 j ∧ j ≤ 500) → Φ (some (.int r), (xLay, J, L, kQ49 R))) : sm_wp sm_P S (d + 2) 277 0 [.ref 2] [] (xLay, I, L, kQ49 R) (0, 0) Φ := by
  have q := ks_syn (S := S) (d := d) (q := 49) (Φ := Φ) (I := I) (L := L) (R := kQ49 R) hc c5 hK hE hN (by rw [kT_Q49]; exact h)
  rw [kT_Q49] at q
  exact q
/-- the pure machine's memory, as the class's stands -/
def k49_a (I : sm_I) (L : sm_L) : sg := (fun c j => if 12 ≤ c then I (c + (49 - 12)) j else I c j, fun j => L 9 j)
theorem k49_kr : kr 49 (k49_a I L) I L := ⟨fun _ _ => rfl, fun _ => rfl, fun _ => rfl, fun c j h1 h2 => by show _ = (if 12 ≤ c then I (c + (49 - 12)) j else I c j); rw [if_pos h1], fun _ => rfl⟩
theorem k49_ini (h : c490 I) (h5 : I 2 5 = 0) : ini (k49_a I L) := ⟨h5, h.1, h.2.1, h.2.2.1, h.2.2.2.1, h.2.2.2.2⟩
theorem k49_readTape {x2 : Int32} {n : Nat} (hn : n ≤ 2000) (h2 : x2.toInt = n) (hm : en_mem kl_tb klX (xLay, I, L, kQ49 R)) (h : ∀ (r : Int32) (J : sm_I) (L' : sm_L) (R' : sm_R) (a0 : sg), RDk (I 1) n a0 r J → RDt 49 (I 1) n a0 I J → Φ (some (.int r), (xLay, J, L', kQ49 R'))) : sm_wp sm_P S (d + 6) 276 0 [.ref 2, .ref 1, .int x2] [] (xLay, I, L, kQ49 R) (0, 0) Φ := by
  refine s49x_X7_readTape_0 ?_
  -- clear
  have A1 := klh_62 (Sc := S) (d + 5) (by show 1 ≤ d + 5; omega) [.ref 49] (xLay, I, L, kQ49 R) ⟨⟨rfl, rfl⟩, trivial⟩ hm ml_pf0
  have B1 : sm_wp sm_P S (d + 5) 16 0 [.ref 49] [] (xLay, I, L, kQ49 R) (0, 0) (fun z => ∃ J : sm_I, z = (none, (xLay, J, L, kQ49 R)) ∧ c490 J ∧ ∀ p j, p < 12 → J p j = I p j) := k49_clear (fun J a b => ⟨J, rfl, a, b⟩)
  refine sm_wp_mono (sm_wp_and A1 B1) (fun z hz => ?_)
  obtain ⟨⟨-, m1, f1⟩, J1, ez, c1, o1⟩ := hz
  subst ez
  have k1 : ko 49 I J1 := fun c j p1 p2 => (f1.2 c j (lw_rg (Q := 49) (by decide +kernel) p2)).1
  have m1 : en_mem kl_tb klX (xLay, J1, L, kQ49 R) := m1
  refine ⟨J1, L, rfl, ?_⟩
  have m2 : en_mem kl_tb klX (xLay, sm_up J1 2 5 0, L, kQ49 R) := kx_wr m1 (by decide +kernel) (fun q hq => by
    rw [show en_int kl_tb 2 5 = some (0, 35) from by decide +kernel] at hq
    rw [← Option.some.inj hq]; decide)
  have e1 : sm_up J1 2 5 0 1 = I 1 := funext (fun j => by rw [en_up_ne _ _ _ _ (by omega)]; exact o1 1 j (by decide))
  -- the TOKENS
  have A2 := klh_197 (Sc := S) (d + 5) (by show 3 ≤ d + 5; omega) [.ref 3, .ref 1, .int x2] (xLay, sm_up J1 2 5 0, L, kQ49 R) ⟨⟨rfl, rfl⟩, ⟨rfl, rfl⟩, ⟨rfl, by show (0 : Int) ≤ _; omega, by show _ ≤ (2000 : Int); omega⟩, trivial⟩ m2 ml_pf0
  have B2 : sm_wp sm_P S (d + 5) 301 0 [.ref 3, .ref 1, .int x2] [] (xLay, sm_up J1 2 5 0, L, kQ49 R) (0, 0) (fun z => ∃ (c : Nat) (J : sm_I) (K : sm_L), z = (none, (xLay, J, K, kQ49 R)) ∧ c ≤ 501 ∧ (J 3 3).toInt = c ∧ tk_rows (I 1) n c J K ∧ J 4 c = 21 ∧ (J 5 c).toInt = n ∧ (c ≤ 500 → tk_at (I 1) n c = n) ∧ ks_fr (sm_up J1 2 5 0) J L K) := k49_scan (d := d + 2) hn h2 (fun c J K q1 q2 q3 q4 q5 q6 q7 => ⟨c, J, K, rfl, q1, q2, by rw [← e1]; exact q3, q4, q5, by rw [← e1]; exact q6, q7⟩)
  refine sm_wp_mono (sm_wp_and A2 B2) (fun z hz => ?_)
  obtain ⟨⟨-, m3, -⟩, c, J3, K3, ez, c5, h33, hr, h21, h5c, hend, hfr⟩ := hz
  subst ez
  have m3 : en_mem kl_tb klX (xLay, J3, K3, kQ49 R) := m3
  refine ⟨J3, K3, rfl, ?_⟩
  obtain ⟨hK, hE⟩ := tk_rK c5 hr h21 hend
  have hN : ∀ i, i < c → tk_K (I 1) n i ≠ 21 := fun i hi q => by
    have := tk_K_21.mp q
    have := (hr i hi).1
    omega
  have pl : ∀ j, j ≤ c → (c = 501 → j ≤ 500) → (J3 5 j).toInt = tk_at (I 1) n j := fun j hj h5 => by
    rcases Nat.lt_or_ge j c with q | q
    · exact (hr j q).2.2.1
    · have e : j = c := by omega
      subst e
      rw [h5c, hend (by omega)]
  -- the grammar
  have A3 := klh_188 (Sc := S) (d + 5) (by show 2 ≤ d + 5; omega) [.ref 2] (xLay, J3, K3, kQ49 R) ⟨⟨rfl, rfl⟩, trivial⟩ m3 ml_pf0
  have B3 : sm_wp sm_P S (d + 5) 277 0 [.ref 2] [] (xLay, J3, K3, kQ49 R) (0, 0) (fun z => ∃ (r : Int32) (J : sm_I), z = (some (.int r), (xLay, J, K3, kQ49 R)) ∧ (∀ a j, a ≠ 7 → a ≠ 8 → ¬ (a = 2 ∧ j = 11) → J a j = J3 a j) ∧ (SY (tk_K (I 1) n) 501 0 0 gc0 = none → r = 0) ∧ ∀ f j, SY (tk_K (I 1) n) 501 0 0 gc0 = some (f, j) → r = f ∧ f ≠ 0 ∧ J 2 11 = J3 5 j ∧ j ≤ 500) := k49_syn (d := d + 3) h33 c5 hK hE hN (fun r J q1 q2 q3 => ⟨r, J, rfl, q1, q2, q3⟩)
  refine sm_wp_mono (sm_wp_and A3 B3) (fun z hz => ?_)
  obtain ⟨⟨-, m4, -⟩, r9, J4, ez, o4, s0, s1⟩ := hz
  subst ez
  have m4 : en_mem kl_tb klX (xLay, J4, K3, kQ49 R) := m4
  refine ⟨r9, J4, K3, rfl, ?_⟩
  -- what is told yet: nothing
  have tld : ∀ p j, 12 ≤ p → J4 p j = J1 p j := fun p j hp => by rw [o4 p j (by omega) (by omega) (by omega), hfr.1 p j (by omega) (by omega) (by omega), en_up_ne _ _ _ _ (by omega)]
  have k4 : ko 49 I J4 := fun c j p1 p2 => by rw [tld c j p1]; exact k1 c j p1 p2
  have c4 : c490 J4 := by
    obtain ⟨q1, q2, q3, q4, q5⟩ := c1
    refine ⟨fun j hj => by rw [tld _ _ (by decide)]; exact q1 j hj, by rw [tld _ _ (by decide)]; exact q2, fun i hi => ?_, fun i hi => by rw [tld _ _ (by decide)]; exact q4 i hi, fun i hi => by rw [tld _ _ (by decide)]; exact q5 i hi⟩
    rw [tld _ _ (by decide), tld _ _ (by decide), tld _ _ (by decide), tld _ _ (by decide)]; exact q3 i hi
  have z5 : J4 2 5 = 0 := by rw [o4 2 5 (by decide) (by decide) (by omega), hfr.1 2 5 (by decide) (by decide) (by omega), en_up_eq]
  have hini : ini (k49_a J4 K3) := k49_ini c4 z5
  have bad : ∀ f j, SY (tk_K (I 1) n) 501 0 0 gc0 = some (f, j) → r9 = f ∧ f ≠ 0 ∧ (J4 2 11).toInt = tk_at (I 1) n j := fun f j q => by
    obtain ⟨w1, w2, w3, w4⟩ := s1 f j q
    refine ⟨w1, w2, ?_⟩
    rw [w3]
    refine pl j ?_ (fun _ => w4)
    by_cases c501 : c = 501
    · omega
    · exact SY_le (hE (by omega)) 501 0 0 gc0 (Nat.zero_le _) f j q
  refine ⟨fun r0 => ?_, fun r0 => ⟨fun q => absurd q r0, fun _ => h r9 J4 K3 R (k49_a J4 K3) ⟨hini, bad, fun q => absurd (s0 q) r0⟩ ⟨k4, fun q => absurd (s0 q) r0⟩⟩⟩
  have sn : SY (tk_K (I 1) n) 501 0 0 gc0 = none := by
    cases e : SY (tk_K (I 1) n) 501 0 0 gc0 with
    | none => rfl
    | some q =>
      obtain ⟨f, j⟩ := q
      obtain ⟨w1, w2, -⟩ := s1 f j e
      rw [r0] at w1
      exact absurd w1.symm w2
  have c500 : c ≤ 500 := by
    obtain ⟨c', -, q⟩ := SY_c 501 0 0 gc0 (by decide) sn
    rcases q with ⟨q1, q2⟩ | ⟨-, q2⟩
    · rcases Nat.lt_or_ge c' c with y | y
      · exact absurd q2 (hN c' y)
      · omega
    · omega
  have kin : ∀ i, 0 ≤ (tk_K (I 1) n i).toInt ∧ (tk_K (I 1) n i).toInt ≤ 21 := fun i => (TS_of c5 (fun i hi => (hr i hi).1) hend).2.1 i
  have A4 := klh_187 (Sc := S) (d + 5) (by show 5 ≤ d + 5; omega) [.ref 2] (xLay, J4, K3, kQ49 R) ⟨⟨rfl, rfl⟩, trivial⟩ m4 ml_pf0
  have B4 : sm_wp sm_P S (d + 5) 274 0 [.ref 2] [] (xLay, J4, K3, kQ49 R) (0, 0) (fun z => ∃ (r : Int32) (J : sm_I) (L' : sm_L), z = (some (.int r), (xLay, J, L', kQ49 R)) ∧ ((ME (tk_K (I 1) n) (fun i => tk_vl (I 1) n (tk_at (I 1) n i)) 501 0 0 (k49_a J4 K3)).1 = none → r = 0 ∧ kr 49 (ME (tk_K (I 1) n) (fun i => tk_vl (I 1) n (tk_at (I 1) n i)) 501 0 0 (k49_a J4 K3)).2 J L') ∧ (∀ f j, (ME (tk_K (I 1) n) (fun i => tk_vl (I 1) n (tk_at (I 1) n i)) 501 0 0 (k49_a J4 K3)).1 = some (f, j) → r = f ∧ f ≠ 0 ∧ J 2 11 = J4 5 j ∧ j < c) ∧ ko 49 J4 J) := k49_mean (a := k49_a J4 K3) (K := tk_K (I 1) n) (V := fun i => tk_vl (I 1) n (tk_at (I 1) n i)) (by rw [o4 3 3 (by decide) (by decide) (by omega)]; exact h33) c500 (fun i hi => by rw [o4 4 i (by decide) (by decide) (by omega)]; exact hK i (by omega) (by omega)) (fun i hi => (hr i hi).2.2.2) kin (hE c500) hN m4 k49_kr (fun r21 J5 L5 q1 q2 q3 => ⟨r21, J5, L5, rfl, q1, q2, q3⟩)
  refine sm_wp_mono (sm_wp_and A4 B4) (fun z hz => ?_)
  obtain ⟨⟨-, m5, -⟩, r21, J5, L5, ez, q1, q2, q3⟩ := hz
  subst ez
  have k5 : ko 49 I J5 := fun c j p1 p2 => by rw [q3 c j p1 p2]; exact k4 c j p1 p2
  have m5 : en_mem kl_tb klX (xLay, J5, L5, kQ49 R) := m5
  refine ⟨r21, J5, L5, rfl, fun r21z => ?_, fun r21z => ?_⟩
  · have mn : (ME (tk_K (I 1) n) (fun i => tk_vl (I 1) n (tk_at (I 1) n i)) 501 0 0 (k49_a J4 K3)).1 = none := by
      cases e : (ME (tk_K (I 1) n) (fun i => tk_vl (I 1) n (tk_at (I 1) n i)) 501 0 0 (k49_a J4 K3)).1 with
      | none => rfl
      | some q =>
        obtain ⟨f, j⟩ := q
        obtain ⟨w1, w2, -⟩ := q2 f j e
        rw [r21z] at w1
        exact absurd w1.symm w2
    have fin : ∀ J' L' R', RDt 49 (I 1) n (k49_a J4 K3) I J' → Φ (some (.int r21), (xLay, J', L', kQ49 R')) := (fun J' L' R' hT => h r21 J' L' R' (k49_a J4 K3) ⟨hini, fun f j q => (by rw [sn] at q; cases q), fun _ => ⟨fun f j q => (by rw [mn] at q; cases q), fun _ => r21z⟩⟩ hT)
    obtain ⟨M, eM⟩ : ∃ M, M = (ME (tk_K (I 1) n) (fun i => tk_vl (I 1) n (tk_at (I 1) n i)) 501 0 0 (k49_a J4 K3)).2 := ⟨_, rfl⟩
    obtain ⟨s', hn, ht, -⟩ := ME_wi (V := fun i => tk_vl (I 1) n (tk_at (I 1) n i)) (tk_V (b := I 1) (n := n)) 501 0 0 (k49_a J4 K3) (WI_0 hini) mn
    rw [← eM] at hn ht
    have kc : ∀ c j, 12 ≤ c → c < 49 → J5 (c + (49 - 12)) j = M.1 c j := fun c j p1 p2 => by rw [eM]; exact (q1 mn).2.2.2.2.1 c j p1 p2
    have k13 : J5 50 = M.1 13 := funext (fun j => kc 13 j (by decide) (by decide))
    have p0 := kl_nat hn.1.1
    have p6 := hn.1.2
    have A5 := klh_68 (Sc := S) (d + 5) (by show 1 ≤ d + 5; omega) [.ref 49] (xLay, J5, L5, kQ49 R) ⟨⟨rfl, rfl⟩, trivial⟩ m5 ml_pf0
    have B5 : sm_wp sm_P S (d + 4 + 1) 18 0 [.ref 49] [] (xLay, J5, L5, kQ49 R) (0, 0) (fun z => w49ok z.2.2.1 ∧ ∀ i, i < 36 → nv (z.2.2.1 50 i) = Ft (M.1 12 1).toNatClampNeg (fun i => nv (M.1 13 i)) i) := by
      refine w49_walks (p := (M.1 12 1).toNatClampNeg) (by omega) ?_ (fun i hi => ?_) ?_ ?_ (fun J a b _ => ⟨a, fun i hi => by rw [b i hi, k13]⟩)
      · rw [show J5 49 1 = M.1 12 1 from kc 12 1 (by decide) (by decide)]; omega
      · rw [k13]
        rcases ht.2.2.2 i hi with c | c
        · exact Or.inl c
        · exact Or.inr c.1
      · rw [k13]; exact wt_WB ht
      · rw [k13]; exact wt_WS hn ht
    refine sm_wp_mono (sm_wp_and A5 B5) (fun z hz => ?_)
    obtain ⟨⟨pr6, m6, f6⟩, ok6, w6⟩ := hz
    obtain ⟨o6, lay6, J6, L6, R6⟩ := z
    have ok6 : w49ok J6 := ok6
    have w6 : ∀ i, i < 36 → nv (J6 50 i) = Ft (M.1 12 1).toNatClampNeg (fun i => nv (M.1 13 i)) i := w6
    obtain rfl : lay6 = xLay := m6.2.2.2.2.1
    obtain rfl : o6 = none := kpr9 pr6
    have e6 : kQ49 R6 = R6 := kQ49_eq m6 (by rw [(f6.2 2 6 (by decide +kernel)).2]; rfl)
    refine ⟨J6, L6, R6, by rw [e6], ?_⟩
    have A6 := klh_66 (Sc := S) (d + 5) (by show 1 ≤ d + 5; omega) [.ref 49] (xLay, J6, L6, R6) ⟨⟨rfl, rfl⟩, trivial⟩ m6 ml_pf0
    have g6 : ∀ c j, 12 ≤ c → c < 49 → c ≠ 13 → J6 (c + (49 - 12)) j = M.1 c j := fun c j p1 p2 p3 => by
      have w6 : en_wok [(50, [])] (c + (49 - 12)) j = false := lw_rv (Q := 49 - 12) p3
      rw [show J6 (c + (49 - 12)) j = J5 (c + (49 - 12)) j from (f6.2 _ j w6).1]
      exact kc c j p1 p2
    have t14 : J6 51 = M.1 14 := funext (fun j => g6 14 j (by decide) (by decide) (by decide))
    have t15 : J6 52 = M.1 15 := funext (fun j => g6 15 j (by decide) (by decide) (by decide))
    have t2 : J6 49 2 = M.1 12 2 := g6 12 2 (by decide) (by decide) (by decide)
    have b2 : 0 ≤ (J6 49 2).toInt ∧ (J6 49 2).toInt ≤ 10 := m6.2.1 49 2 (0, 10) (by decide +kernel)
    have n2 := kl_nat b2.1
    have mc6 : mc49 J6 = mvc (M.1 14) (M.1 15) := by unfold mc49; rw [t14, t15]
    have B6 : sm_wp sm_P S (d + 5) 17 0 [.ref 49] [] (xLay, J6, L6, R6) (0, 0) (fun z => bpA M → mv49 J6 z.2.2.1 (alst M)) := by
      by_cases bp : bpA M
      · have g := k49_moves (S := S) (d := d + 4) (L := L6) (R := R6) (I := J6) (T := (M.1 12 2).toNatClampNeg) (Φ := fun z => bpA M → mv49 J6 z.2.2.1 (alst M)) (by rw [← t2]; omega) (by rw [← t2]; omega) (fun i hi h14 => by
          rw [t14] at h14
          rw [t15]
          exact bp i (by rw [← t2]; rw [← t2] at hi; omega) h14) (fun J h _ => by
          rw [mc6] at h
          exact h)
        rw [e6] at g
        exact g
      · exact sm_wp_mono A6 (fun z _ q => absurd q bp)
    rw [e6]
    refine sm_wp_mono (sm_wp_and A6 B6) (fun z hz => ?_)
    obtain ⟨⟨pr7, m7, f7⟩, w7⟩ := hz
    obtain ⟨o7, lay7, J7, L7, R7⟩ := z
    have w7 : bpA M → mv49 J6 J7 (alst M) := w7
    obtain rfl : lay7 = xLay := m7.2.2.2.2.1
    obtain rfl : o7 = none := kpr9 pr7
    have e7 : kQ49 R7 = R7 := kQ49_eq m7 (by rw [(f7.2 2 6 (by decide +kernel)).2]; exact (f6.2 2 6 (by decide +kernel)).2.trans rfl)
    have s13 : J7 50 = J6 50 := funext (fun j => (f7.2 50 j rfl).1)
    refine ⟨J7, L7, R7, by rw [e7], fin J7 L7 R7 ⟨fun c j p1 p2 => ?_, fun _ _ => ⟨fun c j p1 p2 p3 p4 => ?_, ?_, fun i hi => ⟨?_, ?_⟩, fun bp => ?_⟩⟩⟩
    · have u7 : J7 c j = J6 c j := (f7.2 c j (lw_rg (Q := 49) (by decide +kernel) p2)).1
      have u6 : J6 c j = J5 c j := (f6.2 c j (lw_rg (Q := 49) (by decide +kernel) p2)).1
      rw [u7, u6]; exact k5 c j p1 p2
    · have v7 : en_wok [(49, [5]), (71, []), (72, []), (73, [])] (c + (49 - 12)) j = false := lw_rw (Q := 49 - 12) p2 p4
      have u7 : J7 (c + (49 - 12)) j = J6 (c + (49 - 12)) j := (f7.2 _ j v7).1
      rw [u7, ← eM]
      exact g6 c j p1 (by omega) p3
    · rw [← eM]; exact ⟨hn, ht⟩
    · show J7 50 i = -2 ∨ 0 ≤ (J7 50 i).toInt
      rw [s13]; exact ok6 i hi
    · show nv (J7 50 i) = _
      rw [s13, ← eM]; exact w6 i hi
    · rw [← eM] at bp ⊢
      obtain ⟨h1, h2, -⟩ := w7 bp
      refine ⟨h1, fun j hj => ?_⟩
      obtain ⟨r1, r2, r3⟩ := h2 j hj
      refine ⟨r1, r2, ?_⟩
      show J7 73 j = J7 50 _
      rw [s13, show J7 73 j = _ from r3, t15]
  · refine h r21 J5 L5 R (k49_a J4 K3) ⟨hini, fun f j q => (by rw [sn] at q; cases q), fun _ => ⟨fun f j q => ?_, fun q => absurd (q1 q).1 r21z⟩⟩ ⟨k5, fun _ q => absurd (q1 q).1 r21z⟩
    obtain ⟨w1, w2, w3, w4⟩ := q2 f j q
    refine ⟨w1, w2, ?_⟩
    rw [w3, o4 5 j (by decide) (by decide) (by omega)]
    exact pl j (by omega) (fun _ => by omega)
end
end
section
/-! the class's read, exact -/
def RDp (b : Nat → Int32) (n : Nat) (a0 : sg) (r : Int32) (J : sm_I) : Prop := ini a0 ∧ (∀ f j, SY (tk_K b n) 501 0 0 gc0 = some (f, j) → r = f ∧ f ≠ 0 ∧ (J 0 11).toInt = tk_at b n j) ∧ (SY (tk_K b n) 501 0 0 gc0 = none → (∀ f j, (ME (tk_K b n) (fun i => tk_vl b n (tk_at b n i)) 501 0 0 a0).1 = some (f, j) → r = f ∧ f ≠ 0 ∧ (J 0 11).toInt = tk_at b n j) ∧ ((ME (tk_K b n) (fun i => tk_vl b n (tk_at b n i)) 501 0 0 a0).1 = none → r = 0 ∧ J 0 11 = -1))
theorem RDp_of {b : Nat → Int32} {n : Nat} {a0 : sg} {r : Int32} {J1 J : sm_I} (h : RDk b n a0 r J1) (h0 : r = 0 → J 0 11 = -1) (h1 : r ≠ 0 → J 0 11 = J1 2 11) : RDp b n a0 r J := by
  refine ⟨h.1, fun f j q => ?_, fun q => ⟨fun f j q2 => ?_, fun q2 => ?_⟩⟩
  · obtain ⟨e1, e2, e3⟩ := h.2.1 f j q
    exact ⟨e1, e2, by rw [h1 (by rw [e1]; exact e2)]; exact e3⟩
  · obtain ⟨e1, e2, e3⟩ := (h.2.2 q).1 f j q2
    exact ⟨e1, e2, by rw [h1 (by rw [e1]; exact e2)]; exact e3⟩
  · have e := (h.2.2 q).2 q2
    exact ⟨e, h0 e⟩
theorem lw_nt {W : en_W} {p j : Nat} (h : W.all (fun q => Nat.blt q.1 12 || (Nat.beq q.1 37 || (Nat.ble 34 q.1 && (Nat.blt q.1 49 || Nat.ble 71 q.1)))) = true) (hp : (12 ≤ p ∧ p < 34) ∨ (49 ≤ p ∧ p < 71)) : en_wok W p j = false := by
  cases c : en_wok W p j with
  | false => rfl
  | true =>
    exfalso
    obtain ⟨q, g1, g2⟩ := List.any_eq_true.mp c
    have e : q.1 = p := Nat.eq_of_beq_eq_true (Bool.and_eq_true_iff.mp g2).1
    have l := List.all_eq_true.mp h q g1
    rw [e] at l
    rcases Bool.or_eq_true_iff.mp l with l | l
    · have l : p < 12 := Nat.le_of_ble_eq_true l
      omega
    rcases Bool.or_eq_true_iff.mp l with l | l
    · have l := Nat.eq_of_beq_eq_true l
      omega
    obtain ⟨l1, l2⟩ := Bool.and_eq_true_iff.mp l
    have l1 := Nat.le_of_ble_eq_true l1
    rcases Bool.or_eq_true_iff.mp l2 with l | l
    · have l : p < 49 := Nat.le_of_ble_eq_true l
      omega
    · have l := Nat.le_of_ble_eq_true l
      omega
theorem kp_rt {S : sm_C} {d : Nat} {Φ : sm_Z → Prop} {I : sm_I} {L : sm_L} {R : sm_R} {x2 : Int32} {n qi : Nat} (hn : n ≤ 2000) (h2 : x2.toInt = n) (hm : en_mem kl_tb klX (xLay, I, L, R)) (hi : qi = 12 ∨ qi = 49) (h3 : R 2 6 = some qi) (h : ∀ (r : Int32) (J : sm_I) (L' : sm_L) (R' : sm_R) (a0 : sg), RDk (I 1) n a0 r J → RDt qi (I 1) n a0 I J → Φ (some (.int r), (xLay, J, L', R'))) : sm_wp sm_P S (d + 6) 276 0 [.ref 2, .ref 1, .int x2] [] (xLay, I, L, R) (0, 0) Φ := by
  rcases hi with e | e
  · subst e
    have e : kQ12 R = R := kQ12_eq (w := (xLay, I, L, R)) hm h3
    have g := k12_readTape (S := S) (d := d) (Φ := Φ) (I := I) (L := L) (R := R) hn h2 (by rw [e]; exact hm) (fun r J L' R' a0 q q' => h r J L' (kQ12 R') a0 q q')
    rw [e] at g
    exact g
  · subst e
    have e : kQ49 R = R := kQ49_eq (w := (xLay, I, L, R)) hm h3
    have g := k49_readTape (S := S) (d := d) (Φ := Φ) (I := I) (L := L) (R := R) hn h2 (by rw [e]; exact hm) (fun r J L' R' a0 q q' => h r J L' (kQ49 R') a0 q q')
    rw [e] at g
    exact g
theorem kp_c12 {S : sm_C} {d q : Nat} {Φ : sm_Z → Prop} {I : sm_I} {L : sm_L} {R : sm_R} (h : Φ (some (.ref 12), (xLay, I, L, sm_up (kQ12 R) 2 6 (some q)))) : sm_wp sm_P S d 269 0 [.ref 2, .ref q] [] (xLay, I, L, kQ12 R) (0, 0) Φ := sm_wp_step h
theorem kp_c49 {S : sm_C} {d q : Nat} {Φ : sm_Z → Prop} {I : sm_I} {L : sm_L} {R : sm_R} (h : Φ (some (.ref 49), (xLay, I, L, sm_up (kQ49 R) 2 6 (some q)))) : sm_wp sm_P S d 269 0 [.ref 2, .ref q] [] (xLay, I, L, kQ49 R) (0, 0) Φ := sm_wp_step h
theorem kp_change {S : sm_C} {d q qi : Nat} {Φ : sm_Z → Prop} {I : sm_I} {L : sm_L} {R : sm_R} (hm : en_mem kl_tb klX (xLay, I, L, R)) (hi : qi = 12 ∨ qi = 49) (h3 : R 2 6 = some qi) (h : Φ (some (.ref qi), (xLay, I, L, sm_up R 2 6 (some q)))) : sm_wp sm_P S d 269 0 [.ref 2, .ref q] [] (xLay, I, L, R) (0, 0) Φ := by
  rcases hi with e | e
  · subst e
    have e : kQ12 R = R := kQ12_eq (w := (xLay, I, L, R)) hm h3
    have g := kp_c12 (S := S) (d := d) (q := q) (Φ := Φ) (I := I) (L := L) (R := R) (by rw [e]; exact h)
    rw [e] at g
    exact g
  · subst e
    have e : kQ49 R = R := kQ49_eq (w := (xLay, I, L, R)) hm h3
    have g := kp_c49 (S := S) (d := d) (q := q) (Φ := Φ) (I := I) (L := L) (R := R) (by rw [e]; exact h)
    rw [e] at g
    exact g
/-- what read does to what is told: qt is live, qi is read into -/
def RTp (qt qi : Nat) (b : Nat → Int32) (n : Nat) (a0 : sg) (I : sm_I) (r : Int32) (I' : sm_I) (R' : sm_R) : Prop := (r ≠ 0 → R' 0 9 = some qt ∧ R' 2 6 = some qi ∧ ∀ c j, 12 ≤ c → c < 49 → I' (c + (qt - 12)) j = I (c + (qt - 12)) j) ∧ (r = 0 → R' 0 9 = some qi ∧ R' 2 6 = some qt ∧ (∀ c j, 12 ≤ c → c < 34 → c ≠ 13 → ¬ (c = 12 ∧ j = 5) → I' (c + (qi - 12)) j = (ME (tk_K b n) (fun i => tk_vl b n (tk_at b n i)) 501 0 0 a0).2.1 c j) ∧ (wn (ME (tk_K b n) (fun i => tk_vl b n (tk_at b n i)) 501 0 0 a0).2 ∧ wt (ME (tk_K b n) (fun i => tk_vl b n (tk_at b n i)) 501 0 0 a0).2) ∧ wmQ qi (ME (tk_K b n) (fun i => tk_vl b n (tk_at b n i)) 501 0 0 a0).2 I')
theorem lw_nt2 {W : en_W} {p j : Nat} (h : W.all (fun q => Nat.blt q.1 12 || (Nat.ble 37 q.1 && (Nat.blt q.1 49 || Nat.ble 74 q.1))) = true) (hp : (12 ≤ p ∧ p < 37) ∨ (49 ≤ p ∧ p < 74)) : en_wok W p j = false := by
  cases c : en_wok W p j with
  | false => rfl
  | true =>
    exfalso
    obtain ⟨q, g1, g2⟩ := List.any_eq_true.mp c
    have e : q.1 = p := Nat.eq_of_beq_eq_true (Bool.and_eq_true_iff.mp g2).1
    have l := List.all_eq_true.mp h q g1
    rw [e] at l
    rcases Bool.or_eq_true_iff.mp l with l | l
    · have l : p < 12 := Nat.le_of_ble_eq_true l
      omega
    obtain ⟨l1, l2⟩ := Bool.and_eq_true_iff.mp l
    have l1 := Nat.le_of_ble_eq_true l1
    rcases Bool.or_eq_true_iff.mp l2 with l | l
    · have l : p < 49 := Nat.le_of_ble_eq_true l
      omega
    · have l := Nat.le_of_ble_eq_true l
      omega
theorem wmQ_cg {Q : Nat} {a : sg} {I J : sm_I} (h : ∀ p j, (p = Q ∧ j = 5) ∨ p = Q + 1 ∨ (Q + 22 ≤ p ∧ p ≤ Q + 24) → J p j = I p j) (k : wmQ Q a I) : wmQ Q a J := by
  refine ⟨fun i hi => ?_, fun bp => ?_⟩
  · rw [h (Q + 1) i (by omega)]; exact k.1 i hi
  · obtain ⟨k1, k2⟩ := k.2 bp
    refine ⟨by rw [h Q 5 (by omega)]; exact k1, fun j hj => ?_⟩
    rw [h (Q + 22) j (by omega), h (Q + 23) j (by omega), h (Q + 24) j (by omega), h (Q + 1) _ (by omega)]
    exact k2 j hj
/-- what read does to what is DOUBTED, SET, PICKED, MORE, and to what is known of it -/
def HKp (I : sm_I) (r : Int32) (I' : sm_I) : Prop := (r ≠ 0 → ∀ p j, ((37 ≤ p ∧ p < 49) ∨ 74 ≤ p ∨ (p = 0 ∧ (j = 12 ∨ j = 13))) → I' p j = I p j) ∧ (r = 0 → hcK I' ∧ I' 0 12 = 0 ∧ I' 0 13 = 0 ∧ I' 98 8 = 0 ∧ I' 98 9 = 0 ∧ I' 103 5 = 0)
theorem hk_nt {W : en_W} {p j : Nat} (h : W.all (fun q => (Nat.blt q.1 74 && (Nat.blt q.1 37 || Nat.ble 49 q.1)) && !(Nat.beq q.1 0)) = true) (hp : (37 ≤ p ∧ p < 49) ∨ 74 ≤ p ∨ (p = 0 ∧ (j = 12 ∨ j = 13))) : en_wok W p j = false := by
  cases c : en_wok W p j with
  | false => rfl
  | true =>
    exfalso
    obtain ⟨q, g1, g2⟩ := List.any_eq_true.mp c
    have e : q.1 = p := Nat.eq_of_beq_eq_true (Bool.and_eq_true_iff.mp g2).1
    have l := List.all_eq_true.mp h q g1
    rw [e] at l
    obtain ⟨l, l0⟩ := Bool.and_eq_true_iff.mp l
    obtain ⟨l1, l2⟩ := Bool.and_eq_true_iff.mp l
    have l1 : p < 74 := Nat.le_of_ble_eq_true l1
    rcases hp with hp | hp | hp
    · rcases Bool.or_eq_true_iff.mp l2 with l | l
      · have l : p < 37 := Nat.le_of_ble_eq_true l
        omega
      · have l : 49 ≤ p := Nat.le_of_ble_eq_true l
        omega
    · omega
    · rw [hp.1] at l0
      cases l0
theorem stI_fl {I : sm_I} : stI I 0 12 = 0 ∧ stI I 0 13 = 0 ∧ stI I 98 8 = 0 ∧ stI I 98 9 = 0 ∧ stI I 103 5 = 0 := ⟨rfl, rfl, rfl, rfl, rfl⟩
theorem stI_hc {I : sm_I} (h : hcK I) : hcK (stI I) := ⟨by rw [stI_ne (by omega)]; exact h.1, by rw [stI_ne (by omega)]; exact h.2.1, fun j hj => by rw [stI_ne (by omega)]; exact h.2.2.1 j hj, fun j hj => by rw [stI_ne (by omega)]; exact h.2.2.2 j hj⟩
theorem RDk_0 {b : Nat → Int32} {n : Nat} {a0 : sg} {J : sm_I} (h : RDk b n a0 0 J) : SY (tk_K b n) 501 0 0 gc0 = none ∧ (ME (tk_K b n) (fun i => tk_vl b n (tk_at b n i)) 501 0 0 a0).1 = none := by
  have h1 : SY (tk_K b n) 501 0 0 gc0 = none := by
    cases e : SY (tk_K b n) 501 0 0 gc0 with
    | none => rfl
    | some x =>
      obtain ⟨q1, q2, -⟩ := h.2.1 x.1 x.2 e
      exact absurd q1.symm q2
  refine ⟨h1, ?_⟩
  cases e : (ME (tk_K b n) (fun i => tk_vl b n (tk_at b n i)) 501 0 0 a0).1 with
  | none => rfl
  | some x =>
    obtain ⟨q1, q2, -⟩ := (h.2.2 h1).1 x.1 x.2 e
    exact absurd q1.symm q2
theorem kp_read {S : sm_C} {d : Nat} {Φ : sm_Z → Prop} {I : sm_I} {L : sm_L} {R : sm_R} {n qt qi : Nat} (hn : (I 0 10).toInt = n) (hm : en_mem kl_tb klX (xLay, I, L, R)) (hq : (qt = 12 ∧ qi = 49) ∨ (qt = 49 ∧ qi = 12)) (h09 : R 0 9 = some qt) (h26 : R 2 6 = some qi) (h : ∀ (r : Int32) (I' : sm_I) (L' : sm_L) (R' : sm_R) (a0 : sg), en_mem kl_tb klX (xLay, I', L', R') → en_fr kx_RW (xLay, I, L, R) (xLay, I', L', R') → I' 0 10 = 0 → RDp (I 1) n a0 r I' → RTp qt qi (I 1) n a0 I r I' R' → HKp I r I' → Φ (some (.int r), (xLay, I', L', R'))) : sm_wp sm_P S (d + 13) 80 0 [.ref 0] [] (xLay, I, L, R) (0, 0) Φ := by
  obtain ⟨q, -, e⟩ := kO_of hm
  have e : kO q R = R := e
  have b := kx_len hm
  have hd : 12 ≤ d + 12 := by omega
  have goal : sm_wp sm_P S (d + 12 + 1) 80 0 [.ref 0] [] (xLay, I, L, kO q R) (0, 0) Φ := by
    refine o_X11_read_0 ?_
    rw [e]
    have A := kx_ci (S := S) (d := d + 12) (c := klc_198) (vs := [.ref 2, .ref 1, .int (I 0 10)]) (C := fun _ I1 L1 R1 q1 => en_mem kl_tb klX (xLay, I1, L1, R1) ∧ (q1 = 12 ∨ q1 = 49) ∧ kO q1 R1 = R1 ∧ en_fr klc_198.2.2.2.2.1 (xLay, I, L, R) (xLay, I1, L1, R1)) klh_198 (Nat.le_trans (by decide) hd) ⟨⟨rfl, rfl⟩, ⟨rfl, rfl⟩, ⟨rfl, b.1, b.2⟩, trivial⟩ hm ml_pf0 rfl (fun r5 I1 L1 R1 q1 m1 hq1 e1 f1 => ⟨m1, hq1, e1, f1⟩)
    have B : sm_wp sm_P S (d + 12) 276 0 [.ref 2, .ref 1, .int (I 0 10)] [] (xLay, I, L, R) (0, 0) (fun z => ∃ (r : Int32) (J : sm_I) (L' : sm_L) (R' : sm_R) (a0 : sg), z = (some (.int r), (xLay, J, L', R')) ∧ RDk (I 1) n a0 r J ∧ RDt qi (I 1) n a0 I J) := kp_rt (d := d + 6) (by omega) hn hm (by omega) h26 (fun r J L' R' a0 q q' => ⟨r, J, L', R', a0, rfl, q, q'⟩)
    refine sm_wp_mono (sm_wp_and A B) (fun z hz => ?_)
    obtain ⟨⟨r5, I1, L1, R1, q1, ez, m1, hq1, e1, f1⟩, r5', I1', L1', R1', a0, ez', hR, hT⟩ := hz
    rw [ez] at ez'
    have er : r5 = r5' := Value.int.inj (Option.some.inj (congrArg Prod.fst ez'))
    have eI : I1 = I1' := congrArg (fun z : sm_Z => z.2.2.1) ez'
    rw [← er, ← eI] at hR
    rw [← eI] at hT
    have g09 : R1 0 9 = some qt := (f1.2 0 9 (by decide +kernel)).2.trans h09
    have g26 : R1 2 6 = some qi := (f1.2 2 6 (by decide +kernel)).2.trans h26
    have eq1 : q1 = qt := by
      have : kO q1 R1 0 9 = some q1 := rfl
      rw [e1, g09] at this
      exact (Option.some.inj this).symm
    have live : ∀ c j, 12 ≤ c → c < 49 → I1 (c + (qt - 12)) j = I (c + (qt - 12)) j := fun c j p1 p2 => hT.1 (c + (qt - 12)) j (by omega) (by omega)
    clear ez' er eI
    refine ⟨r5, I1, L1, R1, q1, ez, ?_⟩
    have f1' : en_fr kx_RW (xLay, I, L, R) (xLay, I1, L1, R1) := ml_frw f1 (by decide +kernel)
    have fp : ∀ (x : Int32) (J : sm_I), (-1 ≤ x.toInt ∧ x.toInt ≤ 2000) → J = sm_up (sm_up I1 0 10 (0 : Int32)) 0 11 x → en_mem kl_tb klX (xLay, J, L1, R1) ∧ en_fr kx_RW (xLay, I, L, R) (xLay, J, L1, R1) ∧ J 0 10 = 0 ∧ J 0 11 = x ∧ ∀ c j, 12 ≤ c → J c j = I1 c j := by
      intro x J hx eJ
      refine ⟨?_, ?_, ?_, ?_, fun c j hc => ?_⟩
      · rw [eJ]
        refine kx_wr (kx_10 m1 (by decide)) (by decide +kernel) (fun q hq => ?_)
        rw [show en_int kl_tb 0 11 = some (-1, 2000) from by decide +kernel] at hq
        rw [← Option.some.inj hq]
        exact hx
      · rw [eJ]
        exact ml_fr (ml_fr f1' (by decide +kernel)) (by decide +kernel)
      · rw [eJ, en_up_ne _ _ _ _ (by omega), en_up_eq]
      · rw [eJ, en_up_eq]
      · rw [eJ, en_up_ne _ _ _ _ (by omega), en_up_ne _ _ _ _ (by omega)]
    have on : ∀ J : sm_I, r5 = 0 → (∀ c j, 12 ≤ c → J c j = I1 c j) → RDp (I 1) n a0 r5 J → en_mem kl_tb klX (xLay, J, L1, R1) → en_fr kx_RW (xLay, I, L, R) (xLay, J, L1, R1) → J 0 10 = 0 → sm_wp sm_P S (d + 12) 269 0 [.ref 2, .ref q1] [] (xLay, J, L1, kO q1 R1) (0, 0) (fun z => ∃ (r12 : Nat) (I8 : sm_I) (L9 : sm_L) (R10 : sm_R) (w11 : Nat), z = (some (.ref r12), (xLay, I8, L9, (kO w11 R10))) ∧ sm_wp sm_P S (d + 12) 245 0 [.ref 37] [] (xLay, I8, L9, (sm_up (kO w11 R10) 0 9 (some r12))) (0, 0) (fun z => ∃ (I13 : sm_I) (L14 : sm_L) (R15 : sm_R) (w16 : Nat), z = (none, (xLay, I13, L14, (kO w16 R15))) ∧ sm_wp sm_P S (d + 12) 86 0 [.ref 0] [] (xLay, I13, L14, (kO w16 R15)) (0, 0) (fun z => ∃ (I18 : sm_I) (L19 : sm_L) (R20 : sm_R) (w21 : Nat), z = (none, (xLay, I18, L19, (kO w21 R20))) ∧ Φ (some (.int r5), (xLay, I18, L19, (kO w21 R20)))))) := by
      intro J r0 oJ hJ mJ fJ zJ
      rw [e1]
      have k : ∀ (r : Nat) (I8 : sm_I) (L9 : sm_L) (R10 : sm_R) (w11 : Nat), r = qi → (∀ c j, 12 ≤ c → I8 c j = I1 c j) → R10 2 6 = some qt → (r = 12 ∨ r = 49) → en_mem kl_tb klX (xLay, I8, L9, R10) → kO w11 R10 = R10 → en_fr [(2, [6])] (xLay, J, L1, R1) (xLay, I8, L9, R10) → sm_wp sm_P S (d + 12) 245 0 [.ref 37] [] (xLay, I8, L9, (sm_up (kO w11 R10) 0 9 (some r))) (0, 0) (fun z => ∃ (I13 : sm_I) (L14 : sm_L) (R15 : sm_R) (w16 : Nat), z = (none, (xLay, I13, L14, (kO w16 R15))) ∧ sm_wp sm_P S (d + 12) 86 0 [.ref 0] [] (xLay, I13, L14, (kO w16 R15)) (0, 0) (fun z => ∃ (I18 : sm_I) (L19 : sm_L) (R20 : sm_R) (w21 : Nat), z = (none, (xLay, I18, L19, (kO w21 R20))) ∧ Φ (some (.int r5), (xLay, I18, L19, (kO w21 R20))))) := by
        intro r I8 L9 R10 w11 rq o8 g8 hr m8 e8 f8
        rw [e8]
        have f8' : en_fr kx_RW (xLay, I, L, R) (xLay, I8, L9, sm_up R10 0 9 (some r)) := kx_frR (ml_frt fJ f8 (by decide +kernel)) (by decide +kernel)
        have m8' := kx_told m8 hr
        have ep : kP r (sm_up R10 0 9 (some r)) = sm_up R10 0 9 (some r) := kP_eq (w := (xLay, I8, L9, sm_up R10 0 9 (some r))) m8' (show sm_up R10 0 9 (some r) 0 9 = some r from en_up_eq _ _ _ _)
        have A := kx_cv (S := S) (d := d + 12) (c := klc_141) (vs := [.ref 37]) (C := fun I13 L14 R15 w16 => en_mem kl_tb klX (xLay, I13, L14, R15) ∧ kO w16 R15 = R15 ∧ en_fr klc_141.2.2.2.2.1 (xLay, I8, L9, sm_up R10 0 9 (some r)) (xLay, I13, L14, R15)) klh_141 (Nat.le_trans (by decide) hd) ⟨⟨rfl, rfl⟩, trivial⟩ m8' ml_pf0 rfl (fun I13 L14 R15 w16 m13 e13 f13 => ⟨m13, e13, f13⟩)
        have B : sm_wp sm_P S (d + 11 + 1) 245 0 [.ref 37] [] (xLay, I8, L9, sm_up R10 0 9 (some r)) (0, 0) (fun z => hcK z.2.2.1) := by
          rw [← ep]
          exact kp_hclear (fun J hJ _ => hJ)
        refine sm_wp_mono (sm_wp_and A B) (fun z hz => ?_)
        obtain ⟨⟨I13, L14, R15, w16, ez, m13, e13, f13⟩, hc13⟩ := hz
        have hc13 : hcK I13 := by rw [ez] at hc13; exact hc13
        refine ⟨I13, L14, R15, w16, ez, ?_⟩
        rw [e13]
        have f13' := ml_frt f8' f13 (by decide +kernel)
        have w9 : R15 0 9 = some r := by
          have y2 : R15 0 9 = sm_up R10 0 9 (some r) 0 9 := (f13.2 0 9 (by decide +kernel)).2
          rw [y2, en_up_eq]
        have ep2 : kP r R15 = R15 := kP_eq (w := (xLay, I13, L14, R15)) m13 w9
        have A2 := kx_cv (S := S) (d := d + 12) (c := klc_222) (vs := [.ref 0]) (C := fun I18 L19 R20 w21 => en_mem kl_tb klX (xLay, I18, L19, R20) ∧ kO w21 R20 = R20 ∧ en_fr klc_222.2.2.2.2.1 (xLay, I13, L14, R15) (xLay, I18, L19, R20)) klh_222 (Nat.le_trans (by decide) hd) ⟨⟨rfl, rfl⟩, trivial⟩ m13 ml_pf0 rfl (fun I18 L19 R20 w21 m18 e18 f18 => ⟨m18, e18, f18⟩)
        have B2 : sm_wp sm_P S (d + 12) 86 0 [.ref 0] [] (xLay, I13, L14, R15) (0, 0) (fun z => z.2.2.1 = stI I13) := by
          rw [← ep2]
          exact kp_stale rfl
        refine sm_wp_mono (sm_wp_and A2 B2) (fun z hz => ?_)
        obtain ⟨⟨I18, L19, R20, w21, ez2, m18, e18, f18⟩, st18⟩ := hz
        have st18 : I18 = stI I13 := by rw [ez2] at st18; exact st18
        refine ⟨I18, L19, R20, w21, ez2, ?_⟩
        rw [e18]
        have z11 : I18 0 11 = J 0 11 := by rw [ml_g f18 (by decide), ml_g f13 (by decide), ml_g f8 (by decide)]
        refine h r5 I18 L19 R20 a0 m18 (ml_frt f13' f18 (by decide +kernel)) ?_ ?_ ?_ ⟨fun q => absurd r0 q, fun _ => by rw [st18]; exact ⟨stI_hc hc13, stI_fl⟩⟩
        · rw [ml_g f18 (by decide), ml_g f13 (by decide), ml_g f8 (by decide), zJ]
        · unfold RDp
          rw [z11]
          exact hJ
        · refine ⟨fun q => absurd r0 q, fun _ => ⟨?_, ?_, fun c j p1 p2 p3 p4 => ?_, ?_, ?_⟩⟩
          · have y1 : R20 0 9 = R15 0 9 := (f18.2 0 9 (by decide +kernel)).2
            have y2 : R15 0 9 = sm_up R10 0 9 (some r) 0 9 := (f13.2 0 9 (by decide +kernel)).2
            rw [y1, y2, en_up_eq, rq]
          · have y1 : R20 2 6 = R15 2 6 := (f18.2 2 6 (by decide +kernel)).2
            have y2 : R15 2 6 = sm_up R10 0 9 (some r) 2 6 := (f13.2 2 6 (by decide +kernel)).2
            rw [y1, y2, en_up_ne _ _ _ _ (by omega), g8]
          · have y1 : I18 (c + (qi - 12)) j = I13 (c + (qi - 12)) j := (f18.2 _ j (lw_nt (by decide +kernel) (by omega))).1
            have y2 : I13 (c + (qi - 12)) j = I8 (c + (qi - 12)) j := (f13.2 _ j (lw_nt (by decide +kernel) (by omega))).1
            rw [r0] at hR
            obtain ⟨s1, s2⟩ := RDk_0 hR
            rw [y1, y2, o8 _ j (by omega)]
            exact (hT.2 s1 s2).1 c j p1 p2 p3 p4
          · rw [r0] at hR
            obtain ⟨s1, s2⟩ := RDk_0 hR
            exact (hT.2 s1 s2).2.1
          · rw [r0] at hR
            obtain ⟨s1, s2⟩ := RDk_0 hR
            refine wmQ_cg (I := I1) (fun p j q => ?_) (hT.2 s1 s2).2.2
            have y1 : I18 p j = I13 p j := (f18.2 p j (lw_nt2 (by decide +kernel) (by omega))).1
            have y2 : I13 p j = I8 p j := (f13.2 p j (lw_nt2 (by decide +kernel) (by omega))).1
            rw [y1, y2, o8 p j (by omega)]
      rw [eq1]
      have C1 := kp_change (S := S) (d := d + 12) (q := qt) (qi := qi) (Φ := fun z => z = (some (.ref qi), (xLay, J, L1, sm_up R1 2 6 (some qt)))) mJ (by omega) g26 rfl
      have C2 : sm_wp sm_P S (d + 12) 269 0 [.ref 2, .ref qt] [] (xLay, J, L1, R1) (0, 0) (fun z => ∃ (r12 : Nat) (I8 : sm_I) (L9 : sm_L) (R10 : sm_R) (w11 : Nat), z = (some (.ref r12), (xLay, I8, L9, (kO w11 R10))) ∧ (r12 = 12 ∨ r12 = 49) ∧ en_mem kl_tb klX (xLay, I8, L9, R10) ∧ kO w11 R10 = R10 ∧ en_fr [(2, [6])] (xLay, J, L1, R1) (xLay, I8, L9, R10)) := by
        rcases hq with c | c
        · rw [c.1]
          exact kx_cr (c := klc_161) klh_161 (Nat.zero_le _) ⟨⟨rfl, rfl⟩, ⟨rfl, rfl⟩, trivial⟩ mJ ml_pf0 rfl (fun r I8 L9 R10 w11 a b c d => ⟨a, b, c, d⟩)
        · rw [c.1]
          exact kx_cr (c := klc_162) klh_162 (Nat.zero_le _) ⟨⟨rfl, rfl⟩, ⟨rfl, rfl⟩, trivial⟩ mJ ml_pf0 rfl (fun r I8 L9 R10 w11 a b c d => ⟨a, b, c, d⟩)
      refine sm_wp_mono (sm_wp_and C1 C2) (fun z hz => ?_)
      obtain ⟨ez1, r12, I8, L9, R10, w11, ez2, hr, m8, e8, f8⟩ := hz
      have ez3 := ez1.symm.trans ez2
      have v1 : qi = r12 := Value.ref.inj (Option.some.inj (congrArg Prod.fst ez3))
      have v2 : J = I8 := congrArg (fun z : sm_Z => z.2.2.1) ez3
      have v3 : sm_up R1 2 6 (some qt) = kO w11 R10 := congrArg (fun z : sm_Z => z.2.2.2.2) ez3
      refine ⟨r12, I8, L9, R10, w11, ez2, k r12 I8 L9 R10 w11 v1.symm (fun c j p => by rw [← v2]; exact oJ c j p) ?_ hr m8 e8 f8⟩
      rw [e8] at v3
      rw [← v3, en_up_eq]
    have bp : -1 ≤ (I1 2 11).toInt ∧ (I1 2 11).toInt ≤ 2000 := m1.2.1 2 11 (-1, 2000) (by decide +kernel)
    refine ⟨fun a I27 e27 => ?_, fun a n6 e6 I7 e7 => ?_⟩
    · obtain ⟨mJ, fJ, zJ, pJ, oJ⟩ := fp (-1) I27 (by decide) e27
      have D := RDp_of hR (J := I27) (fun _ => pJ) (fun q => absurd a q)
      exact ⟨fun q => on I27 q oJ D mJ fJ zJ, fun q => absurd a q⟩
    · rw [en_up_ne _ _ _ _ (by omega)] at e6
      obtain ⟨mJ, fJ, zJ, pJ, oJ⟩ := fp n6 I7 (by rw [e6]; exact bp) e7
      have D := RDp_of hR (J := I7) (fun q => absurd q a) (fun _ => by rw [pJ, e6])
      refine ⟨fun q => absurd q a, fun _ => ?_⟩
      rw [e1]
      exact h r5 I7 L1 R1 a0 mJ fJ zJ D ⟨fun _ => ⟨g09, g26, fun c j p1 p2 => by rw [oJ _ j (by omega)]; exact live c j p1 p2⟩, fun q => absurd q a⟩ ⟨fun _ p j hp => by
        rw [e7, en_up_ne _ _ _ _ (by omega), en_up_ne _ _ _ _ (by omega)]
        exact (f1.2 p j (hk_nt (by decide +kernel) hp)).1, fun q => absurd q a⟩
  rw [e] at goal
  exact goal
end
section
/-! what is told, below the counts: kept with its side -/
def rTw (s : Nat) (a : sg) (I : sm_I) : Prop := ∀ i : Nat, i < 10 → (i : Int) < (I 122 s).toInt → a.1 14 i = I 123 (10 * s + i) ∧ a.1 15 i = I 124 (10 * s + i)
def rOw (s : Nat) (a : sg) (I : sm_I) : Prop := (∀ i : Nat, i < 10 → (i : Int) < (I 122 s).toInt → (I 135 (10 * s + i) = -1 ∧ a.1 18 i = -1) ∨ ∃ k : Nat, rO1 s i k a I) ∧ (∀ k : Nat, (k : Int) < (I 134 s).toInt → ∃ i : Nat, i < 10 ∧ rO1 s i k a I)
def rSw (s : Nat) (a : sg) (I : sm_I) : Prop := (∀ i : Nat, i < 10 → (i : Int) < (I 125 s).toInt → rY s i a I) ∧ a.1 12 6 = sb (fun i => I 126 (10 * s + i)) (I 125 s).toNatClampNeg
def TDw (s : Nat) (a : sg) (I : sm_I) : Prop := rC s a I ∧ rTw s a I ∧ rOw s a I ∧ rSw s a I ∧ rQ s a I
theorem TDw_of {s : Nat} {a : sg} {I : sm_I} (h : TD s a I) : TDw s a I := ⟨h.1, fun i hi q => (h.2.1 i hi).1 q, ⟨fun i hi _ => h.2.2.1.1 i hi, h.2.2.1.2⟩, ⟨fun i hi q => (h.2.2.2.2.1.1 i hi).1 q, h.2.2.2.2.1.2⟩, h.2.2.2.2.2⟩
theorem TDw_0 {s : Nat} {a : sg} {I : sm_I} (hz : ∀ p, p = 118 ∨ p = 119 ∨ p = 122 ∨ p = 125 ∨ p = 134 ∨ p = 136 → I p s = 0) (ha : ∀ j, j < 5 → a.1 12 j = 0) (ha6 : a.1 12 6 = 0) : TDw s a I := by
  refine ⟨⟨by rw [ha 0 (by decide), hz 118 (by omega)], by rw [ha 1 (by decide), hz 119 (by omega)], by rw [ha 2 (by decide), hz 122 (by omega)], by rw [ha 3 (by decide), hz 125 (by omega)], by rw [ha 4 (by decide), hz 136 (by omega)]⟩, fun i hi q => ?_, ⟨fun i hi q => ?_, fun k q => ?_⟩, ⟨fun i hi q => ?_, ?_⟩, fun i hi q => ?_⟩
  · rw [hz 122 (by omega), kl_0] at q; omega
  · rw [hz 122 (by omega), kl_0] at q; omega
  · rw [hz 134 (by omega), kl_0] at q; omega
  · rw [hz 125 (by omega), kl_0] at q; omega
  · rw [ha6, hz 125 (by omega)]; rfl
  · rw [hz 136 (by omega), kl_0] at q; omega
theorem TDw_t {s : Nat} {a : sg} {I : sm_I} : TDw s a I = TDw s a (tcut I) := rfl
theorem TDw_cg {s : Nat} {a : sg} {I J : sm_I} (h : ∀ p j, 118 ≤ p → p ≤ 136 → J p j = I p j) (k : TDw s a I) : TDw s a J := by
  have e : tcut J = tcut I := funext (fun p => funext (fun j => by
    unfold tcut
    cases c : (Nat.ble 118 p && Nat.ble p 136) with
    | false => rfl
    | true =>
      obtain ⟨c1, c2⟩ := Bool.and_eq_true_iff.mp c
      exact h p j (Nat.le_of_ble_eq_true c1) (Nat.le_of_ble_eq_true c2)))
  rw [TDw_t] at k ⊢
  rw [e]; exact k
theorem TDw_lv {l : Nat} {a : sg} {I J : sm_I} {L : sm_L} {R : sm_R} (hl : l ≤ 1) (hm : en_mem ml_tb mlX (xLay, I, L, R)) (h0 : lvf l I J) (k : TDw l a I) : TDw l a J := by
  have h : ∀ p j, ml_hl l p j ∨ ml_hm l p j → J p j = I p j := fun p j q => h0 p j (q.elim Or.inl (fun q => Or.inr (Or.inl q)))
  obtain ⟨⟨c1, c2, c3, c4, c5⟩, kT, ⟨kO1, kO2⟩, ⟨kS1, kS2⟩, kQ⟩ := k
  have b134 : 0 ≤ (I 134 l).toInt ∧ (I 134 l).toInt ≤ 4 := ml_row hm (p := 134) (n := 2) (q := (0, 4)) (fun _ => rfl) l (by omega)
  have b125 : 0 ≤ (I 125 l).toInt ∧ (I 125 l).toInt ≤ 10 := ml_row hm (p := 125) (n := 2) (q := (0, 10)) (fun _ => rfl) l (by omega)
  have o1 : ∀ p, (p = 118 ∨ p = 119 ∨ p = 120 ∨ p = 122 ∨ p = 125 ∨ p = 134 ∨ p = 136) → J p l = I p l := fun p hp => h p l (by unfold ml_hl ml_hm; omega)
  have o10 : ∀ p i, i < 10 → (p = 123 ∨ p = 124 ∨ p = 126 ∨ p = 127 ∨ p = 128 ∨ p = 135) → J p (10 * l + i) = I p (10 * l + i) := fun p i hi hp => h p _ (by
    rcases hp with e | e | e | e | e | e
    · exact Or.inl (Or.inr (Or.inl ⟨Or.inl e, by omega, by omega⟩))
    · exact Or.inl (Or.inr (Or.inl ⟨Or.inr (Or.inl e), by omega, by omega⟩))
    · exact Or.inr (Or.inr (Or.inr (Or.inl ⟨Or.inl e, by omega, by omega⟩)))
    · exact Or.inr (Or.inr (Or.inr (Or.inl ⟨Or.inr (Or.inl e), by omega, by omega⟩)))
    · exact Or.inl (Or.inr (Or.inl ⟨Or.inr (Or.inr e), by omega, by omega⟩))
    · exact Or.inr (Or.inr (Or.inr (Or.inl ⟨Or.inr (Or.inr e), by omega, by omega⟩))))
  have oo : ∀ i k, i < 10 → rO1 l i k a I → rO1 l i k a J := fun i k hi q => by
    obtain ⟨q1, q2, q3, q4, q5, q6, q7, q8, q9⟩ := q
    have op : ∀ p, (p = 130 ∨ p = 131 ∨ p = 132 ∨ p = 133) → J p (240 + 4 * l + k) = I p (240 + 4 * l + k) := fun p hp => h p _ (Or.inr (Or.inr (Or.inr (Or.inr (Or.inr ⟨hp, Or.inl ⟨by omega, by omega⟩⟩)))))
    refine ⟨by rw [o1 134 (by omega)]; exact q1, by rw [o1 122 (by omega)]; exact q2, by rw [o10 135 i hi (by omega)]; exact q3, by rw [op 130 (by omega)]; exact q4, q5, by rw [op 131 (by omega)]; exact q6, q7, by rw [op 132 (by omega)]; exact q8, by rw [op 133 (by omega)]; exact q9⟩
  refine ⟨⟨by rw [o1 118 (by omega)]; exact c1, by rw [o1 119 (by omega)]; exact c2, by rw [o1 122 (by omega)]; exact c3, by rw [o1 125 (by omega)]; exact c4, by rw [o1 136 (by omega)]; exact c5⟩, fun i hi q => ?_, ⟨fun i hi q => ?_, fun k hk => ?_⟩, ⟨fun i hi q => ?_, ?_⟩, fun q hq hq2 => ?_⟩
  · rw [o1 122 (by omega)] at q
    rw [o10 123 i hi (by omega), o10 124 i hi (by omega)]; exact kT i hi q
  · rw [o1 122 (by omega)] at q
    rcases kO1 i hi q with q | ⟨k, q⟩
    · left; rw [o10 135 i hi (by omega)]; exact q
    · exact Or.inr ⟨k, oo i k hi q⟩
  · rw [o1 134 (by omega)] at hk
    obtain ⟨i, hi, q⟩ := kO2 k hk
    exact ⟨i, hi, oo i k hi q⟩
  · rw [o1 125 (by omega)] at q
    obtain ⟨y1, y2, y3, y4, y5⟩ := kS1 i hi q
    refine ⟨by rw [o10 127 i hi (by omega)]; exact y1, by rw [o10 128 i hi (by omega)]; exact y2, by rw [o10 128 i hi (by omega)]; exact y3, by rw [o10 128 i hi (by omega)]; exact y4, fun r hr => ?_⟩
    rw [o10 128 i hi (by omega)] at hr
    obtain ⟨z1, z2, z3, z4⟩ := y5 r hr
    have e : J 129 (4 * (10 * l + i) + r) = I 129 (4 * (10 * l + i) + r) := h 129 _ (Or.inl (Or.inr (Or.inr (Or.inl ⟨rfl, by omega, by omega⟩))))
    refine ⟨by rw [e]; exact z1, by rw [e]; exact z2, by rw [e]; exact z3, fun p hp => ?_⟩
    rw [e] at hp
    have op : ∀ c, (c = 130 ∨ c = 131 ∨ c = 132 ∨ c = 133) → J c (120 * l + 12 * i + 3 * r + p) = I c (120 * l + 12 * i + 3 * r + p) := fun c hc => h c _ (by
      have u1 : 120 * l ≤ 120 * l + 12 * i + 3 * r + p := by omega
      have u2 : 120 * l + 12 * i + 3 * r + p < 120 * l + 120 := by omega
      rcases hc with e | e
      · exact Or.inl (Or.inr (Or.inr (Or.inr ⟨e, u1, u2⟩)))
      · exact Or.inr (Or.inr (Or.inr (Or.inr (Or.inl ⟨e, u1, u2⟩)))))
    rw [op 130 (by omega), op 131 (by omega), op 132 (by omega), op 133 (by omega)]
    exact z4 p hp
  · have n := kl_nat (i := I 125 l) (by omega)
    rw [o1 125 (by omega), kS2]
    exact sb_cg _ (fun i hi => (o10 126 i (by omega) (by omega)).symm)
  · rw [o1 136 (by omega)] at hq2
    have op : ∀ c, (c = 130 ∨ c = 131 ∨ c = 132 ∨ c = 133) → J c (248 + 6 * l + q) = I c (248 + 6 * l + q) := fun c hc => h c _ (Or.inr (Or.inr (Or.inr (Or.inr (Or.inr ⟨hc, Or.inr ⟨by omega, by omega⟩⟩)))))
    rw [op 130 (by omega), op 131 (by omega), op 132 (by omega), op 133 (by omega)]
    exact kQ q hq hq2
end
section
/-! a bit of the sure sayings -/
theorem sb_one : ∀ n : Nat, n < 10 → ∀ k : Nat, k < 32 → ((1 : Int32) <<< (Int32.ofNat n &&& 31)).toBitVec.getLsbD k = decide (k = n) := by decide +kernel
theorem sb_bit {f : Nat → Int32} : ∀ n, n ≤ 10 → ∀ k, k < 32 → (sb f n).toBitVec.getLsbD k = (decide (k < n) && !decide (f k = 0)) := by
  intro n
  induction n with
  | zero => intro _ k hk; rw [show (sb f 0).toBitVec = 0#32 from rfl]; simp
  | succ n ih =>
    intro hn k hk
    have i := ih (by omega) k hk
    have e : sb f (n + 1) = if f n = 0 then sb f n else sb f n ||| ((1 : Int32) <<< (Int32.ofNat n &&& 31)) := rfl
    rw [e]
    by_cases c : f n = 0
    · rw [if_pos c, i]
      by_cases q : k = n
      · subst q; simp [c]
      · rw [show decide (k < n + 1) = decide (k < n) from by rw [decide_eq_decide]; omega]
    · rw [if_neg c, Int32.toBitVec_or, BitVec.getLsbD_or, i, sb_one n (by omega) k hk]
      by_cases q : k = n
      · subst q; simp [c]
      · rw [show decide (k < n + 1) = decide (k < n) from by rw [decide_eq_decide]; omega, show decide (k = n) = false from decide_eq_false q, Bool.or_false]
theorem sb_t0 (x : BitVec 32) (k : Nat) (hk : k < 10) : ((x.sshiftRight k) &&& 1#32 = 0#32) ↔ x.getLsbD k = false := by
  constructor
  · intro h
    have q : ((x.sshiftRight k) &&& 1#32).getLsbD 0 = (0#32).getLsbD 0 := by rw [h]
    rw [BitVec.getLsbD_and, BitVec.getLsbD_sshiftRight, if_pos (by omega), Nat.add_zero] at q
    cases e : x.getLsbD k with
    | false => rfl
    | true => rw [e] at q; exact absurd q (by decide)
  · intro h
    apply BitVec.eq_of_getLsbD_eq
    intro i hi
    rw [BitVec.getLsbD_and, BitVec.getLsbD_sshiftRight]
    by_cases c : i = 0
    · subst c; rw [if_pos (by omega), Nat.add_zero, h]; decide
    · simp [c]
theorem sb_test (x y : Int32) (k : Nat) (hk : k < 10) (hy : y.toInt = k) : ((x >>> (y &&& 31)) &&& 1 = 0) ↔ x.toBitVec.getLsbD k = false := by
  have key : ∀ z : Int32, z.toBitVec = x.toBitVec.sshiftRight k → ((z &&& 1 = 0) ↔ x.toBitVec.getLsbD k = false) := fun z hz => by
    rw [← sb_t0 _ k hk, ← hz]
    exact ⟨fun q => congrArg Int32.toBitVec q, fun q => Int32.toBitVec_inj.mp q⟩
  refine key _ ?_
  have e : y = Int32.ofNat k := en_ofI (by rw [hy, Int32.toInt_ofNat_of_lt (by omega)])
  subst e
  rcases (by omega : k = 0 ∨ k = 1 ∨ k = 2 ∨ k = 3 ∨ k = 4 ∨ k = 5 ∨ k = 6 ∨ k = 7 ∨ k = 8 ∨ k = 9) with e | e | e | e | e | e | e | e | e | e <;> subst e <;> rfl
theorem sb_say {f : Nat → Int32} {n k : Nat} {y : Int32} (hn : n ≤ 10) (hk : k < n) (hy : y.toInt = k) : ((sb f n >>> (y &&& 31)) &&& 1 = 0) ↔ f k = 0 := by
  rw [sb_test _ _ k (by omega) hy, sb_bit n hn k (by omega)]
  simp [hk]
end
section
/-! conditions of the class with told = 12 (wip/pe/symd.py) -/
def kD12l : List (Nat × Nat × Nat) := [(0, 0, 1), (0, 1, 2), (0, 2, 37), (0, 3, 45), (0, 4, 74), (0, 5, 82), (0, 6, 90), (0, 7, 98), (0, 8, 103), (12, 7, 13), (12, 8, 14), (12, 9, 15), (12, 10, 16), (12, 11, 21), (12, 12, 22), (12, 13, 23), (12, 14, 24), (12, 15, 29), (12, 16, 34), (12, 17, 35), (12, 18, 36), (16, 0, 17), (16, 1, 18), (16, 2, 19), (16, 3, 20), (24, 0, 25), (24, 1, 26), (24, 2, 27), (24, 3, 28), (29, 0, 30), (29, 1, 31), (29, 2, 32), (29, 3, 33), (37, 2, 38), (37, 3, 39), (37, 4, 40), (40, 0, 41), (40, 1, 42), (40, 2, 43), (40, 3, 44), (0, 9, 12)]
def kD12 (R : sm_R) : sm_R := fun x j => match kD12l.find? (fun t => Nat.beq t.1 x && Nat.beq t.2.1 j) with
  | some t => some t.2.2
  | none => R x j
theorem pd12_X11_isDoubted_0 {S : sm_C} {d : Nat} {Φ : sm_Z → Prop} {I : sm_I} {L : sm_L} {R : sm_R} {x1 : Int32} (h : (((((I 37 0) >>> (x1 &&& 31)) &&& (1 : Int32)) = 0 → Φ (some (.int (0 : Int32)), (xLay, I, L, (kD12 R)))) ∧ (¬ (((I 37 0) >>> (x1 &&& 31)) &&& (1 : Int32)) = 0 → Φ (some (.int (1 : Int32)), (xLay, I, L, (kD12 R)))))) : sm_wp sm_P S d 55 0 [.ref 0, .int x1] [] (xLay, I, L, (kD12 R)) (0, 0) Φ := sm_wp_step (⟨fun q1 => ⟨Or.inl rfl, ((h).1 q1)⟩, fun q1 => ⟨Or.inr rfl, ((h).2 q1)⟩⟩)
theorem pd12_X11_pick_0 {S : sm_C} {d : Nat} {Φ : sm_Z → Prop} {I : sm_I} {L : sm_L} {R : sm_R} {x1 : Int32} {x2 : Int32} (h : sm_wp sm_P S d 62 0 [.ref 0, .int x1] [] (xLay, I, L, (kD12 R)) (0, 0) (fun z => ∃ (r3 : Int32) (I1 : sm_I) (L2 : sm_L), z = (some (.int r3), (xLay, I1, L2, (kD12 R))) ∧ ((r3 = 0 → ((x1 < (100 : Int32) → Φ (some (.int (0 : Int32)), (xLay, I1, L2, (kD12 R)))) ∧ (¬ x1 < (100 : Int32) → (((I1 12 5) ≤ (x1 - (100 : Int32)) → Φ (some (.int (0 : Int32)), (xLay, I1, L2, (kD12 R)))) ∧ (¬ (I1 12 5) ≤ (x1 - (100 : Int32)) → ∀ n4 : Int32, n4 = (((10 : Int32) + x1) - (100 : Int32)) → (vp_in (x1 - (100 : Int32)) 45) ∧ ((0 ≤ (I1 36 (x1 - (100 : Int32)).toNatClampNeg) → sm_wp sm_P S (d + 1) 72 10 [.ref 0, .int x2, .int n4, .int (2 : Int32)] [] (xLay, I1, L2, (kD12 R)) (0, 0) Φ) ∧ (¬ 0 ≤ (I1 36 (x1 - (100 : Int32)).toNatClampNeg) → sm_wp sm_P S (d + 1) 72 10 [.ref 0, .int x2, .int n4, .int (0 : Int32)] [] (xLay, I1, L2, (kD12 R)) (0, 0) Φ))))))) ∧ (¬ r3 = 0 → sm_wp sm_P S d 55 0 [.ref 0, .int x1] [] (xLay, I1, L2, (kD12 R)) (0, 0) (fun z => ∃ (r10 : Int32) (I8 : sm_I) (L9 : sm_L), z = (some (.int r10), (xLay, I8, L9, (kD12 R))) ∧ ((r10 = 0 → (vp_in x1 10) ∧ sm_wp sm_P S (d + 1) 72 10 [.ref 0, .int x2, .int x1, .int (I8 22 x1.toNatClampNeg)] [] (xLay, I8, L9, (kD12 R)) (0, 0) Φ) ∧ (¬ r10 = 0 → ((x1 < (100 : Int32) → Φ (some (.int (0 : Int32)), (xLay, I8, L9, (kD12 R)))) ∧ (¬ x1 < (100 : Int32) → (((I8 12 5) ≤ (x1 - (100 : Int32)) → Φ (some (.int (0 : Int32)), (xLay, I8, L9, (kD12 R)))) ∧ (¬ (I8 12 5) ≤ (x1 - (100 : Int32)) → ∀ n11 : Int32, n11 = (((10 : Int32) + x1) - (100 : Int32)) → (vp_in (x1 - (100 : Int32)) 45) ∧ ((0 ≤ (I8 36 (x1 - (100 : Int32)).toNatClampNeg) → sm_wp sm_P S (d + 1) 72 10 [.ref 0, .int x2, .int n11, .int (2 : Int32)] [] (xLay, I8, L9, (kD12 R)) (0, 0) Φ) ∧ (¬ 0 ≤ (I8 36 (x1 - (100 : Int32)).toNatClampNeg) → sm_wp sm_P S (d + 1) 72 10 [.ref 0, .int x2, .int n11, .int (0 : Int32)] [] (xLay, I8, L9, (kD12 R)) (0, 0) Φ))))))))))))) : sm_wp sm_P S (d + 1) 72 0 [.ref 0, .int x1, .int x2] [] (xLay, I, L, (kD12 R)) (0, 0) Φ := sm_wp_step (sm_ci0 (h) (fun r3 I1 L2 q18 => ⟨fun q17 => ⟨fun q7 => ⟨Or.inl rfl, ((((q18).1 q17)).1 q7)⟩, fun q7 => ⟨fun q6 => ⟨Or.inl rfl, ((((((q18).1 q17)).2 q7)).1 q6)⟩, fun q6 => ⟨((((((((q18).1 q17)).2 q7)).2 q6) _ rfl)).1, ⟨fun q5 => ((((((((((q18).1 q17)).2 q7)).2 q6) _ rfl)).2).1 q5), fun q5 => ((((((((((q18).1 q17)).2 q7)).2 q6) _ rfl)).2).2 q5)⟩⟩⟩⟩, fun q17 => sm_ci0 (((q18).2 q17)) (fun r10 I8 L9 q16 => ⟨fun q15 => ⟨(((q16).1 q15)).1, (((q16).1 q15)).2⟩, fun q15 => ⟨fun q14 => ⟨Or.inl rfl, ((((q16).2 q15)).1 q14)⟩, fun q14 => ⟨fun q13 => ⟨Or.inl rfl, ((((((q16).2 q15)).2 q14)).1 q13)⟩, fun q13 => ⟨((((((((q16).2 q15)).2 q14)).2 q13) _ rfl)).1, ⟨fun q12 => ((((((((((q16).2 q15)).2 q14)).2 q13) _ rfl)).2).1 q12), fun q12 => ((((((((((q16).2 q15)).2 q14)).2 q13) _ rfl)).2).2 q12)⟩⟩⟩⟩⟩)⟩))
theorem pd12_X11_pick_10 {S : sm_C} {d : Nat} {Φ : sm_Z → Prop} {I : sm_I} {L : sm_L} {R : sm_R} {x2 : Int32} {x3 : Int32} {x4 : Int32} (h : ((x2 < (-1 : Int32) → Φ (some (.int (0 : Int32)), (xLay, I, L, (kD12 R)))) ∧ (¬ x2 < (-1 : Int32) → ((x2 < x4 → (vp_in x3 55) ∧ ∀ I1 : sm_I, I1 = (sm_up I 39 x3.toNatClampNeg x2) → Φ (some (.int (1 : Int32)), (xLay, (sm_up I1 98 9 (0 : Int32)), L, (kD12 R)))) ∧ (¬ x2 < x4 → Φ (some (.int (0 : Int32)), (xLay, I, L, (kD12 R)))))))) : sm_wp sm_P S (d + 1) 72 10 [.ref 0, .int x2, .int x3, .int x4] [] (xLay, I, L, (kD12 R)) (0, 0) Φ := sm_wp_step (⟨fun q3 => ⟨Or.inl rfl, ((h).1 q3)⟩, fun q3 => ⟨fun q2 => ⟨(((((h).2 q3)).1 q2)).1, ⟨Or.inl rfl, ⟨Or.inr rfl, ((((((h).2 q3)).1 q2)).2 _ rfl)⟩⟩⟩, fun q2 => ⟨Or.inl rfl, ((((h).2 q3)).2 q2)⟩⟩⟩)
end
section
/-! conditions of the class with told = 49 (wip/pe/symd.py) -/
def kD49l : List (Nat × Nat × Nat) := [(0, 0, 1), (0, 1, 2), (0, 2, 37), (0, 3, 45), (0, 4, 74), (0, 5, 82), (0, 6, 90), (0, 7, 98), (0, 8, 103), (37, 2, 38), (37, 3, 39), (37, 4, 40), (40, 0, 41), (40, 1, 42), (40, 2, 43), (40, 3, 44), (49, 7, 50), (49, 8, 51), (49, 9, 52), (49, 10, 53), (49, 11, 58), (49, 12, 59), (49, 13, 60), (49, 14, 61), (49, 15, 66), (49, 16, 71), (49, 17, 72), (49, 18, 73), (53, 0, 54), (53, 1, 55), (53, 2, 56), (53, 3, 57), (61, 0, 62), (61, 1, 63), (61, 2, 64), (61, 3, 65), (66, 0, 67), (66, 1, 68), (66, 2, 69), (66, 3, 70), (0, 9, 49)]
def kD49 (R : sm_R) : sm_R := fun x j => match kD49l.find? (fun t => Nat.beq t.1 x && Nat.beq t.2.1 j) with
  | some t => some t.2.2
  | none => R x j
theorem pd49_X11_isDoubted_0 {S : sm_C} {d : Nat} {Φ : sm_Z → Prop} {I : sm_I} {L : sm_L} {R : sm_R} {x1 : Int32} (h : (((((I 37 0) >>> (x1 &&& 31)) &&& (1 : Int32)) = 0 → Φ (some (.int (0 : Int32)), (xLay, I, L, (kD49 R)))) ∧ (¬ (((I 37 0) >>> (x1 &&& 31)) &&& (1 : Int32)) = 0 → Φ (some (.int (1 : Int32)), (xLay, I, L, (kD49 R)))))) : sm_wp sm_P S d 55 0 [.ref 0, .int x1] [] (xLay, I, L, (kD49 R)) (0, 0) Φ := sm_wp_step (⟨fun q1 => ⟨Or.inl rfl, ((h).1 q1)⟩, fun q1 => ⟨Or.inr rfl, ((h).2 q1)⟩⟩)
theorem pd49_X11_pick_0 {S : sm_C} {d : Nat} {Φ : sm_Z → Prop} {I : sm_I} {L : sm_L} {R : sm_R} {x1 : Int32} {x2 : Int32} (h : sm_wp sm_P S d 62 0 [.ref 0, .int x1] [] (xLay, I, L, (kD49 R)) (0, 0) (fun z => ∃ (r3 : Int32) (I1 : sm_I) (L2 : sm_L), z = (some (.int r3), (xLay, I1, L2, (kD49 R))) ∧ ((r3 = 0 → ((x1 < (100 : Int32) → Φ (some (.int (0 : Int32)), (xLay, I1, L2, (kD49 R)))) ∧ (¬ x1 < (100 : Int32) → (((I1 49 5) ≤ (x1 - (100 : Int32)) → Φ (some (.int (0 : Int32)), (xLay, I1, L2, (kD49 R)))) ∧ (¬ (I1 49 5) ≤ (x1 - (100 : Int32)) → ∀ n4 : Int32, n4 = (((10 : Int32) + x1) - (100 : Int32)) → (vp_in (x1 - (100 : Int32)) 45) ∧ ((0 ≤ (I1 73 (x1 - (100 : Int32)).toNatClampNeg) → sm_wp sm_P S (d + 1) 72 10 [.ref 0, .int x2, .int n4, .int (2 : Int32)] [] (xLay, I1, L2, (kD49 R)) (0, 0) Φ) ∧ (¬ 0 ≤ (I1 73 (x1 - (100 : Int32)).toNatClampNeg) → sm_wp sm_P S (d + 1) 72 10 [.ref 0, .int x2, .int n4, .int (0 : Int32)] [] (xLay, I1, L2, (kD49 R)) (0, 0) Φ))))))) ∧ (¬ r3 = 0 → sm_wp sm_P S d 55 0 [.ref 0, .int x1] [] (xLay, I1, L2, (kD49 R)) (0, 0) (fun z => ∃ (r10 : Int32) (I8 : sm_I) (L9 : sm_L), z = (some (.int r10), (xLay, I8, L9, (kD49 R))) ∧ ((r10 = 0 → (vp_in x1 10) ∧ sm_wp sm_P S (d + 1) 72 10 [.ref 0, .int x2, .int x1, .int (I8 59 x1.toNatClampNeg)] [] (xLay, I8, L9, (kD49 R)) (0, 0) Φ) ∧ (¬ r10 = 0 → ((x1 < (100 : Int32) → Φ (some (.int (0 : Int32)), (xLay, I8, L9, (kD49 R)))) ∧ (¬ x1 < (100 : Int32) → (((I8 49 5) ≤ (x1 - (100 : Int32)) → Φ (some (.int (0 : Int32)), (xLay, I8, L9, (kD49 R)))) ∧ (¬ (I8 49 5) ≤ (x1 - (100 : Int32)) → ∀ n11 : Int32, n11 = (((10 : Int32) + x1) - (100 : Int32)) → (vp_in (x1 - (100 : Int32)) 45) ∧ ((0 ≤ (I8 73 (x1 - (100 : Int32)).toNatClampNeg) → sm_wp sm_P S (d + 1) 72 10 [.ref 0, .int x2, .int n11, .int (2 : Int32)] [] (xLay, I8, L9, (kD49 R)) (0, 0) Φ) ∧ (¬ 0 ≤ (I8 73 (x1 - (100 : Int32)).toNatClampNeg) → sm_wp sm_P S (d + 1) 72 10 [.ref 0, .int x2, .int n11, .int (0 : Int32)] [] (xLay, I8, L9, (kD49 R)) (0, 0) Φ))))))))))))) : sm_wp sm_P S (d + 1) 72 0 [.ref 0, .int x1, .int x2] [] (xLay, I, L, (kD49 R)) (0, 0) Φ := sm_wp_step (sm_ci0 (h) (fun r3 I1 L2 q18 => ⟨fun q17 => ⟨fun q7 => ⟨Or.inl rfl, ((((q18).1 q17)).1 q7)⟩, fun q7 => ⟨fun q6 => ⟨Or.inl rfl, ((((((q18).1 q17)).2 q7)).1 q6)⟩, fun q6 => ⟨((((((((q18).1 q17)).2 q7)).2 q6) _ rfl)).1, ⟨fun q5 => ((((((((((q18).1 q17)).2 q7)).2 q6) _ rfl)).2).1 q5), fun q5 => ((((((((((q18).1 q17)).2 q7)).2 q6) _ rfl)).2).2 q5)⟩⟩⟩⟩, fun q17 => sm_ci0 (((q18).2 q17)) (fun r10 I8 L9 q16 => ⟨fun q15 => ⟨(((q16).1 q15)).1, (((q16).1 q15)).2⟩, fun q15 => ⟨fun q14 => ⟨Or.inl rfl, ((((q16).2 q15)).1 q14)⟩, fun q14 => ⟨fun q13 => ⟨Or.inl rfl, ((((((q16).2 q15)).2 q14)).1 q13)⟩, fun q13 => ⟨((((((((q16).2 q15)).2 q14)).2 q13) _ rfl)).1, ⟨fun q12 => ((((((((((q16).2 q15)).2 q14)).2 q13) _ rfl)).2).1 q12), fun q12 => ((((((((((q16).2 q15)).2 q14)).2 q13) _ rfl)).2).2 q12)⟩⟩⟩⟩⟩)⟩))
theorem pd49_X11_pick_10 {S : sm_C} {d : Nat} {Φ : sm_Z → Prop} {I : sm_I} {L : sm_L} {R : sm_R} {x2 : Int32} {x3 : Int32} {x4 : Int32} (h : ((x2 < (-1 : Int32) → Φ (some (.int (0 : Int32)), (xLay, I, L, (kD49 R)))) ∧ (¬ x2 < (-1 : Int32) → ((x2 < x4 → (vp_in x3 55) ∧ ∀ I1 : sm_I, I1 = (sm_up I 39 x3.toNatClampNeg x2) → Φ (some (.int (1 : Int32)), (xLay, (sm_up I1 98 9 (0 : Int32)), L, (kD49 R)))) ∧ (¬ x2 < x4 → Φ (some (.int (0 : Int32)), (xLay, I, L, (kD49 R)))))))) : sm_wp sm_P S (d + 1) 72 10 [.ref 0, .int x2, .int x3, .int x4] [] (xLay, I, L, (kD49 R)) (0, 0) Φ := sm_wp_step (⟨fun q3 => ⟨Or.inl rfl, ((h).1 q3)⟩, fun q3 => ⟨fun q2 => ⟨(((((h).2 q3)).1 q2)).1, ⟨Or.inl rfl, ⟨Or.inr rfl, ((((((h).2 q3)).1 q2)).2 _ rfl)⟩⟩⟩, fun q2 => ⟨Or.inl rfl, ((((h).2 q3)).2 q2)⟩⟩⟩)
end
section
/-! bears, as a specification of its answer -/
end
section
/-! the class's bears, exact, told = 12 (wip/pe/mkbears.py) -/
section
variable {S : sm_C} {d : Nat} {Φ : sm_Z → Prop} {I : sm_I} {L : sm_L} {R : sm_R}
theorem kD12_kP {R : sm_R} : kP 12 (kD12 R) = kD12 R := by
  funext x j
  show (match kPl.find? (fun t => Nat.beq t.1 x && Nat.beq t.2.1 j) with
    | some t => some t.2.2
    | none => bif Nat.beq x 0 && Nat.beq j 9 then some 12 else kD12 R x j) = kD12 R x j
  split
  · next t ht =>
    have mem := List.mem_of_find?_eq_some ht
    have pr := List.find?_some ht
    obtain ⟨p1, p2⟩ := Bool.and_eq_true_iff.mp pr
    rw [← Nat.eq_of_beq_eq_true p1, ← Nat.eq_of_beq_eq_true p2]
    simp only [kPl, List.mem_cons, List.mem_nil_iff, or_false] at mem
    rcases mem with e | e | e | e | e | e | e | e | e | e | e | e | e | e | e | e <;> subst e <;> rfl
  · cases e : (Nat.beq x 0 && Nat.beq j 9) with
    | false => rfl
    | true =>
      obtain ⟨p1, p2⟩ := Bool.and_eq_true_iff.mp e
      rw [Nat.eq_of_beq_eq_true p1, Nat.eq_of_beq_eq_true p2]
      rfl
theorem kD12_r : ∀ t, t ∈ kD12l → (t.1 = 0 ∧ t.2.1 = 9 ∧ t.2.2 = 12) ∨ en_refs kl_tb t.1 t.2.1 = [t.2.2] := by decide +kernel
theorem kD12_eq {w : sm_W} (hm : en_mem kl_tb klX w) (h : w.2.2.2 0 9 = some 12) : kD12 w.2.2.2 = w.2.2.2 := by
  funext x j
  unfold kD12
  split
  · next t ht =>
    have mem := List.mem_of_find?_eq_some ht
    have pr := List.find?_some ht
    obtain ⟨p1, p2⟩ := Bool.and_eq_true_iff.mp pr
    have e1 : t.1 = x := Nat.eq_of_beq_eq_true p1
    have e2 : t.2.1 = j := Nat.eq_of_beq_eq_true p2
    rcases kD12_r t mem with ⟨q1, q2, q3⟩ | q
    · rw [← e1, ← e2, q1, q2, q3]; exact h.symm
    · obtain ⟨a, g1, g2⟩ := hm.2.2.1 t.1 t.2.1 (by rw [q]; exact List.cons_ne_nil _ _)
      rw [q] at g1
      rw [← e1, ← e2, g2, List.mem_singleton.mp g1]
  · rfl
end
end
section
/-! the class's bears, exact, told = 49 (wip/pe/mkbears.py) -/
section
variable {S : sm_C} {d : Nat} {Φ : sm_Z → Prop} {I : sm_I} {L : sm_L} {R : sm_R}
theorem kD49_kP {R : sm_R} : kP 49 (kD49 R) = kD49 R := by
  funext x j
  show (match kPl.find? (fun t => Nat.beq t.1 x && Nat.beq t.2.1 j) with
    | some t => some t.2.2
    | none => bif Nat.beq x 0 && Nat.beq j 9 then some 49 else kD49 R x j) = kD49 R x j
  split
  · next t ht =>
    have mem := List.mem_of_find?_eq_some ht
    have pr := List.find?_some ht
    obtain ⟨p1, p2⟩ := Bool.and_eq_true_iff.mp pr
    rw [← Nat.eq_of_beq_eq_true p1, ← Nat.eq_of_beq_eq_true p2]
    simp only [kPl, List.mem_cons, List.mem_nil_iff, or_false] at mem
    rcases mem with e | e | e | e | e | e | e | e | e | e | e | e | e | e | e | e <;> subst e <;> rfl
  · cases e : (Nat.beq x 0 && Nat.beq j 9) with
    | false => rfl
    | true =>
      obtain ⟨p1, p2⟩ := Bool.and_eq_true_iff.mp e
      rw [Nat.eq_of_beq_eq_true p1, Nat.eq_of_beq_eq_true p2]
      rfl
theorem kD49_r : ∀ t, t ∈ kD49l → (t.1 = 0 ∧ t.2.1 = 9 ∧ t.2.2 = 49) ∨ en_refs kl_tb t.1 t.2.1 = [t.2.2] := by decide +kernel
theorem kD49_eq {w : sm_W} (hm : en_mem kl_tb klX w) (h : w.2.2.2 0 9 = some 49) : kD49 w.2.2.2 = w.2.2.2 := by
  funext x j
  unfold kD49
  split
  · next t ht =>
    have mem := List.mem_of_find?_eq_some ht
    have pr := List.find?_some ht
    obtain ⟨p1, p2⟩ := Bool.and_eq_true_iff.mp pr
    have e1 : t.1 = x := Nat.eq_of_beq_eq_true p1
    have e2 : t.2.1 = j := Nat.eq_of_beq_eq_true p2
    rcases kD49_r t mem with ⟨q1, q2, q3⟩ | q
    · rw [← e1, ← e2, q1, q2, q3]; exact h.symm
    · obtain ⟨a, g1, g2⟩ := hm.2.2.1 t.1 t.2.1 (by rw [q]; exact List.cons_ne_nil _ _)
      rw [q] at g1
      rw [← e1, ← e2, g2, List.mem_singleton.mp g1]
  · rfl
end
end
section
/-! the reference's bears, exact -/
section
variable {S : sm_C} {d : Nat} {Φ : sm_Z → Prop} {I : sm_I} {L : sm_L} {R : sm_R}
end
end
section
/-! the first of a list; when a MOVE breaks; what is picked (wip/pe/mkb3.py) -/
def bq (h f t w : Nat → Int32) (nw : Int32 → Prop) (j : Nat) : Prop := h (f j).toNatClampNeg ≠ -1 ∧ h (t j).toNatClampNeg ≠ -1 ∧ (nw (w j) ∨ ((h (f j).toNatClampNeg).toInt - (h (t j).toNatClampNeg).toInt < (w j).toInt ∧ (h (t j).toNatClampNeg).toInt - (h (f j).toNatClampNeg).toInt < (w j).toInt))
theorem sub100 {x : Int32} : (x - 100).toInt = x.toInt - 100 ∨ (x.toInt < -2147483548 ∧ (x - 100).toInt = x.toInt + 4294967196) := by
  have a := Int32.le_toInt x
  have b := Int32.toInt_lt x
  have c : (100 : Int32).toInt = 100 := by decide
  rcases Int.lt_or_le x.toInt (-2147483548) with u | u
  · right
    refine ⟨u, ?_⟩
    rw [Int32.toInt_sub, c]
    exact en_bmod (by omega) (by omega) (Or.inr (Or.inl (by omega)))
  · left
    rw [Int32.toInt_sub, c]
    exact en_bmod (by omega) (by omega) (Or.inl rfl)
def pks (qt : Nat) (I : sm_I) (x : Int32) (s : Nat) (ch : Int) : Prop := (0 ≤ x.toInt ∧ x.toInt < (I qt 3).toInt ∧ ((I 37 0) >>> (x &&& 31)) &&& (1 : Int32) = 0 ∧ x.toInt = s ∧ ch = (I (qt + 10) s).toInt) ∨ (100 ≤ x.toInt ∧ x.toInt < 100 + (I qt 5).toInt ∧ x.toInt = s + 90 ∧ ch = if 0 ≤ (I (qt + 24) (s - 10)).toInt then 2 else 0)
def pkm (l : Nat) (I : sm_I) (x : Int32) (s : Nat) (ch : Int) : Prop := (0 ≤ x.toInt ∧ x.toInt < (I 125 l).toInt ∧ I 137 s = 0 ∧ x.toInt = s ∧ ch = (I 128 (10 * l + s)).toInt) ∨ (100 ≤ x.toInt ∧ x.toInt < 100 + (I 107 46).toInt ∧ x.toInt = s + 90 ∧ ch = if I 142 (s - 10) = -1 then 0 else 2)
theorem pks_fun {qt s s' : Nat} {I : sm_I} {x : Int32} {ch ch' : Int} (h3 : (I qt 3).toInt ≤ 10) (h : pks qt I x s ch) (g : pks qt I x s' ch') : s' = s ∧ ch' = ch := by
  rcases h with ⟨a1, a2, a3, a4, a5⟩ | ⟨a1, a2, a3, a4⟩
  · rcases g with ⟨b1, b2, b3, b4, b5⟩ | ⟨b1, b2, b3, b4⟩
    · have e : s' = s := by omega
      subst e
      exact ⟨rfl, by rw [a5, b5]⟩
    · omega
  · rcases g with ⟨b1, b2, b3, b4, b5⟩ | ⟨b1, b2, b3, b4⟩
    · omega
    · have e : s' = s := by omega
      subst e
      exact ⟨rfl, by rw [a4, b4]⟩
end
section
/-! the class's walk, move, breaks, pick, exact, told = 12 (wip/pe/mkb3.py) -/
section
variable {S : sm_C} {d : Nat} {Φ : sm_Z → Prop} {I : sm_I} {L : sm_L} {R : sm_R}
theorem b12_inS {x : Int32} (h0 : ¬ (0 ≤ x.toInt ∧ x.toInt < (I 12 3).toInt) → Φ (some (.int 0), (xLay, I, L, kD12 R))) (h1 : 0 ≤ x.toInt → x.toInt < (I 12 3).toInt → Φ (some (.int 1), (xLay, I, L, kD12 R))) : sm_wp sm_P S d 62 0 [.ref 0, .int x] [] (xLay, I, L, kD12 R) (0, 0) Φ := by
  have g := kp_inS (S := S) (d := d) (Φ := Φ) (I := I) (L := L) (R := kD12 R) (q := 12) (x := x) (by decide) (fun c => by rw [kD12_kP]; exact h0 c) (fun a b => by rw [kD12_kP]; exact h1 a b)
  rw [kD12_kP] at g
  exact g
theorem b12_pick {x y : Int32} (h3 : (I 12 3).toInt ≤ 10) (h5 : (I 12 5).toInt ≤ 45) (b22 : ∀ j, j < 10 → 0 ≤ (I 22 j).toInt) (h0 : (∀ s ch, pks 12 I x s ch → ¬ (-1 ≤ y.toInt ∧ y.toInt < ch)) → Φ (some (.int 0), (xLay, I, L, kD12 R))) (h1 : ∀ s ch, s < 55 → pks 12 I x s ch → -1 ≤ y.toInt → y.toInt < ch → Φ (some (.int 1), (xLay, sm_up (sm_up I 39 s y) 98 9 0, L, kD12 R))) : sm_wp sm_P S (d + 1) 72 0 [.ref 0, .int x, .int y] [] (xLay, I, L, kD12 R) (0, 0) Φ := by
  have cm : (-1 : Int32).toInt = -1 := by decide
  have c100 : (100 : Int32).toInt = 100 := by decide
  have c10 : (10 : Int32).toInt = 10 := by decide
  have fin : ∀ (s : Nat) (c z3 : Int32), z3.toInt = s → s < 55 → pks 12 I x s c.toInt → sm_wp sm_P S (d + 1) 72 10 [.ref 0, .int y, .int z3, .int c] [] (xLay, I, L, kD12 R) (0, 0) Φ := fun s c z3 e3 s55 p => by
    refine pd12_X11_pick_10 ⟨fun a => h0 (fun s' ch' q b => ?_), fun a => ⟨fun b => ⟨kl_in (by omega) (by omega), fun I1 e1 => ?_⟩, fun b => h0 (fun s' ch' q bb => ?_)⟩⟩
    · have a := kl_lt.mp a
      omega
    · rw [e1, tk_nat e3]
      have a := kl_nlt a
      exact h1 s _ s55 p (by omega) (kl_lt.mp b)
    · have b := kl_nlt b
      have e := (pks_fun h3 p q).2
      omega
  have no : x.toInt < 100 → ¬ (0 ≤ x.toInt ∧ x.toInt < (I 12 3).toInt ∧ ((I 37 0) >>> (x &&& 31)) &&& (1 : Int32) = 0) → Φ (some (.int 0), (xLay, I, L, kD12 R)) := fun a b => h0 (fun s ch q => by
    rcases q with ⟨q1, q2, q3, -⟩ | ⟨q1, -⟩
    · exact absurd ⟨q1, q2, q3⟩ b
    · omega)
  refine pd12_X11_pick_0 (b12_inS (fun c => ⟨_, I, L, rfl, fun _ => ⟨fun a => ?_, fun a => ⟨fun b => h0 (fun s ch q => ?_), fun b n4 e4 => ?_⟩⟩, fun z => absurd rfl z⟩) (fun a1 a2 => ⟨_, I, L, rfl, fun z => absurd z (by decide), fun _ => pd12_X11_isDoubted_0 ⟨fun e => ⟨_, I, L, rfl, fun _ => ⟨kl_in a1 (by omega), ?_⟩, fun z => absurd rfl z⟩, fun e => ⟨_, I, L, rfl, fun z => absurd z (by decide), fun _ => ⟨fun _ => no (by omega) (fun k => e k.2.2), fun a => ?_⟩⟩⟩⟩))
  · have a := kl_lt.mp a
    exact no (by omega) (fun k => c ⟨k.1, k.2.1⟩)
  · have a := kl_nlt a
    have b := kl_le.mp b
    have s1 : (x - 100).toInt = x.toInt - 100 := by
      rcases sub100 (x := x) with u | u
      · exact u
      · omega
    rw [s1] at b
    rcases q with ⟨q1, q2, -⟩ | ⟨q1, q2, -⟩
    · exact absurd ⟨q1, q2⟩ c
    · omega
  · have a := kl_nlt a
    have b := kl_nle b
    have s1 : (x - 100).toInt = x.toInt - 100 := by
      rcases sub100 (x := x) with u | u
      · exact u
      · omega
    rw [s1] at b
    have x0 : 0 ≤ x.toInt := by omega
    have nx := kl_nat x0
    have t1 : (x - 100).toNatClampNeg = x.toNatClampNeg - 100 := tk_nat (by omega)
    have s2 : ((10 : Int32) + x).toInt = 10 + x.toInt := ml_ad c10 rfl (by omega) (by omega)
    have s3 : n4.toInt = ((x.toNatClampNeg - 90 : Nat) : Int) := by
      rw [e4, Int32.toInt_sub, s2, c100]
      exact en_bmod (by omega) (by omega) (Or.inl (by omega))
    rw [t1]
    refine ⟨kl_in (by omega) (by omega), fun w => fin _ _ _ s3 (by omega) (Or.inr ⟨by omega, by omega, by omega, ?_⟩), fun w => fin _ _ _ s3 (by omega) (Or.inr ⟨by omega, by omega, by omega, ?_⟩)⟩
    · have w := kl_le.mp w
      rw [kl_0] at w
      show (2 : Int32).toInt = if 0 ≤ (I 36 (x.toNatClampNeg - 90 - 10)).toInt then 2 else 0
      rw [show x.toNatClampNeg - 90 - 10 = x.toNatClampNeg - 100 by omega, if_pos w]
      decide
    · have w := kl_nle w
      rw [kl_0] at w
      show (0 : Int32).toInt = if 0 ≤ (I 36 (x.toNatClampNeg - 90 - 10)).toInt then 2 else 0
      rw [show x.toNatClampNeg - 90 - 10 = x.toNatClampNeg - 100 by omega, if_neg (by omega)]
      decide
  · have nx := kl_nat a1
    exact fin x.toNatClampNeg _ _ nx.symm (by omega) (Or.inl ⟨a1, a2, e, nx.symm, rfl⟩)
  · have a := kl_nlt a
    omega
end
end
section
/-! the class's walk, move, breaks, pick, exact, told = 49 (wip/pe/mkb3.py) -/
section
variable {S : sm_C} {d : Nat} {Φ : sm_Z → Prop} {I : sm_I} {L : sm_L} {R : sm_R}
theorem b49_inS {x : Int32} (h0 : ¬ (0 ≤ x.toInt ∧ x.toInt < (I 49 3).toInt) → Φ (some (.int 0), (xLay, I, L, kD49 R))) (h1 : 0 ≤ x.toInt → x.toInt < (I 49 3).toInt → Φ (some (.int 1), (xLay, I, L, kD49 R))) : sm_wp sm_P S d 62 0 [.ref 0, .int x] [] (xLay, I, L, kD49 R) (0, 0) Φ := by
  have g := kp_inS (S := S) (d := d) (Φ := Φ) (I := I) (L := L) (R := kD49 R) (q := 49) (x := x) (by decide) (fun c => by rw [kD49_kP]; exact h0 c) (fun a b => by rw [kD49_kP]; exact h1 a b)
  rw [kD49_kP] at g
  exact g
theorem b49_pick {x y : Int32} (h3 : (I 49 3).toInt ≤ 10) (h5 : (I 49 5).toInt ≤ 45) (b22 : ∀ j, j < 10 → 0 ≤ (I 59 j).toInt) (h0 : (∀ s ch, pks 49 I x s ch → ¬ (-1 ≤ y.toInt ∧ y.toInt < ch)) → Φ (some (.int 0), (xLay, I, L, kD49 R))) (h1 : ∀ s ch, s < 55 → pks 49 I x s ch → -1 ≤ y.toInt → y.toInt < ch → Φ (some (.int 1), (xLay, sm_up (sm_up I 39 s y) 98 9 0, L, kD49 R))) : sm_wp sm_P S (d + 1) 72 0 [.ref 0, .int x, .int y] [] (xLay, I, L, kD49 R) (0, 0) Φ := by
  have cm : (-1 : Int32).toInt = -1 := by decide
  have c100 : (100 : Int32).toInt = 100 := by decide
  have c10 : (10 : Int32).toInt = 10 := by decide
  have fin : ∀ (s : Nat) (c z3 : Int32), z3.toInt = s → s < 55 → pks 49 I x s c.toInt → sm_wp sm_P S (d + 1) 72 10 [.ref 0, .int y, .int z3, .int c] [] (xLay, I, L, kD49 R) (0, 0) Φ := fun s c z3 e3 s55 p => by
    refine pd49_X11_pick_10 ⟨fun a => h0 (fun s' ch' q b => ?_), fun a => ⟨fun b => ⟨kl_in (by omega) (by omega), fun I1 e1 => ?_⟩, fun b => h0 (fun s' ch' q bb => ?_)⟩⟩
    · have a := kl_lt.mp a
      omega
    · rw [e1, tk_nat e3]
      have a := kl_nlt a
      exact h1 s _ s55 p (by omega) (kl_lt.mp b)
    · have b := kl_nlt b
      have e := (pks_fun h3 p q).2
      omega
  have no : x.toInt < 100 → ¬ (0 ≤ x.toInt ∧ x.toInt < (I 49 3).toInt ∧ ((I 37 0) >>> (x &&& 31)) &&& (1 : Int32) = 0) → Φ (some (.int 0), (xLay, I, L, kD49 R)) := fun a b => h0 (fun s ch q => by
    rcases q with ⟨q1, q2, q3, -⟩ | ⟨q1, -⟩
    · exact absurd ⟨q1, q2, q3⟩ b
    · omega)
  refine pd49_X11_pick_0 (b49_inS (fun c => ⟨_, I, L, rfl, fun _ => ⟨fun a => ?_, fun a => ⟨fun b => h0 (fun s ch q => ?_), fun b n4 e4 => ?_⟩⟩, fun z => absurd rfl z⟩) (fun a1 a2 => ⟨_, I, L, rfl, fun z => absurd z (by decide), fun _ => pd49_X11_isDoubted_0 ⟨fun e => ⟨_, I, L, rfl, fun _ => ⟨kl_in a1 (by omega), ?_⟩, fun z => absurd rfl z⟩, fun e => ⟨_, I, L, rfl, fun z => absurd z (by decide), fun _ => ⟨fun _ => no (by omega) (fun k => e k.2.2), fun a => ?_⟩⟩⟩⟩))
  · have a := kl_lt.mp a
    exact no (by omega) (fun k => c ⟨k.1, k.2.1⟩)
  · have a := kl_nlt a
    have b := kl_le.mp b
    have s1 : (x - 100).toInt = x.toInt - 100 := by
      rcases sub100 (x := x) with u | u
      · exact u
      · omega
    rw [s1] at b
    rcases q with ⟨q1, q2, -⟩ | ⟨q1, q2, -⟩
    · exact absurd ⟨q1, q2⟩ c
    · omega
  · have a := kl_nlt a
    have b := kl_nle b
    have s1 : (x - 100).toInt = x.toInt - 100 := by
      rcases sub100 (x := x) with u | u
      · exact u
      · omega
    rw [s1] at b
    have x0 : 0 ≤ x.toInt := by omega
    have nx := kl_nat x0
    have t1 : (x - 100).toNatClampNeg = x.toNatClampNeg - 100 := tk_nat (by omega)
    have s2 : ((10 : Int32) + x).toInt = 10 + x.toInt := ml_ad c10 rfl (by omega) (by omega)
    have s3 : n4.toInt = ((x.toNatClampNeg - 90 : Nat) : Int) := by
      rw [e4, Int32.toInt_sub, s2, c100]
      exact en_bmod (by omega) (by omega) (Or.inl (by omega))
    rw [t1]
    refine ⟨kl_in (by omega) (by omega), fun w => fin _ _ _ s3 (by omega) (Or.inr ⟨by omega, by omega, by omega, ?_⟩), fun w => fin _ _ _ s3 (by omega) (Or.inr ⟨by omega, by omega, by omega, ?_⟩)⟩
    · have w := kl_le.mp w
      rw [kl_0] at w
      show (2 : Int32).toInt = if 0 ≤ (I 73 (x.toNatClampNeg - 90 - 10)).toInt then 2 else 0
      rw [show x.toNatClampNeg - 90 - 10 = x.toNatClampNeg - 100 by omega, if_pos w]
      decide
    · have w := kl_nle w
      rw [kl_0] at w
      show (0 : Int32).toInt = if 0 ≤ (I 73 (x.toNatClampNeg - 90 - 10)).toInt then 2 else 0
      rw [show x.toNatClampNeg - 90 - 10 = x.toNatClampNeg - 100 by omega, if_neg (by omega)]
      decide
  · have nx := kl_nat a1
    exact fin x.toNatClampNeg _ _ nx.symm (by omega) (Or.inl ⟨a1, a2, e, nx.symm, rfl⟩)
  · have a := kl_nlt a
    omega
end
end
section
/-! the reference's walk, move, breaks, pick, exact (wip/pe/mkb3.py) -/
section
variable {S : sm_C} {d : Nat} {Φ : sm_Z → Prop} {I : sm_I} {L : sm_L} {R : sm_R}
theorem sub1 {x : Int32} (h : -1000 ≤ x.toInt) : (x - 1).toInt = x.toInt - 1 := by
  have b := Int32.toInt_lt x
  rw [Int32.toInt_sub, kl_1]
  exact en_bmod (by omega) (by omega) (Or.inl rfl)
theorem bx_item {x : Int32} {l : Nat} (hl : (I 107 18).toInt = l) (l1 : l ≤ 1) (hb : 0 ≤ (I 125 l).toInt ∧ (I 125 l).toInt ≤ 10) (b46 : 0 ≤ (I 107 46).toInt ∧ (I 107 46).toInt ≤ 45) (h0 : (∀ s ch, ¬ pkm l I x s ch) → Φ (some (.int (-1)), (xLay, I, L, kM R))) (h1 : ∀ (s : Nat) (v : Int32), v.toInt = s → s < 55 → (∃ ch, pkm l I x s ch) → Φ (some (.int v), (xLay, I, L, kM R))) : sm_wp sm_P S (d + 2) 151 0 [.ref 107, .int x] [] (xLay, I, L, kM R) (0, 0) Φ := by
  have s46 : (I 107 46 - 1).toInt = (I 107 46).toInt - 1 := sub1 (by omega)
  refine p_X12_itemAt_0 (yp_inS hl l1 hb (fun c => ⟨_, I, L, rfl, fun _ => ?_, fun z => absurd rfl z⟩) (fun a b => ⟨_, I, L, rfl, fun z => absurd z (by decide), fun _ => ?_⟩))
  · refine yp_in (fun c2 => ⟨_, I, L, rfl, fun _ => h0 (fun s ch q => ?_), fun z => absurd rfl z⟩) (fun a b => ⟨_, I, L, rfl, fun z => absurd z (by decide), fun _ => ?_⟩)
    · rcases q with ⟨q1, q2, -⟩ | ⟨q1, q2, -⟩
      · exact c ⟨q1, q2⟩
      · refine c2 ?_
        rw [kl_0, s46]
        rcases sub100 (x := x) with u | ⟨u, -⟩
        · omega
        · omega
    · rw [kl_0] at a
      rw [s46] at b
      have u : (x - 100).toInt = x.toInt - 100 := by
        rcases sub100 (x := x) with u | ⟨u, u2⟩
        · exact u
        · have := Int32.le_toInt x
          omega
      have nx := kl_nat (i := x) (by omega)
      have s90 : (x - 90).toInt = ((x.toNatClampNeg - 90 : Nat) : Int) := by
        rw [Int32.toInt_sub, (by decide : (90 : Int32).toInt = 90)]
        exact en_bmod (by omega) (by omega) (Or.inl (by omega))
      exact h1 _ _ s90 (by omega) ⟨_, Or.inr ⟨by omega, by omega, by omega, rfl⟩⟩
  · have nx := kl_nat a
    refine ⟨kl_in a (by omega), fun e => h1 x.toNatClampNeg x nx.symm (by omega) ⟨_, Or.inl ⟨a, b, e, nx.symm, rfl⟩⟩, fun e => h0 (fun s ch q => ?_)⟩
    rcases q with ⟨q1, q2, q3, q4, -⟩ | ⟨q1, -⟩
    · have es : s = x.toNatClampNeg := by omega
      rw [es] at q3
      exact e q3
    · omega
theorem bx_ch {z : Int32} {s l : Nat} (hz : z.toInt = s) (s55 : s < 55) (hl : (I 107 18).toInt = l) (l1 : l ≤ 1) (h : ∀ v : Int32, v.toInt = (if s < 10 then (I 128 (10 * l + s)).toInt else if I 142 (s - 10) = -1 then 0 else 2) → Φ (some (.int v), (xLay, I, L, kM R))) : sm_wp sm_P S d 114 0 [.ref 107, .int z] [] (xLay, I, L, kM R) (0, 0) Φ := by
  have c10 : (10 : Int32).toInt = 10 := by decide
  have c60 : (60 : Int32).toInt = 60 := by decide
  refine p_X12_choices_0 ⟨fun a => ⟨fun b => ?_, fun _ => ?_⟩, fun a n6 e6 => ?_⟩
  · have b := kl_le.mp b
    omega
  · have a := kl_le.mp a
    have s1 : (z - 10).toInt = ((s - 10 : Nat) : Int) := by
      rw [Int32.toInt_sub, c10]
      exact en_bmod (by omega) (by omega) (Or.inl (by omega))
    rw [if_neg (by omega)] at h
    refine ⟨kl_in (by omega) (by omega), fun n3 e3 => ?_⟩
    rw [tk_nat s1] at e3
    rw [e3]
    refine ⟨fun e => h 0 ?_, fun e => h 2 ?_⟩
    · rw [if_pos e]; decide
    · rw [if_neg e]; decide
  · have a := kl_nle a
    have q1 : ((10 : Int32) * (I 107 18)).toInt = 10 * (l : Int) := ml_mu c10 hl (by omega) (by omega)
    have s6 : n6.toInt = ((10 * l + s : Nat) : Int) := by rw [e6, ml_ad q1 hz (by omega) (by omega)]; omega
    rw [if_pos (by omega)] at h
    refine ⟨kl_in (by omega) (by omega), ?_⟩
    rw [tk_nat s6]
    exact h _ rfl
theorem bx_pick {x y : Int32} {l : Nat} (hl : (I 107 18).toInt = l) (l1 : l ≤ 1) (hb : 0 ≤ (I 125 l).toInt ∧ (I 125 l).toInt ≤ 10) (b46 : 0 ≤ (I 107 46).toInt ∧ (I 107 46).toInt ≤ 45) (b128 : ∀ j, j < 20 → 0 ≤ (I 128 j).toInt ∧ (I 128 j).toInt ≤ 4) (h0 : (∀ s ch, pkm l I x s ch → ¬ (-1 ≤ y.toInt ∧ y.toInt < ch)) → Φ (some (.int 0), (xLay, I, L, kM R))) (h1 : ∀ s ch, s < 55 → pkm l I x s ch → -1 ≤ y.toInt → y.toInt < ch → Φ (some (.int 1), (xLay, sm_up I 160 s y, L, kM R))) : sm_wp sm_P S (d + 3) 172 0 [.ref 107, .int x, .int y] [] (xLay, I, L, kM R) (0, 0) Φ := by
  have cm : (-1 : Int32).toInt = -1 := by decide
  refine p_X12_pick_0 (bx_item hl l1 hb b46 (fun c => ⟨_, I, L, rfl, fun _ => h0 (fun s ch q => absurd q (c s ch)), fun z => absurd rfl z⟩) (fun s v sv s55 hp => ⟨_, I, L, rfl, fun z => ?_, fun _ => ?_⟩))
  · rw [z] at sv
    omega
  have tv := tk_nat sv
  obtain ⟨ch, hp⟩ := hp
  have hch : ch = if s < 10 then (I 128 (10 * l + s)).toInt else if I 142 (s - 10) = -1 then 0 else 2 := by
    rcases hp with ⟨q1, q2, -, q4, q5⟩ | ⟨q1, q2, q3, q4⟩
    · rw [if_pos (by omega)]; exact q5
    · rw [if_neg (by omega)]; exact q4
  have un : ∀ s' ch', pkm l I x s' ch' → s' = s ∧ ch' = ch := fun s' ch' g => by
    rcases hp with ⟨a1, a2, a3, a4, a5⟩ | ⟨a1, a2, a3, a4⟩
    · rcases g with ⟨b1, b2, b3, b4, b5⟩ | ⟨b1, b2, b3, b4⟩
      · have e : s' = s := by omega
        subst e
        exact ⟨rfl, by rw [a5, b5]⟩
      · omega
    · rcases g with ⟨b1, b2, b3, b4, b5⟩ | ⟨b1, b2, b3, b4⟩
      · omega
      · have e : s' = s := by omega
        subst e
        exact ⟨rfl, by rw [a4, b4]⟩
  have ch0 : 0 ≤ ch ∧ ch ≤ 4 := by
    rw [hch]
    split
    · exact b128 _ (by omega)
    · split <;> omega
  refine ⟨fun e => ⟨kl_in (by omega) (by omega), fun I4 e4 => ?_⟩, fun e => ?_⟩
  · rw [e4, tv]
    exact h1 s ch s55 hp (by rw [e, cm]; omega) (by rw [e, cm]; omega)
  refine bx_ch sv s55 hl l1 (fun r7 e7 => ⟨_, I, L, rfl, ?_⟩)
  rw [← hch] at e7
  have s7 : (r7 - 1).toInt = ch - 1 := by rw [sub1 (by omega), e7]
  refine yp_in (fun c => ⟨_, I, L, rfl, fun _ => h0 (fun s' ch' q b => ?_), fun z => absurd rfl z⟩) (fun a b => ⟨_, I, L, rfl, fun z => absurd z (by decide), fun _ => ⟨kl_in (by omega) (by omega), fun I4 e4 => ?_⟩⟩)
  · have u := (un s' ch' q).2
    have ym : y.toInt ≠ -1 := fun q => e (en_ofI (by rw [q]; decide))
    refine c ?_
    rw [kl_0, s7]
    omega
  · rw [kl_0] at a
    rw [s7] at b
    rw [e4, tv]
    exact h1 s ch s55 hp (by omega) (by omega)
end
end
section
/-! TABLES: by how much each may be behind each other at most; the greatest one under what is asked -/
def tcl (n : Nat) (D : Nat → Nat → Int) : Prop := (∀ i, i < n → D i i = 0) ∧ ∀ i j k, i < n → j < n → k < n → D i k ≤ D i j + D j k
def tD0 (i j : Nat) : Int := if i = 0 ∨ i = j then 0 else 1440
abbrev tC : Type := Nat × Nat × Int
def tok (n : Nat) (C : List tC) (E : Nat → Nat → Int) : Prop := tcl n E ∧ (∀ i j, i < n → j < n → E i j ≤ tD0 i j) ∧ ∀ c, c ∈ C → c.1 < n → c.2.1 < n → E c.1 c.2.1 ≤ c.2.2
def ttop (n : Nat) (C : List tC) (D : Nat → Nat → Int) : Prop := tok n C D ∧ ∀ E, tok n C E → ∀ i j, i < n → j < n → E i j ≤ D i j
def tno (n : Nat) (C : List tC) : Prop := ∀ E, ¬ tok n C E
theorem tok_cg {n : Nat} {C C' : List tC} {E : Nat → Nat → Int} (e : ∀ c, c ∈ C' → c ∈ C) (h : tok n C E) : tok n C' E := ⟨h.1, h.2.1, fun c hc => h.2.2 c (e c hc)⟩
theorem tno_cg {n : Nat} {C C' : List tC} (e : ∀ c, c ∈ C → c ∈ C') (h : tno n C) : tno n C' := fun E g => h E (tok_cg e g)
theorem tok_eq {n : Nat} {C : List tC} {E E' : Nat → Nat → Int} (e : ∀ i j, i < n → j < n → E i j = E' i j) (h : tok n C E) : tok n C E' := by
  obtain ⟨⟨h1, h2⟩, h3, h4⟩ := h
  exact ⟨⟨fun i hi => by rw [← e i i hi hi]; exact h1 i hi, fun i j k hi hj hk => by rw [← e i k hi hk, ← e i j hi hj, ← e j k hj hk]; exact h2 i j k hi hj hk⟩, fun i j hi hj => by rw [← e i j hi hj]; exact h3 i j hi hj, fun c hc c1 c2 => by rw [← e _ _ c1 c2]; exact h4 c hc c1 c2⟩
theorem ttop_eq {n : Nat} {C : List tC} {D D' : Nat → Nat → Int} (e : ∀ i j, i < n → j < n → D i j = D' i j) (h : ttop n C D) : ttop n C D' := ⟨tok_eq e h.1, fun E g i j hi hj => by rw [← e i j hi hj]; exact h.2 E g i j hi hj⟩
theorem ttop_b {n : Nat} {C : List tC} {D : Nat → Nat → Int} (h : ttop n C D) : ∀ i j, i < n → j < n → -1440 ≤ D i j ∧ D i j ≤ 1440 := by
  obtain ⟨⟨⟨h1, h2⟩, h3, -⟩, -⟩ := h
  have u : ∀ i j, i < n → j < n → D i j ≤ 1440 := fun i j hi hj => by
    have := h3 i j hi hj
    unfold tD0 at this
    split at this <;> omega
  intro i j hi hj
  have a := h2 i j i hi hj hi
  have b := u j i hj hi
  have c := h1 i hi
  exact ⟨by omega, u i j hi hj⟩
theorem t_0 (n : Nat) : ttop n [] tD0 := by
  refine ⟨⟨⟨fun i _ => by unfold tD0; rw [if_pos (Or.inr rfl)], fun i j k _ _ _ => ?_⟩, fun i j _ _ => Int.le_refl _, fun c hc _ _ => absurd hc List.not_mem_nil⟩, fun E g => g.2.1⟩
  unfold tD0
  split
  · split <;> split <;> omega
  · split
    · split
      · omega
      · omega
    · split <;> omega
theorem t_no {n : Nat} {C : List tC} {D : Nat → Nat → Int} {i j : Nat} {w : Int} (h : ttop n C D) (hi : i < n) (hj : j < n) (k : D j i + w < 0) : tno n ((i, j, w) :: C) := fun E g => by
  have a := h.2 E (tok_cg (fun c hc => List.mem_cons_of_mem _ hc) g) j i hj hi
  have b : E i j ≤ w := g.2.2 (i, j, w) List.mem_cons_self hi hj
  have c := g.1.2 j i j hj hi hj
  have d := g.1.1 j hj
  omega
theorem t_same {n : Nat} {C : List tC} {D : Nat → Nat → Int} {i j : Nat} {w : Int} (h : ttop n C D) (k : D i j ≤ w) : ttop n ((i, j, w) :: C) D := ⟨⟨h.1.1, h.1.2.1, fun c hc c1 c2 => by
  rcases List.mem_cons.mp hc with e | e
  · rw [e]; exact k
  · exact h.1.2.2 c e c1 c2⟩, fun E g => h.2 E (tok_cg (fun c hc => List.mem_cons_of_mem _ hc) g)⟩
def tU (D : Nat → Nat → Int) (i j : Nat) (w : Int) (u v : Nat) : Int := if D u i + w + D j v < D u v then D u i + w + D j v else D u v
theorem t_up {n : Nat} {C : List tC} {D : Nat → Nat → Int} {i j : Nat} {w : Int} (h : ttop n C D) (hi : i < n) (hj : j < n) (k : 0 ≤ D j i + w) : ttop n ((i, j, w) :: C) (tU D i j w) := by
  obtain ⟨⟨⟨h1, h2⟩, h3, h4⟩, h5⟩ := h
  have le : ∀ u v, tU D i j w u v ≤ D u v ∧ tU D i j w u v ≤ D u i + w + D j v := fun u v => by
    unfold tU
    split <;> constructor <;> omega
  have ge : ∀ (x : Int) (u v : Nat), x ≤ D u v → x ≤ D u i + w + D j v → x ≤ tU D i j w u v := fun x u v a b => by
    unfold tU
    split <;> omega
  have vs : ∀ u v, tU D i j w u v = D u v ∨ tU D i j w u v = D u i + w + D j v := fun u v => by
    unfold tU
    split
    · exact Or.inr rfl
    · exact Or.inl rfl
  refine ⟨⟨⟨fun u hu => ?_, fun u v x hu hv hx => ?_⟩, fun u v hu hv => Int.le_trans (le u v).1 (h3 u v hu hv), fun c hc c1 c2 => ?_⟩, fun E g u v hu hv => ?_⟩
  · have a := h2 j u i hj hu hi
    have b := h1 u hu
    have c := ge 0 u u (by omega) (by omega)
    have d := (le u u).1
    omega
  · have a := le u x
    have t1 := h2 u v x hu hv hx
    have t2 := h2 j v x hj hv hx
    have t3 := h2 u v i hu hv hi
    have t4 := h2 j v i hj hv hi
    rcases vs u v with e | e <;> rcases vs v x with f | f <;> rw [e, f] <;> omega
  · rcases List.mem_cons.mp hc with e | e
    · rw [e]
      have a := (le i j).2
      have b := h1 i hi
      have c := h1 j hj
      show tU D i j w i j ≤ w
      omega
    · have b := h4 c e c1 c2
      have a := (le c.1 c.2.1).1
      omega
  · have a := h5 E (tok_cg (fun c hc => List.mem_cons_of_mem _ hc) g)
    have b : E i j ≤ w := g.2.2 (i, j, w) List.mem_cons_self hi hj
    have c := g.1.2 u i v hu hi hv
    have d := g.1.2 i j v hi hj hv
    have e := a u i hu hi
    have f := a j v hj hv
    exact ge _ u v (a u v hu hv) (by omega)
/-- row and column that the new way comes by stand -/
theorem tU_e {n : Nat} {D : Nat → Nat → Int} {i j : Nat} {w : Int} (k : 0 ≤ D j i + w) : (∀ v, tU D i j w j v = D j v) ∧ ∀ u, tU D i j w u i = D u i := by
  refine ⟨fun v => ?_, fun u => ?_⟩ <;> unfold tU
  · rw [if_neg (by omega)]
  · rw [if_neg (by omega)]
/-- what comes no nearer to the earlier one comes no nearer to any -/
theorem tU_s {n : Nat} {D : Nat → Nat → Int} {i j u : Nat} {w : Int} (h : tcl n D) (hj : j < n) (hu : u < n) (k : D u j ≤ D u i + w) : ∀ v, v < n → tU D i j w u v = D u v := fun v hv => by
  have a := h.2 u j v hu hj hv
  unfold tU
  rw [if_neg (by omega)]
/-! where an entry of a level lies -/
def tix (n lev i j : Nat) : Nat := lev * (n * n) + i * n + j
theorem tix_lt {n i j : Nat} (hi : i < n) (hj : j < n) : i * n + j < n * n := by
  have a : (i + 1) * n ≤ n * n := Nat.mul_le_mul_right n hi
  rw [Nat.succ_mul] at a
  omega
theorem tix_inj {n lev lev' i j i' j' : Nat} (hi : i < n) (hj : j < n) (hi' : i' < n) (hj' : j' < n) (e : tix n lev i j = tix n lev' i' j') : lev = lev' ∧ i = i' ∧ j = j' := by
  have a := tix_lt hi hj
  have b := tix_lt hi' hj'
  have p : 0 < n := by omega
  have q : 0 < n * n := Nat.mul_pos p p
  unfold tix at e
  have l1 : (lev * (n * n) + (i * n + j)) / (n * n) = lev := by rw [Nat.add_comm, Nat.add_mul_div_right _ _ q, Nat.div_eq_of_lt a]; omega
  have l2 : (lev' * (n * n) + (i' * n + j')) / (n * n) = lev' := by rw [Nat.add_comm, Nat.add_mul_div_right _ _ q, Nat.div_eq_of_lt b]; omega
  have e2 : lev * (n * n) + (i * n + j) = lev' * (n * n) + (i' * n + j') := by omega
  have el : lev = lev' := by rw [← l1, ← l2, e2]
  subst el
  have e3 : i * n + j = i' * n + j' := by omega
  have l3 : (i * n + j) / n = i := by rw [Nat.add_comm, Nat.add_mul_div_right _ _ p, Nat.div_eq_of_lt hj]; omega
  have l4 : (i' * n + j') / n = i' := by rw [Nat.add_comm, Nat.add_mul_div_right _ _ p, Nat.div_eq_of_lt hj']; omega
  have ei : i = i' := by rw [← l3, ← l4, e3]
  subst ei
  exact ⟨rfl, rfl, by omega⟩
end
