/-! calls by contract; what a call leaves -/
def ml_ws (W1 W2 : en_W) : Bool := W1.all (fun q => match q.2 with
  | [] => en_wall W2 q.1
  | l => l.all (fun i => en_wok W2 q.1 i))
theorem ml_ws_ok {W1 W2 : en_W} (h : ml_ws W1 W2 = true) {p j : Nat} (hw : en_wok W2 p j = false) : en_wok W1 p j = false := by
  cases e : en_wok W1 p j with
  | false => rfl
  | true =>
    exfalso
    obtain ⟨⟨a, l⟩, h1, h2⟩ := List.any_eq_true.mp e
    obtain ⟨h2, h3⟩ := Bool.and_eq_true_iff.mp h2
    have h2 : a = p := Nat.eq_of_beq_eq_true h2
    subst h2
    have h4 := List.all_eq_true.mp h _ h1
    cases l with
    | nil =>
      obtain ⟨⟨b, l2⟩, g1, g2⟩ := List.any_eq_true.mp h4
      obtain ⟨g2, g3⟩ := Bool.and_eq_true_iff.mp g2
      have : en_wok W2 a j = true := List.any_eq_true.mpr ⟨(b, l2), g1, by
        cases l2 with
        | nil => rw [g2]; rfl
        | cons _ _ => cases g3⟩
      rw [this] at hw; cases hw
    | cons x l =>
      obtain ⟨i, k1, k2⟩ := List.any_eq_true.mp h3
      have k2 : i = j := Nat.eq_of_beq_eq_true k2
      subst k2
      have := List.all_eq_true.mp h4 _ k1
      rw [this] at hw; cases hw
theorem ml_frw {W1 W2 : en_W} {w w' : sm_W} (h : en_fr W1 w w') (hs : ml_ws W1 W2 = true) : en_fr W2 w w' := ⟨h.1, fun p j hw => h.2 p j (ml_ws_ok hs hw)⟩
theorem ml_frt {W1 W : en_W} {w0 w w' : sm_W} (h : en_fr W w0 w) (h1 : en_fr W1 w w') (hs : ml_ws W1 W = true) : en_fr W w0 w' := en_fr_tr h (ml_frw h1 hs)
theorem ml_g {W : en_W} {a b : List (Nat × Nat)} {I I' : sm_I} {L L' : sm_L} {R R' : sm_R} (h : en_fr W (a, I, L, R) (b, I', L', R')) {p j : Nat} (hw : en_wok W p j = false) : I' p j = I p j := (h.2 p j hw).1
theorem ml_pf0 {w : sm_W} : en_pf [] w := fun _ h => absurd h List.not_mem_nil
theorem ml_we2 {I : sm_I} {L : sm_L} {R : sm_R} {p j n : Nat} {x : Int32} {q : Int × Int} (hm : en_mem ml_tb mlX (xLay, I, L, R)) (hf : en_fix ml_tb p j = false) (e : en_int ml_tb p j = bif Nat.blt j n then some q else none) (hx : q.1 ≤ x.toInt ∧ x.toInt ≤ q.2) : en_mem ml_tb mlX (xLay, sm_up I p j x, L, R) := ml_we hm (mlX_ok.1 _ (I, L, R) _ _ _ hf hm.2.2.2.2) e hx
theorem ml_ci {S : sm_C} {d : Nat} {c : en_Ct} {vs : List Value} {I : sm_I} {L : sm_L} {R : sm_R} {lo hi : Int} {C : Int32 → sm_I → sm_L → sm_R → Prop} (h : en_hold ml_tb mlX sm_P S c) (hd : c.2.2.2.2.2 ≤ d) (hv : en_pvs c.2.1 vs) (hm : en_mem ml_tb mlX (xLay, I, L, R)) (hp : en_pf c.2.2.1 (xLay, I, L, R)) (hr : c.2.2.2.1 = (0, lo, hi)) (k : ∀ (r : Int32) (I' : sm_I) (L' : sm_L) (R' : sm_R), lo ≤ r.toInt → r.toInt ≤ hi → en_mem ml_tb mlX (xLay, I', L', R') → en_fr c.2.2.2.2.1 (xLay, I, L, R) (xLay, I', L', R') → C r I' L' R') : sm_wp sm_P S d c.1 0 vs [] (xLay, I, L, kM R) (0, 0) (fun z => ∃ (r : Int32) (I2 : sm_I) (L2 : sm_L) (R2 : sm_R), z = (some (.int r), (xLay, I2, L2, kM R2)) ∧ C r I2 L2 R2) := by
  have e0 : kM R = R := ml_R hm
  rw [e0]
  refine sm_wp_mono (h d hd vs _ hv hm hp) (fun z q => ?_)
  obtain ⟨o, lay, I2, L2, R2⟩ := z
  obtain ⟨q1, q2, q3⟩ := q
  obtain rfl : lay = xLay := q2.2.2.2.2.1
  have e : kM R2 = R2 := ml_R q2
  rw [hr] at q1
  have q1 : en_pr (0, lo, hi) o := q1
  cases o with
  | none => have q1 : (0 : Nat) = 9 := q1; omega
  | some v =>
    rcases q1 with q1 | ⟨q1, -⟩
    · cases v with
      | int r => exact ⟨r, I2, L2, R2, by rw [e], k r I2 L2 R2 q1.2.1 q1.2.2 q2 q3⟩
      | long _ => have q1 : (0 : Nat) = 5 := q1; omega
      | null => have q1 : (0 : Nat) = 1 := q1; omega
      | ref p => have q1 : (0 : Nat) = 2 := q1.1; omega
      | float _ => exact q1.elim
      | double _ => exact q1.elim
      | retAddr _ => exact q1.elim
    · have q1 : (0 : Nat) = 3 := q1
      omega
theorem ml_cv {S : sm_C} {d : Nat} {c : en_Ct} {vs : List Value} {I : sm_I} {L : sm_L} {R : sm_R} {C : sm_I → sm_L → sm_R → Prop} (h : en_hold ml_tb mlX sm_P S c) (hd : c.2.2.2.2.2 ≤ d) (hv : en_pvs c.2.1 vs) (hm : en_mem ml_tb mlX (xLay, I, L, R)) (hp : en_pf c.2.2.1 (xLay, I, L, R)) (hr : c.2.2.2.1 = (9, 0, 0)) (k : ∀ (I' : sm_I) (L' : sm_L) (R' : sm_R), en_mem ml_tb mlX (xLay, I', L', R') → en_fr c.2.2.2.2.1 (xLay, I, L, R) (xLay, I', L', R') → C I' L' R') : sm_wp sm_P S d c.1 0 vs [] (xLay, I, L, kM R) (0, 0) (fun z => ∃ (I2 : sm_I) (L2 : sm_L) (R2 : sm_R), z = (none, (xLay, I2, L2, kM R2)) ∧ C I2 L2 R2) := by
  have e0 : kM R = R := ml_R hm
  rw [e0]
  refine sm_wp_mono (h d hd vs _ hv hm hp) (fun z q => ?_)
  obtain ⟨o, lay, I2, L2, R2⟩ := z
  obtain ⟨q1, q2, q3⟩ := q
  obtain rfl : lay = xLay := q2.2.2.2.2.1
  have e : kM R2 = R2 := ml_R q2
  rw [hr] at q1
  have q1 : en_pr (9, 0, 0) o := q1
  cases o with
  | none => exact ⟨I2, L2, R2, by rw [e], k I2 L2 R2 q2 q3⟩
  | some v =>
    rcases q1 with q1 | ⟨q1, -⟩
    · cases v with
      | int r => have q1 : (9 : Nat) = 0 := q1.1; omega
      | long _ => have q1 : (9 : Nat) = 5 := q1; omega
      | null => have q1 : (9 : Nat) = 1 := q1; omega
      | ref p => have q1 : (9 : Nat) = 2 := q1.1; omega
      | float _ => exact q1.elim
      | double _ => exact q1.elim
      | retAddr _ => exact q1.elim
    · have q1 : (9 : Nat) = 3 := q1
      omega
/-- a method by hand: its contract from what is shown in a world of the invariant -/
theorem ml_top {S : sm_C} {d f : Nat} {vs : List Value} {t : en_Fd} {W : en_W} {w : sm_W} (hm : en_mem ml_tb mlX w) (h : ∀ (I : sm_I) (L : sm_L) (R : sm_R), w = (xLay, I, L, R) → en_mem ml_tb mlX (xLay, I, L, R) → sm_wp sm_P S d f 0 vs [] (xLay, I, L, kM R) (0, 0) (fun z => ∃ (o : Option Value) (I2 : sm_I) (L2 : sm_L) (R2 : sm_R), z = (o, (xLay, I2, L2, kM R2)) ∧ en_pr t o ∧ en_mem ml_tb mlX (xLay, I2, L2, R2) ∧ en_fr W (xLay, I, L, R) (xLay, I2, L2, R2))) : sm_wp sm_P S d f 0 vs [] w (0, 0) (fun z => en_pr t z.1 ∧ en_mem ml_tb mlX z.2 ∧ en_fr W w z.2) := by
  obtain ⟨lay, I, L, R⟩ := w
  obtain rfl : lay = xLay := hm.2.2.2.2.1
  have e : kM R = R := ml_R hm
  have q := h I L R rfl hm
  rw [e] at q
  refine sm_wp_mono q (fun z q => ?_)
  obtain ⟨o, I2, L2, R2, rfl, q1, q2, q3⟩ := q
  have e2 : kM R2 = R2 := ml_R q2
  rw [e2]
  exact ⟨q1, q2, q3⟩
theorem ml_i3 {x : Int32} (h0 : 0 ≤ x.toInt) (h3 : x.toInt ≤ 3) : x = 0 ∨ x = 1 ∨ x = 2 ∨ x = 3 := by
  have t0 : (0 : Int32).toInt = 0 := by decide
  have t1 : (1 : Int32).toInt = 1 := by decide
  have t2 : (2 : Int32).toInt = 2 := by decide
  have t3 : (3 : Int32).toInt = 3 := by decide
  rcases (by omega : x.toInt = 0 ∨ x.toInt = 1 ∨ x.toInt = 2 ∨ x.toInt = 3) with e | e | e | e
  · exact Or.inl (en_ofI (by rw [e, t0]))
  · exact Or.inr (Or.inl (en_ofI (by rw [e, t1])))
  · exact Or.inr (Or.inr (Or.inl (en_ofI (by rw [e, t2]))))
  · exact Or.inr (Or.inr (Or.inr (en_ofI (by rw [e, t3]))))
theorem ml_b3 {x : Int32} (h0 : 0 ≤ x.toInt) (h3 : x.toInt ≤ 3) : 0 ≤ (vp_nar .byte (x.toInt8.toInt32)).toInt ∧ (vp_nar .byte (x.toInt8.toInt32)).toInt ≤ 3 := by
  rcases ml_i3 h0 h3 with e | e | e | e <;> subst e <;> decide
theorem ml_ad {x y : Int32} {a b : Int} (hx : x.toInt = a) (hy : y.toInt = b) (h1 : -2147483648 ≤ a + b) (h2 : a + b ≤ 2147483647) : (x + y).toInt = a + b := by rw [kl_add (by omega) (by omega), hx, hy]
theorem ml_mu {x y : Int32} {a b : Int} (hx : x.toInt = a) (hy : y.toInt = b) (h1 : -2147483648 ≤ a * b) (h2 : a * b ≤ 2147483647) : (x * y).toInt = a * b := by rw [kl_mul (by rw [hx, hy]; exact h1) (by rw [hx, hy]; exact h2), hx, hy]
theorem ml_in1 {x : Int32} (h : x.toInt ≤ 2147483646) : (x + 1).toInt = x.toInt + 1 := by
  have r := en_crange (x := x)
  rw [kl_add (by rw [kl_1]; omega) (by rw [kl_1]; omega), kl_1]
theorem ml_de1 {x : Int32} (h : -2147483647 ≤ x.toInt) : (x + (-1 : Int32)).toInt = x.toInt - 1 := by
  have r := en_crange (x := x)
  have m : (-1 : Int32).toInt = -1 := by decide
  rw [kl_add (by rw [m]; omega) (by rw [m]; omega), m]; omega
