/-! the reference's invariant with what was gone through; what may not be written beside goesAll -/
def mEX : List (Nat × List Nat) := [(107, [18, 46, 54, 70, 71, 72, 73]), (118, []), (119, []), (120, []), (121, []), (122, []), (123, []), (124, []), (125, []), (126, []), (127, []), (128, []), (129, []), (130, []), (131, []), (132, []), (133, []), (134, []), (135, []), (136, []), (137, []), (139, []), (140, []), (141, []), (142, []), (144, []), (145, []), (146, []), (147, []), (153, []), (154, []), (155, []), (156, []), (48, [])]
def ml_tb2 : en_Tb := (ml_tb.1, ml_tb.2.1, mEX ++ ml_tb.2.2)
def mlc_16b : en_Ct := (186, [(2, 107, 0), (0, 0, 0)], [], (0, 0, 1000), [(107, [52, 63, 64]), (143, []), (149, []), (150, []), (153, []), (154, []), (155, []), (156, [])], 7)
def GR (l : Nat) (I : sm_I) : Prop := I 107 70 = 0 ∨ gor (rxs I l) (RF I l) I
def GM (I : sm_I) : Prop := ∃ l, rwf I l ∧ GR l I
theorem rwf_cg {I J : sm_I} {l : Nat} (h : ∀ p j, (p = 107 ∧ (j = 18 ∨ j = 46 ∨ j = 54)) ∨ ((118 ≤ p ∧ p ≤ 142) ∧ p ≠ 138) ∨ (144 ≤ p ∧ p ≤ 147) → J p j = I p j) (k : rwf I l) : rwf J l := by
  obtain ⟨⟨w1, w2⟩, w3, w4, w5, w6, w7, w8, w9, w10, w11⟩ := k
  have nv := kl_nat w9.1
  have ns := kl_nat w8.1
  have tI : tfr I (fun p j => if p = 107 ∧ (j = 53 ∨ j = 68) then I p j else J p j) := fun p j q => by
    by_cases c : p = 107 ∧ (j = 53 ∨ j = 68)
    · show (if p = 107 ∧ (j = 53 ∨ j = 68) then I p j else J p j) = I p j
      rw [if_pos c]
    · show (if p = 107 ∧ (j = 53 ∨ j = 68) then I p j else J p j) = I p j
      rw [if_neg c]; exact h p j (by omega)
  have sk : ∀ n p, sspk I n p → sspk J n p := fun n p k => by
    unfold sspk at k ⊢
    rw [h 130 p (by omega), h 131 p (by omega), h 132 p (by omega), h 133 p (by omega)]; exact k
  unfold rwf
  rw [h 107 18 (by omega), h 122 l (by omega), h 134 l (by omega), h 107 54 (by omega), h 125 l (by omega), h 107 46 (by omega)]
  refine ⟨⟨w1, w2⟩, w3, w4, fun k hk => sk _ _ (w5 k hk), w6, fun k hk => ?_, w8, w9, fun j hj => by rw [h 128 j (by omega)]; exact w10 j hj, fun s hs => ?_⟩
  · have a := w7 k hk
    unfold mook at a ⊢
    rw [h 144 k (by omega), h 145 k (by omega), h 146 k (by omega), h 147 k (by omega)]; exact a
  · exact t_iok tI (by omega) (w11 s hs)
theorem gor_cg {xs : List Nat} {F : ss} {I J : sm_I} (h : ∀ p j, (p = 107 ∧ (j = 71 ∨ j = 72 ∨ j = 73)) ∨ (153 ≤ p ∧ p ≤ 156) → J p j = I p j) (k : gor xs F I) : gor xs F J := by
  obtain ⟨k1, k2, k3, k4, k5⟩ := k
  refine ⟨by rw [h 107 71 (by omega)]; exact k1, by rw [h 107 72 (by omega)]; exact k2, by rw [h 107 73 (by omega)]; exact k3, fun i hi h1 => by rw [h 154 i (by omega), h 155 i (by omega), h 156 i (by omega)]; exact k4 i hi h1, fun w i hw hi => by rw [h 153 _ (by omega)]; exact k5 w i hw hi⟩
theorem GM_cg {I J : sm_I} (h : ∀ p j, (p = 107 ∧ (j = 18 ∨ j = 46 ∨ j = 54 ∨ j = 70 ∨ j = 71 ∨ j = 72 ∨ j = 73)) ∨ ((118 ≤ p ∧ p ≤ 142) ∧ p ≠ 138) ∨ (144 ≤ p ∧ p ≤ 147) ∨ (153 ≤ p ∧ p ≤ 156) → J p j = I p j) (k : GM I) : GM J := by
  obtain ⟨l, k1, k2⟩ := k
  have t : ∀ p j, (p = 107 ∧ (j = 18 ∨ j = 46 ∨ j = 54)) ∨ ((118 ≤ p ∧ p ≤ 142) ∧ p ≠ 138) ∨ (144 ≤ p ∧ p ≤ 147) → J p j = I p j := fun p j q => h p j (by omega)
  refine ⟨l, rwf_cg t k1, ?_⟩
  rcases k2 with e | k2
  · exact Or.inl (by rw [h 107 70 (by omega)]; exact e)
  · right
    rw [rxs_cg t, RF_cg k1.2.2.2.2.2.2.1 k1.2.2.2.2.2.2.2.1 t]
    exact gor_cg (fun p j q => h p j (by omega)) k2
def mlY (c48 : Nat → Int64) (w : sm_W) : Prop := w.1 = xLay ∧ (∀ j : Nat, j < 70 → (w.2.1 148 j).toInt ≤ 54 ∨ 60 ≤ (w.2.1 148 j).toInt) ∧ (∀ l : Nat, (l : Int) = (w.2.1 107 18).toInt → mlV w.2.1 l) ∧ mlP w.2.1 ∧ mlN w.2.1 ∧ (pk_ok w.2.2.1 ∧ GM w.2.1 ∧ ∀ j, w.2.2.1 48 j = c48 j)
theorem mlY_X {c48 : Nat → Int64} {w : sm_W} (h : mlY c48 w) : mlX w := ⟨h.1, h.2.1, h.2.2.1, h.2.2.2.1, h.2.2.2.2.1, h.2.2.2.2.2.1⟩
theorem mlX_Y {c48 : Nat → Int64} {w : sm_W} (h : mlX w) (g : GM w.2.1) (z : ∀ j, w.2.2.1 48 j = c48 j) : mlY c48 w := ⟨h.1, h.2.1, h.2.2.1, h.2.2.2.1, h.2.2.2.2.1, h.2.2.2.2.2, g, z⟩
theorem my_dn {c48 : Nat → Int64} {w : sm_W} (h : en_mem ml_tb2 (mlY c48) w) : en_mem ml_tb mlX w := ⟨h.1, h.2.1, h.2.2.1, h.2.2.2.1, mlY_X h.2.2.2.2⟩
theorem my_gm {c48 : Nat → Int64} {w : sm_W} (h : en_mem ml_tb2 (mlY c48) w) : GM w.2.1 := h.2.2.2.2.2.2.2.2.2.2.1
theorem my_48 {c48 : Nat → Int64} {w : sm_W} (h : en_mem ml_tb2 (mlY c48) w) : ∀ j, w.2.2.1 48 j = c48 j := h.2.2.2.2.2.2.2.2.2.2.2
theorem my_up {c48 : Nat → Int64} {w : sm_W} (h : en_mem ml_tb mlX w) (g : GM w.2.1) (z : ∀ j, w.2.2.1 48 j = c48 j) : en_mem ml_tb2 (mlY c48) w := ⟨h.1, h.2.1, h.2.2.1, h.2.2.2.1, mlX_Y h.2.2.2.2 g z⟩
theorem mEX_a : ∀ a, a < 157 → (((118 ≤ a ∧ a ≤ 142) ∧ a ≠ 138) ∨ (144 ≤ a ∧ a ≤ 147) ∨ (153 ≤ a ∧ a ≤ 156)) → mEX.any (fun q => Nat.beq q.1 a && q.2.isEmpty) = true := by decide +kernel
theorem mEX_b : ∀ b, b < 74 → (b = 18 ∨ b = 46 ∨ b = 54 ∨ b = 70 ∨ b = 71 ∨ b = 72 ∨ b = 73) → en_wok mEX 107 b = true := by decide +kernel
theorem mEX_ok {a b : Nat} (h : (a = 107 ∧ (b = 18 ∨ b = 46 ∨ b = 54 ∨ b = 70 ∨ b = 71 ∨ b = 72 ∨ b = 73)) ∨ ((118 ≤ a ∧ a ≤ 142) ∧ a ≠ 138) ∨ (144 ≤ a ∧ a ≤ 147) ∨ (153 ≤ a ∧ a ≤ 156)) : en_wok mEX a b = true := by
  by_cases c : a = 107
  · subst c
    exact mEX_b b (by omega) (by omega)
  obtain ⟨q, q1, q2⟩ := List.any_eq_true.mp (mEX_a a (by omega) (by omega))
  obtain ⟨q2, q3⟩ := Bool.and_eq_true_iff.mp q2
  refine List.any_eq_true.mpr ⟨q, q1, Bool.and_eq_true_iff.mpr ⟨q2, ?_⟩⟩
  have e : q.2 = [] := List.isEmpty_iff.mp q3
  rw [e]
theorem mEX_no {p j : Nat} (h : en_fix ml_tb2 p j = false) : en_wok mEX p j = false ∧ en_fix ml_tb p j = false := by
  have h : (mEX ++ ml_tb.2.2).any (fun q => Nat.beq q.1 p && (match q.2 with
    | [] => true
    | l => l.any (fun i => Nat.beq i j))) = false := h
  rw [List.any_append] at h
  exact Bool.or_eq_false_iff.mp h
theorem mEX_ne {p j a b : Nat} (h : en_wok mEX p j = false) (g : en_wok mEX a b = true) : ¬ (a = p ∧ b = j) := by
  rintro ⟨e1, e2⟩
  subst e1
  subst e2
  rw [h] at g
  cases g
theorem mEX_48 (j : Nat) : en_wok mEX 48 j = true := rfl
theorem mlY_ok {c48 : Nat → Int64} : en_Xok ml_tb2 (mlY c48) := by
  refine ⟨fun lay m p j x h hX => ?_, fun lay m p j r h hX => ?_, fun lay m p j y h hX => ?_⟩
  · obtain ⟨h1, h2⟩ := mEX_no h
    exact mlX_Y (mlX_ok.1 lay m p j x h2 (mlY_X hX)) (GM_cg (I := m.1) (fun a b q => en_up_ne _ _ _ _ (mEX_ne h1 (mEX_ok q))) hX.2.2.2.2.2.2.1) hX.2.2.2.2.2.2.2
  · obtain ⟨h1, h2⟩ := mEX_no h
    exact mlX_Y (mlX_ok.2.1 lay m p j r h2 (mlY_X hX)) hX.2.2.2.2.2.2.1 hX.2.2.2.2.2.2.2
  · obtain ⟨h1, h2⟩ := mEX_no h
    exact mlX_Y (mlX_ok.2.2 lay m p j y h2 (mlY_X hX)) hX.2.2.2.2.2.2.1 (fun i => (en_up_ne _ _ _ _ (mEX_ne h1 (mEX_48 i))).trans (hX.2.2.2.2.2.2.2 i))
/-- goesAll by contract -/
theorem mly_17 {c48 : Nat → Int64} {Sc : sm_C} : en_hold ml_tb2 (mlY c48) sm_P Sc mlc_17 := by
  intro d hd vs w hv hm hp
  have m := my_dn hm
  have hv0 := hv
  obtain ⟨l, g1, g2⟩ := my_gm hm
  obtain ⟨lay, I, L, R⟩ := w
  obtain ⟨vs1, rfl, hv1⟩ := kl_vr (q := 107) rfl hv
  obtain rfl := kl_v0 hv1
  obtain rfl : lay = xLay := m.2.2.2.2.1
  have hd8 : 8 ≤ d := hd
  obtain ⟨d, rfl⟩ : ∃ d', d = d' + 6 := ⟨d - 6, by omega⟩
  have b69 : 0 ≤ (I 107 69).toInt ∧ (I 107 69).toInt ≤ 1441 := m.2.1 107 69 (0, 1441) (by decide +kernel)
  have A : sm_wp sm_P Sc (d + 6) 135 0 [.ref 107] [] (xLay, I, L, R) (0, 0) (fun z => GM z.2.2.1 ∧ z.2.2.2.1 = L) := by
    have e : kM R = R := ml_R m
    have g := rx_goes (S := Sc) (d := d) (I := I) (L := L) (R := R) (Φ := fun z => GM z.2.2.1 ∧ z.2.2.2.1 = L) g1 b69.1 (by omega) (fun e0 => g2.resolve_left e0) (fun J fr e0 _ go => by
      have t : ∀ p j, (p = 107 ∧ (j = 18 ∨ j = 46 ∨ j = 54)) ∨ ((118 ≤ p ∧ p ≤ 142) ∧ p ≠ 138) ∨ (144 ≤ p ∧ p ≤ 147) → J p j = I p j := fun p j q => fr p j (by omega)
      refine ⟨⟨l, rwf_cg t g1, Or.inr ?_⟩, rfl⟩
      show gor (rxs J l) (RF J l) J
      rw [rxs_cg t, RF_cg g1.2.2.2.2.2.2.1 g1.2.2.2.2.2.2.2.1 t]
      exact go)
    rw [e] at g
    exact g
  exact sm_wp_mono (sm_wp_and (mlh_17 (d + 6) hd _ _ hv0 m hp) A) (fun z q => ⟨q.1.1, my_up q.1.2.1 q.2.1 (fun j => by rw [q.2.2]; exact my_48 hm j), q.1.2.2⟩)
/-! read: the rows of MOVES stay -/
def ml_tb3 : en_Tb := (ml_tb.1, ml_tb.2.1, (48, []) :: ml_tb.2.2)
def mlW (c48 : Nat → Int64) (w : sm_W) : Prop := w.1 = xLay ∧ (∀ j : Nat, j < 70 → (w.2.1 148 j).toInt ≤ 54 ∨ 60 ≤ (w.2.1 148 j).toInt) ∧ (∀ l : Nat, (l : Int) = (w.2.1 107 18).toInt → mlV w.2.1 l) ∧ mlP w.2.1 ∧ mlN w.2.1 ∧ (pk_ok w.2.2.1 ∧ ∀ j, w.2.2.1 48 j = c48 j)
theorem mlW_X {c48 : Nat → Int64} {w : sm_W} (h : mlW c48 w) : mlX w := ⟨h.1, h.2.1, h.2.2.1, h.2.2.2.1, h.2.2.2.2.1, h.2.2.2.2.2.1⟩
theorem mlX_W {c48 : Nat → Int64} {w : sm_W} (h : mlX w) (z : ∀ j, w.2.2.1 48 j = c48 j) : mlW c48 w := ⟨h.1, h.2.1, h.2.2.1, h.2.2.2.1, h.2.2.2.2.1, h.2.2.2.2.2, z⟩
theorem mlW_no {p j : Nat} (h : en_fix ml_tb3 p j = false) : p ≠ 48 ∧ en_fix ml_tb p j = false := by
  have h : (Nat.beq 48 p && true || en_wok ml_tb.2.2 p j) = false := h
  obtain ⟨h1, h2⟩ := Bool.or_eq_false_iff.mp h
  refine ⟨fun e => ?_, h2⟩
  subst e
  exact absurd h1 (by decide)
theorem mlW_ok {c48 : Nat → Int64} : en_Xok ml_tb3 (mlW c48) := by
  refine ⟨fun lay m p j x h hX => mlX_W (mlX_ok.1 lay m p j x (mlW_no h).2 (mlW_X hX)) hX.2.2.2.2.2.2, fun lay m p j r h hX => mlX_W (mlX_ok.2.1 lay m p j r (mlW_no h).2 (mlW_X hX)) hX.2.2.2.2.2.2, fun lay m p j y h hX => mlX_W (mlX_ok.2.2 lay m p j y (mlW_no h).2 (mlW_X hX)) (fun i => ?_)⟩
  have n := (mlW_no h).1
  exact (en_up_ne _ _ _ _ (fun q => n q.1.symm)).trans (hX.2.2.2.2.2.2 i)
