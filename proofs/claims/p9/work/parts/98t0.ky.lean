/-! the class's invariant with what was gone through; what may not be written beside isGoneThrough -/
def kEX : List (Nat × List Nat) := [(0, [9, 12]), (74, [4, 11, 13, 14, 15]), (80, []), (46, []), (47, []), (48, []), (37, []), (41, []), (42, []), (43, []), (44, []), (12, []), (13, []), (14, []), (15, []), (16, []), (17, []), (18, []), (19, []), (20, []), (21, []), (22, []), (23, []), (24, []), (25, []), (26, []), (27, []), (28, []), (29, []), (30, []), (31, []), (32, []), (33, []), (34, []), (35, []), (36, []), (49, []), (50, []), (51, []), (52, []), (53, []), (54, []), (55, []), (56, []), (57, []), (58, []), (59, []), (60, []), (61, []), (62, []), (63, []), (64, []), (65, []), (66, []), (67, []), (68, []), (69, []), (70, []), (71, []), (72, []), (73, [])]
def kl_tb2 : en_Tb := (kl_tb.1, kl_tb.2.1, kEX ++ kl_tb.2.2)
def GC (qt : Nat) (I : sm_I) (L : sm_L) (R : sm_R) : Prop := I 0 12 = 0 ∨ (R 74 4 = some qt ∧ kall qt (kys qt I) (KF qt I) I L)
def GK (I : sm_I) (L : sm_L) (R : sm_R) : Prop := ∃ qt, (qt = 12 ∨ qt = 49) ∧ R 0 9 = some qt ∧ kW qt I ∧ GC qt I L R
def klY (w : sm_W) : Prop := klX w ∧ GK w.2.1 w.2.2.1 w.2.2.2
theorem kall_cg {Q : Nat} {ys : List Nat} {F : ss} {I J : sm_I} {L L' : sm_L} (h : ∀ p j, (p = 74 ∧ (j = 11 ∨ j = 13 ∨ j = 14 ∨ j = 15)) ∨ p = 80 ∨ p = 46 ∨ p = 47 → J p j = I p j) (hL : ∀ j, L' 48 j = L 48 j) (k : kall Q ys F I L) : kall Q ys F J L' := by
  obtain ⟨⟨k1, k2⟩, ⟨k3, k4, k5⟩, k6, k7⟩ := k
  refine ⟨⟨by rw [h 74 11 (by omega)]; exact k1, fun k hk => by rw [h (74 + 6) k (by omega)]; exact k2 k hk⟩, ⟨by rw [h 74 13 (by omega)]; exact k3, by rw [h 74 14 (by omega)]; exact k4, by rw [h 74 15 (by omega)]; exact k5⟩, fun i hi h1 => by rw [h 46 i (by omega)]; exact k6 i hi h1, fun w hw => by rw [h 47 w (by omega), hL]; exact k7 w hw⟩
theorem kW_cg {Q : Nat} {I J : sm_I} (hQ : Q = 12 ∨ Q = 49) (h : ∀ p j, (Q ≤ p ∧ p < Q + 25) ∨ p = 37 ∨ (41 ≤ p ∧ p ≤ 44) → J p j = I p j) (k : kW Q I) : kW Q J := by
  have t := kst_t hQ h
  have t' : ∀ p j, (Q ≤ p ∧ p < Q + 25) ∨ p = 37 ∨ (41 ≤ p ∧ p ≤ 44) → J p j = I p j := h
  obtain ⟨k1, k2, k3, k4, k5, k6, k7⟩ := k
  unfold kW
  rw [h Q 2 (by omega), h Q 3 (by omega), h Q 5 (by omega), h 37 1 (by omega)]
  refine ⟨k1, k2, k3, k4, fun k hk => ?_, fun k hk => ?_, fun s hs => k_iok t (k7 s hs)⟩
  · have a := k5 k hk
    unfold kmok at a ⊢
    rw [h 41 k (by omega), h 42 k (by omega), h 43 k (by omega), h 44 k (by omega)]; exact a
  · have a := k6 k hk
    unfold kopk at a ⊢
    rw [h (Q + 6) k (by omega), h (Q + 7) k (by omega), h (Q + 8) k (by omega)]; exact a
theorem GK_cg {I J : sm_I} {L L' : sm_L} {R R' : sm_R} (h : ∀ p j, (12 ≤ p ∧ p < 37) ∨ (49 ≤ p ∧ p < 74) ∨ p = 37 ∨ (41 ≤ p ∧ p ≤ 44) ∨ (p = 74 ∧ (j = 11 ∨ j = 13 ∨ j = 14 ∨ j = 15)) ∨ p = 80 ∨ p = 46 ∨ p = 47 ∨ (p = 0 ∧ j = 12) → J p j = I p j) (hL : ∀ j, L' 48 j = L 48 j) (r1 : R' 0 9 = R 0 9) (r2 : R' 74 4 = R 74 4) (k : GK I L R) : GK J L' R' := by
  obtain ⟨qt, hq, k1, k2, k3⟩ := k
  have t : ∀ p j, (qt ≤ p ∧ p < qt + 25) ∨ p = 37 ∨ (41 ≤ p ∧ p ≤ 44) → J p j = I p j := fun p j q => h p j (by omega)
  refine ⟨qt, hq, r1.trans k1, kW_cg hq t k2, ?_⟩
  rcases k3 with e | ⟨e, k3⟩
  · exact Or.inl (by rw [h 0 12 (by omega)]; exact e)
  · refine Or.inr ⟨r2.trans e, ?_⟩
    rw [kys_cg t, KF_cg hq t]
    exact kall_cg (fun p j q => h p j (by omega)) hL k3
theorem kEX_a : ∀ a, a < 81 → ((12 ≤ a ∧ a < 37) ∨ (49 ≤ a ∧ a < 74) ∨ a = 37 ∨ (41 ≤ a ∧ a ≤ 44) ∨ a = 80 ∨ a = 46 ∨ a = 47 ∨ a = 48) → kEX.any (fun q => Nat.beq q.1 a && q.2.isEmpty) = true := by decide +kernel
theorem kEX_b : ∀ b, b < 16 → (b = 11 ∨ b = 13 ∨ b = 14 ∨ b = 15 ∨ b = 4) → en_wok kEX 74 b = true := by decide +kernel
theorem kEX_ok {a b : Nat} (h : (12 ≤ a ∧ a < 37) ∨ (49 ≤ a ∧ a < 74) ∨ a = 37 ∨ (41 ≤ a ∧ a ≤ 44) ∨ (a = 74 ∧ (b = 11 ∨ b = 13 ∨ b = 14 ∨ b = 15 ∨ b = 4)) ∨ a = 80 ∨ a = 46 ∨ a = 47 ∨ a = 48 ∨ (a = 0 ∧ (b = 12 ∨ b = 9))) : en_wok kEX a b = true := by
  by_cases c : a = 74
  · subst c
    exact kEX_b b (by omega) (by omega)
  by_cases c0 : a = 0
  · subst c0
    have : b = 12 ∨ b = 9 := by omega
    rcases this with e | e <;> subst e <;> decide +kernel
  obtain ⟨q, q1, q2⟩ := List.any_eq_true.mp (kEX_a a (by omega) (by omega))
  obtain ⟨q2, q3⟩ := Bool.and_eq_true_iff.mp q2
  refine List.any_eq_true.mpr ⟨q, q1, Bool.and_eq_true_iff.mpr ⟨q2, ?_⟩⟩
  have e : q.2 = [] := List.isEmpty_iff.mp q3
  rw [e]
theorem kEX_no {p j : Nat} (h : en_fix kl_tb2 p j = false) : en_wok kEX p j = false ∧ en_fix kl_tb p j = false := by
  have h : (kEX ++ kl_tb.2.2).any (fun q => Nat.beq q.1 p && (match q.2 with
    | [] => true
    | l => l.any (fun i => Nat.beq i j))) = false := h
  rw [List.any_append] at h
  exact Bool.or_eq_false_iff.mp h
theorem kEX_ne {p j a b : Nat} (h : en_wok kEX p j = false) (g : en_wok kEX a b = true) : ¬ (a = p ∧ b = j) := by
  rintro ⟨e1, e2⟩
  subst e1
  subst e2
  rw [h] at g
  cases g
theorem klY_ok : en_Xok kl_tb2 klY := by
  refine ⟨fun lay m p j x h hX => ?_, fun lay m p j r h hX => ?_, fun lay m p j y h hX => ?_⟩
  · obtain ⟨h1, h2⟩ := kEX_no h
    refine ⟨klX_ok.1 lay m p j x h2 hX.1, GK_cg (I := m.1) (L := m.2.1) (R := m.2.2) (fun a b q => en_up_ne _ _ _ _ (kEX_ne h1 (kEX_ok (by omega)))) (fun _ => rfl) rfl rfl hX.2⟩
  · obtain ⟨h1, h2⟩ := kEX_no h
    refine ⟨klX_ok.2.1 lay m p j r h2 hX.1, GK_cg (I := m.1) (L := m.2.1) (R := m.2.2) (fun a b q => rfl) (fun _ => rfl) (en_up_ne _ _ _ _ (kEX_ne h1 (kEX_ok (by omega)))) (en_up_ne _ _ _ _ (kEX_ne h1 (kEX_ok (by omega)))) hX.2⟩
  · obtain ⟨h1, h2⟩ := kEX_no h
    refine ⟨klX_ok.2.2 lay m p j y h2 hX.1, GK_cg (I := m.1) (L := m.2.1) (R := m.2.2) (fun a b q => rfl) (fun i => en_up_ne _ _ _ _ (kEX_ne h1 (kEX_ok (by omega)))) rfl rfl hX.2⟩
theorem ky_dn {w : sm_W} (h : en_mem kl_tb2 klY w) : en_mem kl_tb klX w := ⟨h.1, h.2.1, h.2.2.1, h.2.2.2.1, h.2.2.2.2.1⟩
theorem ky_gk {w : sm_W} (h : en_mem kl_tb2 klY w) : GK w.2.1 w.2.2.1 w.2.2.2 := h.2.2.2.2.2
theorem ky_up {w : sm_W} (h : en_mem kl_tb klX w) (g : GK w.2.1 w.2.2.1 w.2.2.2) : en_mem kl_tb2 klY w := ⟨h.1, h.2.1, h.2.2.1, h.2.2.2.1, h.2.2.2.2, g⟩
/-- a contract by hand that writes none of it -/
def kEX_d (W : en_W) : Bool := W.all (fun q => !(kEX.any (fun e => Nat.beq e.1 q.1)))
theorem kEX_w {W : en_W} (h : kEX_d W = true) {a b : Nat} (g : en_wok kEX a b = true) : en_wok W a b = false := by
  cases c : en_wok W a b with
  | false => rfl
  | true =>
    obtain ⟨q, q1, q2⟩ := List.any_eq_true.mp c
    have e : q.1 = a := Nat.eq_of_beq_eq_true (Bool.and_eq_true_iff.mp q2).1
    have d := List.all_eq_true.mp h q q1
    obtain ⟨r, r1, r2⟩ := List.any_eq_true.mp g
    have e2 : r.1 = a := Nat.eq_of_beq_eq_true (Bool.and_eq_true_iff.mp r2).1
    have : kEX.any (fun e => Nat.beq e.1 q.1) = true := List.any_eq_true.mpr ⟨r, r1, by rw [e, e2]; exact Nat.beq_refl a⟩
    rw [this] at d
    cases d
theorem ky_lift {P : Nat → sm_M} {Sc : sm_C} {c : en_Ct} (h : en_hold kl_tb klX P Sc c) (hd : kEX_d c.2.2.2.2.1 = true) (hL : ∀ (d : Nat), c.2.2.2.2.2 ≤ d → ∀ (vs : List Value) (w : sm_W), en_pvs c.2.1 vs → en_mem kl_tb klX w → sm_wp P Sc d c.1 0 vs [] w (0, 0) (fun z => z.2.2.2.1 = w.2.2.1)) : en_hold kl_tb2 klY P Sc c := by
  intro d hdd vs w hv hm hp
  have m := ky_dn hm
  refine sm_wp_mono (sm_wp_and (h d hdd vs w hv m hp) (hL d hdd vs w hv m)) (fun z q => ?_)
  obtain ⟨⟨q1, q2, q3⟩, q4⟩ := q
  refine ⟨q1, ky_up q2 (GK_cg (fun a b k => (q3.2 a b (kEX_w hd (kEX_ok (by omega)))).1) (fun j => by rw [q4]) (q3.2 0 9 (kEX_w hd (kEX_ok (by omega)))).2 (q3.2 74 4 (kEX_w hd (kEX_ok (by omega)))).2 (ky_gk hm)), q3⟩
