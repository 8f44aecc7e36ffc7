section
/-! places in a table of the net -/
theorem kl_rw2 {b x N : Int32} {n : Nat} (b0 : 0 ≤ b.toInt) (b1 : b.toInt + N.toInt * N.toInt ≤ n) (hn : n ≤ 100000) (x0 : 0 ≤ x.toInt) (x1 : x.toInt < N.toInt) : (b + x * N).toInt = b.toInt + x.toInt * N.toInt ∧ 0 ≤ (b + x * N).toInt ∧ (b + x * N).toInt + N.toInt ≤ n := by
  have r := kl_row x0 x1
  have e1 : (x * N).toInt = x.toInt * N.toInt := kl_mul (by omega) (by omega)
  have e2 : (b + x * N).toInt = b.toInt + x.toInt * N.toInt := by rw [kl_add (by rw [e1]; omega) (by rw [e1]; omega), e1]
  omega
theorem kl_ix2 {r y N : Int32} {n : Nat} (r0 : 0 ≤ r.toInt) (r1 : r.toInt + N.toInt ≤ n) (hn : n ≤ 100000) (y0 : 0 ≤ y.toInt) (y1 : y.toInt < N.toInt) : (r + y).toInt = r.toInt + y.toInt ∧ vp_in (r + y) n := by
  have e : (r + y).toInt = r.toInt + y.toInt := kl_add (by omega) (by omega)
  exact ⟨e, kl_in (by omega) (by omega)⟩
theorem kl_inc {x N : Int32} (h0 : 0 ≤ x.toInt) (h1 : x.toInt < N.toInt) : (x + 1).toInt = x.toInt + 1 := by
  have := @en_crange N
  rw [kl_add (by rw [kl_1]; omega) (by rw [kl_1]; omega), kl_1]
theorem kl_nle {x y : Int32} (h : ¬ x ≤ y) : y.toInt < x.toInt := by rw [kl_le] at h; omega
theorem kl_nlt {x y : Int32} (h : ¬ x < y) : y.toInt ≤ x.toInt := by rw [kl_lt] at h; omega
theorem kl_nlt0 {x : Int32} (h : ¬ x < 0) : 0 ≤ x.toInt := by have := kl_nlt h; rw [kl_0] at this; exact this
/-! the net 75 -/
theorem n75_lev {S : sm_C} {d : Nat} {Φ : sm_Z → Prop} {I : sm_I} {L : sm_L} {R : sm_R} {x : Int32} (hn : kl_nb I 75) (hx : x.toInt ≤ 1101) (h : ∀ r : Int32, (r = 0 ∨ (0 ≤ x.toInt ∧ x.toInt * (I 75 5).toInt + (I 75 5).toInt ≤ 7381)) → Φ (some (.int r), (xLay, I, L, kR 75 R))) : sm_wp sm_P S d 249 0 [.ref 75, .int x] [] (xLay, I, L, kR 75 R) (0, 0) Φ := by
  refine k75_hasLevel_0 ⟨fun _ => h 0 (Or.inl rfl), fun h1 => ⟨fun _ => h 0 (Or.inl rfl), fun h2 => h 1 (Or.inr ?_)⟩⟩
  have h1 := kl_nlt0 h1
  have a := kl_nbA hn
  have l := kl_lev (x := x) (A := I 75 5) h1 hx a.1 a.2.1
  have h2 := kl_nlt h2
  rw [l.2.1] at h2
  have e : (Int32.ofNat 7381).toInt = 7381 := by decide
  rw [e] at h2; exact ⟨h1, h2⟩
theorem n75_node {S : sm_C} {d : Nat} {Φ : sm_Z → Prop} {I : sm_I} {L : sm_L} {R : sm_R} {x : Int32} (h : ∀ r : Int32, (r = 0 ∨ (0 ≤ x.toInt ∧ x.toInt < (I 75 4).toInt)) → Φ (some (.int r), (xLay, I, L, kR 75 R))) : sm_wp sm_P S d 250 0 [.ref 75, .int x] [] (xLay, I, L, kR 75 R) (0, 0) Φ := k75_hasNode_0 ⟨fun _ => h 0 (Or.inl rfl), fun h1 => ⟨fun _ => h 0 (Or.inl rfl), fun h2 => h 1 (Or.inr ⟨kl_nlt0 h1, kl_nle h2⟩)⟩⟩
theorem n75_reach {S : sm_C} {d : Nat} {Φ : sm_Z → Prop} {I : sm_I} {L : sm_L} {R : sm_R} {x1 x2 x3 : Int32} (hn : kl_nb I 75) (hx : x1.toInt ≤ 1100) (h : ∀ r : Int32, Φ (some (.int r), (xLay, I, L, kR 75 R))) : sm_wp sm_P S (d + 1) 255 0 [.ref 75, .int x1, .int x2, .int x3] [] (xLay, I, L, kR 75 R) (0, 0) Φ := by
  refine k75_reach_0 (n75_lev hn (by omega) (fun r hr => ⟨r, I, L, rfl, fun _ => h _, fun h1 => n75_node (fun r2 hr2 => ⟨r2, I, L, rfl, fun _ => h _, fun h2 => n75_node (fun r3 hr3 => ⟨r3, I, L, rfl, fun _ => h _, fun h3 => ?_⟩)⟩)⟩))
  obtain ⟨a0, a1⟩ := hr.resolve_left h1
  obtain ⟨b0, b1⟩ := hr2.resolve_left h2
  obtain ⟨c0, c1⟩ := hr3.resolve_left h3
  have q := kl_nbA hn
  have l := kl_lev (x := x1) (A := I 75 5) a0 (by omega) q.1 q.2.1
  have p := kl_pr a0 (show x1.toInt ≤ 1101 by omega) q.1 q.2.1
  have s := kl_rw2 (b := x1 * I 75 5) (x := x2) (N := I 75 4) (n := 7381) (by omega) (by rw [l.1, ← hn.2.2]; exact a1) (by decide) b0 b1
  intro n e
  subst e
  exact ⟨(kl_ix2 s.2.1 s.2.2 (by decide) c0 c1).2, h _⟩
theorem n75_copyUp {S : sm_C} {d : Nat} {Φ : sm_Z → Prop} {I : sm_I} {L : sm_L} {R : sm_R} {x1 : Int32} (hn : kl_nb I 75) (hx : x1.toInt ≤ 1100) (h : ∀ I' : sm_I, kl_only 76 I I' → Φ (none, (xLay, I', L, kR 75 R))) : sm_wp sm_P S (d + 1) 248 0 [.ref 75, .int x1] [] (xLay, I, L, kR 75 R) (0, 0) Φ := by
  have q := kl_nbA hn
  refine k75_copyUp_0 (n75_lev hn (by omega) (fun r hr => ⟨r, I, L, rfl, fun _ => h _ kl_only_rf, fun h1 => ?_⟩))
  obtain ⟨a0, a1⟩ := hr.resolve_left h1
  have l := kl_lev (x := x1) (A := I 75 5) a0 (by omega) q.1 q.2.1
  have p := kl_pr a0 (show x1.toInt ≤ 1101 by omega) q.1 q.2.1
  refine n75_lev hn (by omega) (fun r2 hr2 => ⟨r2, I, L, rfl, fun _ => h _ kl_only_rf, fun h2 => ?_⟩)
  obtain ⟨b0, b1⟩ := hr2.resolve_left h2
  rw [l.2.2, Int.add_mul] at b1
  intro n e
  have e : n.toInt = x1.toInt * (I 75 5).toInt + (I 75 5).toInt := by rw [e]; exact l.2.1
  have f1 := kl_nat (i := x1 * I 75 5) (by omega)
  have f2 := kl_nat (i := n) (by omega)
  have f3 := kl_nat (i := I 75 5) (by omega)
  refine ⟨⟨?_, ?_, ?_, ?_, ?_⟩, fun I8 e8 => ?_⟩
  · rw [kl_lt, kl_0]; omega
  · rw [kl_lt, kl_0]; omega
  · rw [kl_lt, kl_0]; omega
  · omega
  · omega
  · subst e8; exact h _ kl_only_row
theorem n75_row {S : sm_C} {d : Nat} {Φ : sm_Z → Prop} {L : sm_L} {R : sm_R} {x1 x2 x3 : Int32} : ∀ (k : Nat) (I : sm_I) (x4 : Int32), kl_nb I 75 → 0 ≤ x4.toInt → (I 75 4).toInt - x4.toInt ≤ k → 0 ≤ x1.toInt → x1.toInt + (I 75 4).toInt ≤ 7381 → 0 ≤ x3.toInt → x3.toInt + (I 75 4).toInt ≤ 7381 → (∀ I' : sm_I, kl_only 76 I I' → Φ (none, (xLay, I', L, kR 75 R))) → sm_wp sm_P S d 257 1 [.ref 75, .int x1, .int x2, .int x3, .int x4] [] (xLay, I, L, kR 75 R) (0, 0) Φ := by
  intro k
  induction k with
  | zero =>
    intro I x4 hn h0 hk a0 a1 b0 b1 h
    refine k75_tightenRow_1 ⟨fun _ => h _ kl_only_rf, fun h1 => ?_⟩
    have := kl_nle h1
    omega
  | succ k ih =>
    intro I x4 hn h0 hk a0 a1 b0 b1 h
    refine k75_tightenRow_1 ⟨fun _ => h _ kl_only_rf, fun h1 => ?_⟩
    have h1 := kl_nle h1
    have v1 := (kl_ix2 a0 a1 (by decide) h0 h1).2
    have v3 := (kl_ix2 b0 b1 (by decide) h0 h1).2
    have e := kl_inc h0 h1
    refine ⟨v3, fun n _ => ⟨v1, fun _ => ?_, fun _ => ⟨v1, fun I2 e2 => ?_⟩⟩⟩
    · exact ih I (x4 + 1) hn (by omega) (by omega) a0 a1 b0 b1 h
    · have o : kl_only 76 I I2 := by rw [e2]; exact kl_only_up
      have o4 : I2 75 4 = I 75 4 := o 75 4 (by decide)
      exact ih I2 (x4 + 1) (kl_only_nb o (by decide) hn) (by omega) (by rw [o4]; omega) a0 (by rw [o4]; exact a1) b0 (by rw [o4]; exact b1) (fun I' o' => h I' (kl_only_tr o o'))
theorem n75_loop {S : sm_C} {d : Nat} {Φ : sm_Z → Prop} {L : sm_L} {R : sm_R} {x6 x7 x8 x9 x10 : Int32} : ∀ (k : Nat) (I : sm_I) (x11 : Int32), kl_nb I 75 → 0 ≤ x11.toInt → (I 75 4).toInt - x11.toInt ≤ k → 0 ≤ x7.toInt → x7.toInt + (I 75 4).toInt * (I 75 4).toInt ≤ 7381 → 0 ≤ x8.toInt → x8.toInt < (I 75 4).toInt → 0 ≤ x9.toInt → x9.toInt < (I 75 4).toInt → 0 ≤ x10.toInt → x10.toInt + (I 75 4).toInt ≤ 7381 → (∀ (r : Int32) (I' : sm_I), (r = 0 ∨ r = 1) → kl_only 76 I I' → Φ (some (.int r), (xLay, I', L, kR 75 R))) → sm_wp sm_P S (d + 1) 256 21 [.ref 75, .int x6, .int x7, .int x8, .int x9, .int x10, .int x11] [] (xLay, I, L, kR 75 R) (0, 0) Φ := by
  intro k
  induction k with
  | zero =>
    intro I x11 hn h0 hk a0 a1 b0 b1 c0 c1 d0 d1 h
    refine k75_tighten_21 ⟨fun _ => h 1 _ (Or.inr rfl) kl_only_rf, fun h1 => ?_⟩
    have := kl_nle h1
    omega
  | succ k ih =>
    intro I x11 hn h0 hk a0 a1 b0 b1 c0 c1 d0 d1 h
    refine k75_tighten_21 ⟨fun _ => h 1 _ (Or.inr rfl) kl_only_rf, fun h1 => ?_⟩
    have h1 := kl_nle h1
    have s := kl_rw2 (b := x7) (x := x11) (N := I 75 4) (n := 7381) a0 a1 (by decide) h0 h1
    have e := kl_inc h0 h1
    intro n1 e1
    subst e1
    refine ⟨(kl_ix2 s.2.1 s.2.2 (by decide) b0 b1).2, fun n2 _ n3 e3 => ?_⟩
    subst e3
    refine ⟨(kl_ix2 s.2.1 s.2.2 (by decide) c0 c1).2, fun _ => ?_, fun _ => ?_⟩
    · exact ih I (x11 + 1) hn (by omega) (by omega) a0 a1 b0 b1 c0 c1 d0 d1 h
    · refine k75_tightenRow_0 (n75_row (I 75 4).toInt.toNat I 0 hn (by rw [kl_0]; omega) (by rw [kl_0]; omega) s.2.1 s.2.2 d0 d1 (fun I4 o => ⟨I4, L, rfl, ?_⟩))
      have o4 : I4 75 4 = I 75 4 := o 75 4 (by decide)
      exact ih I4 (x11 + 1) (kl_only_nb o (by decide) hn) (by omega) (by rw [o4]; omega) a0 (by rw [o4]; exact a1) b0 (by rw [o4]; exact b1) c0 (by rw [o4]; exact c1) d0 (by rw [o4]; exact d1) (fun r I' hr o' => h r I' hr (kl_only_tr o o'))
theorem n75_tighten {S : sm_C} {d : Nat} {Φ : sm_Z → Prop} {I : sm_I} {L : sm_L} {R : sm_R} {x1 x2 x3 x4 : Int32} (hn : kl_nb I 75) (hw : (I 75 4).toInt ≤ 11) (hs : kl_net I 75 77) (hx : x1.toInt ≤ 1100) (h : ∀ (r : Int32) (I' : sm_I), (r = 0 ∨ r = 1) → kl_only 76 I I' → Φ (some (.int r), (xLay, I', L, kR 75 R))) : sm_wp sm_P S (d + 1) 256 0 [.ref 75, .int x1, .int x2, .int x3, .int x4] [] (xLay, I, L, kR 75 R) (0, 0) Φ := by
  have key : ∀ s0 : Int32, (s0 = 0 ∨ (0 ≤ x1.toInt ∧ x1.toInt * (I 75 5).toInt + (I 75 5).toInt ≤ 7381)) → sm_wp sm_P S (d + 1) 256 4 [.ref 75, .int x1, .int x2, .int x3, .int x4] [.int s0] (xLay, I, L, kR 75 R) (0, 0) Φ := by
    intro s0 h0
    have no : Φ (some (.int (0 : Int32)), (xLay, I, L, kR 75 R)) := h 0 _ (Or.inl rfl) kl_only_rf
    have yes : Φ (some (.int (1 : Int32)), (xLay, I, L, kR 75 R)) := h 1 _ (Or.inr rfl) kl_only_rf
    refine k75_tighten_4 ⟨fun _ => no, fun hs0 => ⟨fun _ => no, fun i0 => ⟨fun _ => no, fun i1 => ⟨fun _ => no, fun j0 => ⟨fun j1 => ⟨fun _ => ⟨fun _ => no, fun _ => yes⟩, fun _ => ?_⟩, fun _ => no⟩⟩⟩⟩⟩
    obtain ⟨a0, a1⟩ := h0.resolve_left hs0
    have i0 := kl_nlt0 i0
    have i1 := kl_nle i1
    have j0 := kl_nlt0 j0
    have j1 := kl_lt.mp j1
    have q := kl_nbA hn
    have l := kl_lev (x := x1) (A := I 75 5) a0 (by omega) q.1 q.2.1
    have p := kl_pr a0 (show x1.toInt ≤ 1101 by omega) q.1 q.2.1
    have vi : vp_in x2 11 := kl_in i0 (by omega)
    have vj : vp_in x3 11 := kl_in j0 (by omega)
    have si := hs.2 x2.toNatClampNeg (by rw [kl_nat i0]; exact i1)
    have sj := hs.2 x3.toNatClampNeg (by rw [kl_nat j0]; exact j1)
    have bb : (x1 * I 75 5).toInt + (I 75 4).toInt * (I 75 4).toInt ≤ ((7381 : Nat) : Int) := by rw [l.1, ← hn.2.2]; exact a1
    have ri := kl_rw2 (b := x1 * I 75 5) (x := I 77 x2.toNatClampNeg) (N := I 75 4) (n := 7381) (by omega) bb (by decide) si.1 si.2
    have rj := kl_rw2 (b := x1 * I 75 5) (x := I 77 x3.toNatClampNeg) (N := I 75 4) (n := 7381) (by omega) bb (by decide) sj.1 sj.2
    refine ⟨vi, vj, fun n1 _ => ⟨vi, vj, fun n2 e2 n3 e3 => ?_⟩⟩
    subst e2; subst e3
    refine ⟨(kl_ix2 rj.2.1 rj.2.2 (by decide) si.1 si.2).2, fun _ n4 e4 => ?_, fun _ => no⟩
    subst e4
    refine ⟨(kl_ix2 ri.2.1 ri.2.2 (by decide) sj.1 sj.2).2, fun _ => ?_, fun _ => yes⟩
    exact n75_loop (I 75 4).toInt.toNat I 0 hn (by rw [kl_0]; omega) (by rw [kl_0]; omega) (by omega) bb si.1 si.2 sj.1 sj.2 rj.2.1 rj.2.2 h
  refine k75_tighten_0 ⟨fun _ => key 0 (Or.inl rfl), fun h1 => ⟨fun _ => key 0 (Or.inl rfl), fun h2 => key 1 (Or.inr ?_)⟩⟩
  have h1 := kl_nlt0 h1
  have a := kl_nbA hn
  have l := kl_lev (x := x1) (A := I 75 5) h1 (by omega) a.1 a.2.1
  have h2 := kl_nlt h2
  rw [l.2.1] at h2
  have e : (Int32.ofNat 7381).toInt = 7381 := by decide
  rw [e] at h2; exact ⟨h1, h2⟩
/-! the net 83 -/
theorem n83_lev {S : sm_C} {d : Nat} {Φ : sm_Z → Prop} {I : sm_I} {L : sm_L} {R : sm_R} {x : Int32} (hn : kl_nb I 83) (hx : x.toInt ≤ 1101) (h : ∀ r : Int32, (r = 0 ∨ (0 ≤ x.toInt ∧ x.toInt * (I 83 5).toInt + (I 83 5).toInt ≤ 6776)) → Φ (some (.int r), (xLay, I, L, kR 83 R))) : sm_wp sm_P S d 249 0 [.ref 83, .int x] [] (xLay, I, L, kR 83 R) (0, 0) Φ := by
  refine k83_hasLevel_0 ⟨fun _ => h 0 (Or.inl rfl), fun h1 => ⟨fun _ => h 0 (Or.inl rfl), fun h2 => h 1 (Or.inr ?_)⟩⟩
  have h1 := kl_nlt0 h1
  have a := kl_nbA hn
  have l := kl_lev (x := x) (A := I 83 5) h1 hx a.1 a.2.1
  have h2 := kl_nlt h2
  rw [l.2.1] at h2
  have e : (Int32.ofNat 6776).toInt = 6776 := by decide
  rw [e] at h2; exact ⟨h1, h2⟩
theorem n83_node {S : sm_C} {d : Nat} {Φ : sm_Z → Prop} {I : sm_I} {L : sm_L} {R : sm_R} {x : Int32} (h : ∀ r : Int32, (r = 0 ∨ (0 ≤ x.toInt ∧ x.toInt < (I 83 4).toInt)) → Φ (some (.int r), (xLay, I, L, kR 83 R))) : sm_wp sm_P S d 250 0 [.ref 83, .int x] [] (xLay, I, L, kR 83 R) (0, 0) Φ := k83_hasNode_0 ⟨fun _ => h 0 (Or.inl rfl), fun h1 => ⟨fun _ => h 0 (Or.inl rfl), fun h2 => h 1 (Or.inr ⟨kl_nlt0 h1, kl_nle h2⟩)⟩⟩
theorem n83_reach {S : sm_C} {d : Nat} {Φ : sm_Z → Prop} {I : sm_I} {L : sm_L} {R : sm_R} {x1 x2 x3 : Int32} (hn : kl_nb I 83) (hx : x1.toInt ≤ 1100) (h : ∀ r : Int32, Φ (some (.int r), (xLay, I, L, kR 83 R))) : sm_wp sm_P S (d + 1) 255 0 [.ref 83, .int x1, .int x2, .int x3] [] (xLay, I, L, kR 83 R) (0, 0) Φ := by
  refine k83_reach_0 (n83_lev hn (by omega) (fun r hr => ⟨r, I, L, rfl, fun _ => h _, fun h1 => n83_node (fun r2 hr2 => ⟨r2, I, L, rfl, fun _ => h _, fun h2 => n83_node (fun r3 hr3 => ⟨r3, I, L, rfl, fun _ => h _, fun h3 => ?_⟩)⟩)⟩))
  obtain ⟨a0, a1⟩ := hr.resolve_left h1
  obtain ⟨b0, b1⟩ := hr2.resolve_left h2
  obtain ⟨c0, c1⟩ := hr3.resolve_left h3
  have q := kl_nbA hn
  have l := kl_lev (x := x1) (A := I 83 5) a0 (by omega) q.1 q.2.1
  have p := kl_pr a0 (show x1.toInt ≤ 1101 by omega) q.1 q.2.1
  have s := kl_rw2 (b := x1 * I 83 5) (x := x2) (N := I 83 4) (n := 6776) (by omega) (by rw [l.1, ← hn.2.2]; exact a1) (by decide) b0 b1
  intro n e
  subst e
  exact ⟨(kl_ix2 s.2.1 s.2.2 (by decide) c0 c1).2, h _⟩
theorem n83_copyUp {S : sm_C} {d : Nat} {Φ : sm_Z → Prop} {I : sm_I} {L : sm_L} {R : sm_R} {x1 : Int32} (hn : kl_nb I 83) (hx : x1.toInt ≤ 1100) (h : ∀ I' : sm_I, kl_only 84 I I' → Φ (none, (xLay, I', L, kR 83 R))) : sm_wp sm_P S (d + 1) 248 0 [.ref 83, .int x1] [] (xLay, I, L, kR 83 R) (0, 0) Φ := by
  have q := kl_nbA hn
  refine k83_copyUp_0 (n83_lev hn (by omega) (fun r hr => ⟨r, I, L, rfl, fun _ => h _ kl_only_rf, fun h1 => ?_⟩))
  obtain ⟨a0, a1⟩ := hr.resolve_left h1
  have l := kl_lev (x := x1) (A := I 83 5) a0 (by omega) q.1 q.2.1
  have p := kl_pr a0 (show x1.toInt ≤ 1101 by omega) q.1 q.2.1
  refine n83_lev hn (by omega) (fun r2 hr2 => ⟨r2, I, L, rfl, fun _ => h _ kl_only_rf, fun h2 => ?_⟩)
  obtain ⟨b0, b1⟩ := hr2.resolve_left h2
  rw [l.2.2, Int.add_mul] at b1
  intro n e
  have e : n.toInt = x1.toInt * (I 83 5).toInt + (I 83 5).toInt := by rw [e]; exact l.2.1
  have f1 := kl_nat (i := x1 * I 83 5) (by omega)
  have f2 := kl_nat (i := n) (by omega)
  have f3 := kl_nat (i := I 83 5) (by omega)
  refine ⟨⟨?_, ?_, ?_, ?_, ?_⟩, fun I8 e8 => ?_⟩
  · rw [kl_lt, kl_0]; omega
  · rw [kl_lt, kl_0]; omega
  · rw [kl_lt, kl_0]; omega
  · omega
  · omega
  · subst e8; exact h _ kl_only_row
theorem n83_row {S : sm_C} {d : Nat} {Φ : sm_Z → Prop} {L : sm_L} {R : sm_R} {x1 x2 x3 : Int32} : ∀ (k : Nat) (I : sm_I) (x4 : Int32), kl_nb I 83 → 0 ≤ x4.toInt → (I 83 4).toInt - x4.toInt ≤ k → 0 ≤ x1.toInt → x1.toInt + (I 83 4).toInt ≤ 6776 → 0 ≤ x3.toInt → x3.toInt + (I 83 4).toInt ≤ 6776 → (∀ I' : sm_I, kl_only 84 I I' → Φ (none, (xLay, I', L, kR 83 R))) → sm_wp sm_P S d 257 1 [.ref 83, .int x1, .int x2, .int x3, .int x4] [] (xLay, I, L, kR 83 R) (0, 0) Φ := by
  intro k
  induction k with
  | zero =>
    intro I x4 hn h0 hk a0 a1 b0 b1 h
    refine k83_tightenRow_1 ⟨fun _ => h _ kl_only_rf, fun h1 => ?_⟩
    have := kl_nle h1
    omega
  | succ k ih =>
    intro I x4 hn h0 hk a0 a1 b0 b1 h
    refine k83_tightenRow_1 ⟨fun _ => h _ kl_only_rf, fun h1 => ?_⟩
    have h1 := kl_nle h1
    have v1 := (kl_ix2 a0 a1 (by decide) h0 h1).2
    have v3 := (kl_ix2 b0 b1 (by decide) h0 h1).2
    have e := kl_inc h0 h1
    refine ⟨v3, fun n _ => ⟨v1, fun _ => ?_, fun _ => ⟨v1, fun I2 e2 => ?_⟩⟩⟩
    · exact ih I (x4 + 1) hn (by omega) (by omega) a0 a1 b0 b1 h
    · have o : kl_only 84 I I2 := by rw [e2]; exact kl_only_up
      have o4 : I2 83 4 = I 83 4 := o 83 4 (by decide)
      exact ih I2 (x4 + 1) (kl_only_nb o (by decide) hn) (by omega) (by rw [o4]; omega) a0 (by rw [o4]; exact a1) b0 (by rw [o4]; exact b1) (fun I' o' => h I' (kl_only_tr o o'))
theorem n83_loop {S : sm_C} {d : Nat} {Φ : sm_Z → Prop} {L : sm_L} {R : sm_R} {x6 x7 x8 x9 x10 : Int32} : ∀ (k : Nat) (I : sm_I) (x11 : Int32), kl_nb I 83 → 0 ≤ x11.toInt → (I 83 4).toInt - x11.toInt ≤ k → 0 ≤ x7.toInt → x7.toInt + (I 83 4).toInt * (I 83 4).toInt ≤ 6776 → 0 ≤ x8.toInt → x8.toInt < (I 83 4).toInt → 0 ≤ x9.toInt → x9.toInt < (I 83 4).toInt → 0 ≤ x10.toInt → x10.toInt + (I 83 4).toInt ≤ 6776 → (∀ (r : Int32) (I' : sm_I), (r = 0 ∨ r = 1) → kl_only 84 I I' → Φ (some (.int r), (xLay, I', L, kR 83 R))) → sm_wp sm_P S (d + 1) 256 21 [.ref 83, .int x6, .int x7, .int x8, .int x9, .int x10, .int x11] [] (xLay, I, L, kR 83 R) (0, 0) Φ := by
  intro k
  induction k with
  | zero =>
    intro I x11 hn h0 hk a0 a1 b0 b1 c0 c1 d0 d1 h
    refine k83_tighten_21 ⟨fun _ => h 1 _ (Or.inr rfl) kl_only_rf, fun h1 => ?_⟩
    have := kl_nle h1
    omega
  | succ k ih =>
    intro I x11 hn h0 hk a0 a1 b0 b1 c0 c1 d0 d1 h
    refine k83_tighten_21 ⟨fun _ => h 1 _ (Or.inr rfl) kl_only_rf, fun h1 => ?_⟩
    have h1 := kl_nle h1
    have s := kl_rw2 (b := x7) (x := x11) (N := I 83 4) (n := 6776) a0 a1 (by decide) h0 h1
    have e := kl_inc h0 h1
    intro n1 e1
    subst e1
    refine ⟨(kl_ix2 s.2.1 s.2.2 (by decide) b0 b1).2, fun n2 _ n3 e3 => ?_⟩
    subst e3
    refine ⟨(kl_ix2 s.2.1 s.2.2 (by decide) c0 c1).2, fun _ => ?_, fun _ => ?_⟩
    · exact ih I (x11 + 1) hn (by omega) (by omega) a0 a1 b0 b1 c0 c1 d0 d1 h
    · refine k83_tightenRow_0 (n83_row (I 83 4).toInt.toNat I 0 hn (by rw [kl_0]; omega) (by rw [kl_0]; omega) s.2.1 s.2.2 d0 d1 (fun I4 o => ⟨I4, L, rfl, ?_⟩))
      have o4 : I4 83 4 = I 83 4 := o 83 4 (by decide)
      exact ih I4 (x11 + 1) (kl_only_nb o (by decide) hn) (by omega) (by rw [o4]; omega) a0 (by rw [o4]; exact a1) b0 (by rw [o4]; exact b1) c0 (by rw [o4]; exact c1) d0 (by rw [o4]; exact d1) (fun r I' hr o' => h r I' hr (kl_only_tr o o'))
theorem n83_tighten {S : sm_C} {d : Nat} {Φ : sm_Z → Prop} {I : sm_I} {L : sm_L} {R : sm_R} {x1 x2 x3 x4 : Int32} (hn : kl_nb I 83) (hw : (I 83 4).toInt ≤ 11) (hs : kl_net I 83 85) (hx : x1.toInt ≤ 1100) (h : ∀ (r : Int32) (I' : sm_I), (r = 0 ∨ r = 1) → kl_only 84 I I' → Φ (some (.int r), (xLay, I', L, kR 83 R))) : sm_wp sm_P S (d + 1) 256 0 [.ref 83, .int x1, .int x2, .int x3, .int x4] [] (xLay, I, L, kR 83 R) (0, 0) Φ := by
  have key : ∀ s0 : Int32, (s0 = 0 ∨ (0 ≤ x1.toInt ∧ x1.toInt * (I 83 5).toInt + (I 83 5).toInt ≤ 6776)) → sm_wp sm_P S (d + 1) 256 4 [.ref 83, .int x1, .int x2, .int x3, .int x4] [.int s0] (xLay, I, L, kR 83 R) (0, 0) Φ := by
    intro s0 h0
    have no : Φ (some (.int (0 : Int32)), (xLay, I, L, kR 83 R)) := h 0 _ (Or.inl rfl) kl_only_rf
    have yes : Φ (some (.int (1 : Int32)), (xLay, I, L, kR 83 R)) := h 1 _ (Or.inr rfl) kl_only_rf
    refine k83_tighten_4 ⟨fun _ => no, fun hs0 => ⟨fun _ => no, fun i0 => ⟨fun _ => no, fun i1 => ⟨fun _ => no, fun j0 => ⟨fun j1 => ⟨fun _ => ⟨fun _ => no, fun _ => yes⟩, fun _ => ?_⟩, fun _ => no⟩⟩⟩⟩⟩
    obtain ⟨a0, a1⟩ := h0.resolve_left hs0
    have i0 := kl_nlt0 i0
    have i1 := kl_nle i1
    have j0 := kl_nlt0 j0
    have j1 := kl_lt.mp j1
    have q := kl_nbA hn
    have l := kl_lev (x := x1) (A := I 83 5) a0 (by omega) q.1 q.2.1
    have p := kl_pr a0 (show x1.toInt ≤ 1101 by omega) q.1 q.2.1
    have vi : vp_in x2 11 := kl_in i0 (by omega)
    have vj : vp_in x3 11 := kl_in j0 (by omega)
    have si := hs.2 x2.toNatClampNeg (by rw [kl_nat i0]; exact i1)
    have sj := hs.2 x3.toNatClampNeg (by rw [kl_nat j0]; exact j1)
    have bb : (x1 * I 83 5).toInt + (I 83 4).toInt * (I 83 4).toInt ≤ ((6776 : Nat) : Int) := by rw [l.1, ← hn.2.2]; exact a1
    have ri := kl_rw2 (b := x1 * I 83 5) (x := I 85 x2.toNatClampNeg) (N := I 83 4) (n := 6776) (by omega) bb (by decide) si.1 si.2
    have rj := kl_rw2 (b := x1 * I 83 5) (x := I 85 x3.toNatClampNeg) (N := I 83 4) (n := 6776) (by omega) bb (by decide) sj.1 sj.2
    refine ⟨vi, vj, fun n1 _ => ⟨vi, vj, fun n2 e2 n3 e3 => ?_⟩⟩
    subst e2; subst e3
    refine ⟨(kl_ix2 rj.2.1 rj.2.2 (by decide) si.1 si.2).2, fun _ n4 e4 => ?_, fun _ => no⟩
    subst e4
    refine ⟨(kl_ix2 ri.2.1 ri.2.2 (by decide) sj.1 sj.2).2, fun _ => ?_, fun _ => yes⟩
    exact n83_loop (I 83 4).toInt.toNat I 0 hn (by rw [kl_0]; omega) (by rw [kl_0]; omega) (by omega) bb si.1 si.2 sj.1 sj.2 rj.2.1 rj.2.2 h
  refine k83_tighten_0 ⟨fun _ => key 0 (Or.inl rfl), fun h1 => ⟨fun _ => key 0 (Or.inl rfl), fun h2 => key 1 (Or.inr ?_)⟩⟩
  have h1 := kl_nlt0 h1
  have a := kl_nbA hn
  have l := kl_lev (x := x1) (A := I 83 5) h1 (by omega) a.1 a.2.1
  have h2 := kl_nlt h2
  rw [l.2.1] at h2
  have e : (Int32.ofNat 6776).toInt = 6776 := by decide
  rw [e] at h2; exact ⟨h1, h2⟩
/-! the net 91 -/
theorem n91_lev {S : sm_C} {d : Nat} {Φ : sm_Z → Prop} {I : sm_I} {L : sm_L} {R : sm_R} {x : Int32} (hn : kl_nb I 91) (hx : x.toInt ≤ 1101) (h : ∀ r : Int32, (r = 0 ∨ (0 ≤ x.toInt ∧ x.toInt * (I 91 5).toInt + (I 91 5).toInt ≤ 9504)) → Φ (some (.int r), (xLay, I, L, kR 91 R))) : sm_wp sm_P S d 249 0 [.ref 91, .int x] [] (xLay, I, L, kR 91 R) (0, 0) Φ := by
  refine k91_hasLevel_0 ⟨fun _ => h 0 (Or.inl rfl), fun h1 => ⟨fun _ => h 0 (Or.inl rfl), fun h2 => h 1 (Or.inr ?_)⟩⟩
  have h1 := kl_nlt0 h1
  have a := kl_nbA hn
  have l := kl_lev (x := x) (A := I 91 5) h1 hx a.1 a.2.1
  have h2 := kl_nlt h2
  rw [l.2.1] at h2
  have e : (Int32.ofNat 9504).toInt = 9504 := by decide
  rw [e] at h2; exact ⟨h1, h2⟩
theorem n91_node {S : sm_C} {d : Nat} {Φ : sm_Z → Prop} {I : sm_I} {L : sm_L} {R : sm_R} {x : Int32} (h : ∀ r : Int32, (r = 0 ∨ (0 ≤ x.toInt ∧ x.toInt < (I 91 4).toInt)) → Φ (some (.int r), (xLay, I, L, kR 91 R))) : sm_wp sm_P S d 250 0 [.ref 91, .int x] [] (xLay, I, L, kR 91 R) (0, 0) Φ := k91_hasNode_0 ⟨fun _ => h 0 (Or.inl rfl), fun h1 => ⟨fun _ => h 0 (Or.inl rfl), fun h2 => h 1 (Or.inr ⟨kl_nlt0 h1, kl_nle h2⟩)⟩⟩
theorem n91_reach {S : sm_C} {d : Nat} {Φ : sm_Z → Prop} {I : sm_I} {L : sm_L} {R : sm_R} {x1 x2 x3 : Int32} (hn : kl_nb I 91) (hx : x1.toInt ≤ 1100) (h : ∀ r : Int32, Φ (some (.int r), (xLay, I, L, kR 91 R))) : sm_wp sm_P S (d + 1) 255 0 [.ref 91, .int x1, .int x2, .int x3] [] (xLay, I, L, kR 91 R) (0, 0) Φ := by
  refine k91_reach_0 (n91_lev hn (by omega) (fun r hr => ⟨r, I, L, rfl, fun _ => h _, fun h1 => n91_node (fun r2 hr2 => ⟨r2, I, L, rfl, fun _ => h _, fun h2 => n91_node (fun r3 hr3 => ⟨r3, I, L, rfl, fun _ => h _, fun h3 => ?_⟩)⟩)⟩))
  obtain ⟨a0, a1⟩ := hr.resolve_left h1
  obtain ⟨b0, b1⟩ := hr2.resolve_left h2
  obtain ⟨c0, c1⟩ := hr3.resolve_left h3
  have q := kl_nbA hn
  have l := kl_lev (x := x1) (A := I 91 5) a0 (by omega) q.1 q.2.1
  have p := kl_pr a0 (show x1.toInt ≤ 1101 by omega) q.1 q.2.1
  have s := kl_rw2 (b := x1 * I 91 5) (x := x2) (N := I 91 4) (n := 9504) (by omega) (by rw [l.1, ← hn.2.2]; exact a1) (by decide) b0 b1
  intro n e
  subst e
  exact ⟨(kl_ix2 s.2.1 s.2.2 (by decide) c0 c1).2, h _⟩
theorem n91_copyUp {S : sm_C} {d : Nat} {Φ : sm_Z → Prop} {I : sm_I} {L : sm_L} {R : sm_R} {x1 : Int32} (hn : kl_nb I 91) (hx : x1.toInt ≤ 1100) (h : ∀ I' : sm_I, kl_only 92 I I' → Φ (none, (xLay, I', L, kR 91 R))) : sm_wp sm_P S (d + 1) 248 0 [.ref 91, .int x1] [] (xLay, I, L, kR 91 R) (0, 0) Φ := by
  have q := kl_nbA hn
  refine k91_copyUp_0 (n91_lev hn (by omega) (fun r hr => ⟨r, I, L, rfl, fun _ => h _ kl_only_rf, fun h1 => ?_⟩))
  obtain ⟨a0, a1⟩ := hr.resolve_left h1
  have l := kl_lev (x := x1) (A := I 91 5) a0 (by omega) q.1 q.2.1
  have p := kl_pr a0 (show x1.toInt ≤ 1101 by omega) q.1 q.2.1
  refine n91_lev hn (by omega) (fun r2 hr2 => ⟨r2, I, L, rfl, fun _ => h _ kl_only_rf, fun h2 => ?_⟩)
  obtain ⟨b0, b1⟩ := hr2.resolve_left h2
  rw [l.2.2, Int.add_mul] at b1
  intro n e
  have e : n.toInt = x1.toInt * (I 91 5).toInt + (I 91 5).toInt := by rw [e]; exact l.2.1
  have f1 := kl_nat (i := x1 * I 91 5) (by omega)
  have f2 := kl_nat (i := n) (by omega)
  have f3 := kl_nat (i := I 91 5) (by omega)
  refine ⟨⟨?_, ?_, ?_, ?_, ?_⟩, fun I8 e8 => ?_⟩
  · rw [kl_lt, kl_0]; omega
  · rw [kl_lt, kl_0]; omega
  · rw [kl_lt, kl_0]; omega
  · omega
  · omega
  · subst e8; exact h _ kl_only_row
theorem n91_row {S : sm_C} {d : Nat} {Φ : sm_Z → Prop} {L : sm_L} {R : sm_R} {x1 x2 x3 : Int32} : ∀ (k : Nat) (I : sm_I) (x4 : Int32), kl_nb I 91 → 0 ≤ x4.toInt → (I 91 4).toInt - x4.toInt ≤ k → 0 ≤ x1.toInt → x1.toInt + (I 91 4).toInt ≤ 9504 → 0 ≤ x3.toInt → x3.toInt + (I 91 4).toInt ≤ 9504 → (∀ I' : sm_I, kl_only 92 I I' → Φ (none, (xLay, I', L, kR 91 R))) → sm_wp sm_P S d 257 1 [.ref 91, .int x1, .int x2, .int x3, .int x4] [] (xLay, I, L, kR 91 R) (0, 0) Φ := by
  intro k
  induction k with
  | zero =>
    intro I x4 hn h0 hk a0 a1 b0 b1 h
    refine k91_tightenRow_1 ⟨fun _ => h _ kl_only_rf, fun h1 => ?_⟩
    have := kl_nle h1
    omega
  | succ k ih =>
    intro I x4 hn h0 hk a0 a1 b0 b1 h
    refine k91_tightenRow_1 ⟨fun _ => h _ kl_only_rf, fun h1 => ?_⟩
    have h1 := kl_nle h1
    have v1 := (kl_ix2 a0 a1 (by decide) h0 h1).2
    have v3 := (kl_ix2 b0 b1 (by decide) h0 h1).2
    have e := kl_inc h0 h1
    refine ⟨v3, fun n _ => ⟨v1, fun _ => ?_, fun _ => ⟨v1, fun I2 e2 => ?_⟩⟩⟩
    · exact ih I (x4 + 1) hn (by omega) (by omega) a0 a1 b0 b1 h
    · have o : kl_only 92 I I2 := by rw [e2]; exact kl_only_up
      have o4 : I2 91 4 = I 91 4 := o 91 4 (by decide)
      exact ih I2 (x4 + 1) (kl_only_nb o (by decide) hn) (by omega) (by rw [o4]; omega) a0 (by rw [o4]; exact a1) b0 (by rw [o4]; exact b1) (fun I' o' => h I' (kl_only_tr o o'))
theorem n91_loop {S : sm_C} {d : Nat} {Φ : sm_Z → Prop} {L : sm_L} {R : sm_R} {x6 x7 x8 x9 x10 : Int32} : ∀ (k : Nat) (I : sm_I) (x11 : Int32), kl_nb I 91 → 0 ≤ x11.toInt → (I 91 4).toInt - x11.toInt ≤ k → 0 ≤ x7.toInt → x7.toInt + (I 91 4).toInt * (I 91 4).toInt ≤ 9504 → 0 ≤ x8.toInt → x8.toInt < (I 91 4).toInt → 0 ≤ x9.toInt → x9.toInt < (I 91 4).toInt → 0 ≤ x10.toInt → x10.toInt + (I 91 4).toInt ≤ 9504 → (∀ (r : Int32) (I' : sm_I), (r = 0 ∨ r = 1) → kl_only 92 I I' → Φ (some (.int r), (xLay, I', L, kR 91 R))) → sm_wp sm_P S (d + 1) 256 21 [.ref 91, .int x6, .int x7, .int x8, .int x9, .int x10, .int x11] [] (xLay, I, L, kR 91 R) (0, 0) Φ := by
  intro k
  induction k with
  | zero =>
    intro I x11 hn h0 hk a0 a1 b0 b1 c0 c1 d0 d1 h
    refine k91_tighten_21 ⟨fun _ => h 1 _ (Or.inr rfl) kl_only_rf, fun h1 => ?_⟩
    have := kl_nle h1
    omega
  | succ k ih =>
    intro I x11 hn h0 hk a0 a1 b0 b1 c0 c1 d0 d1 h
    refine k91_tighten_21 ⟨fun _ => h 1 _ (Or.inr rfl) kl_only_rf, fun h1 => ?_⟩
    have h1 := kl_nle h1
    have s := kl_rw2 (b := x7) (x := x11) (N := I 91 4) (n := 9504) a0 a1 (by decide) h0 h1
    have e := kl_inc h0 h1
    intro n1 e1
    subst e1
    refine ⟨(kl_ix2 s.2.1 s.2.2 (by decide) b0 b1).2, fun n2 _ n3 e3 => ?_⟩
    subst e3
    refine ⟨(kl_ix2 s.2.1 s.2.2 (by decide) c0 c1).2, fun _ => ?_, fun _ => ?_⟩
    · exact ih I (x11 + 1) hn (by omega) (by omega) a0 a1 b0 b1 c0 c1 d0 d1 h
    · refine k91_tightenRow_0 (n91_row (I 91 4).toInt.toNat I 0 hn (by rw [kl_0]; omega) (by rw [kl_0]; omega) s.2.1 s.2.2 d0 d1 (fun I4 o => ⟨I4, L, rfl, ?_⟩))
      have o4 : I4 91 4 = I 91 4 := o 91 4 (by decide)
      exact ih I4 (x11 + 1) (kl_only_nb o (by decide) hn) (by omega) (by rw [o4]; omega) a0 (by rw [o4]; exact a1) b0 (by rw [o4]; exact b1) c0 (by rw [o4]; exact c1) d0 (by rw [o4]; exact d1) (fun r I' hr o' => h r I' hr (kl_only_tr o o'))
theorem n91_tighten {S : sm_C} {d : Nat} {Φ : sm_Z → Prop} {I : sm_I} {L : sm_L} {R : sm_R} {x1 x2 x3 x4 : Int32} (hn : kl_nb I 91) (hw : (I 91 4).toInt ≤ 12) (hs : kl_net I 91 93) (hx : x1.toInt ≤ 1100) (h : ∀ (r : Int32) (I' : sm_I), (r = 0 ∨ r = 1) → kl_only 92 I I' → Φ (some (.int r), (xLay, I', L, kR 91 R))) : sm_wp sm_P S (d + 1) 256 0 [.ref 91, .int x1, .int x2, .int x3, .int x4] [] (xLay, I, L, kR 91 R) (0, 0) Φ := by
  have key : ∀ s0 : Int32, (s0 = 0 ∨ (0 ≤ x1.toInt ∧ x1.toInt * (I 91 5).toInt + (I 91 5).toInt ≤ 9504)) → sm_wp sm_P S (d + 1) 256 4 [.ref 91, .int x1, .int x2, .int x3, .int x4] [.int s0] (xLay, I, L, kR 91 R) (0, 0) Φ := by
    intro s0 h0
    have no : Φ (some (.int (0 : Int32)), (xLay, I, L, kR 91 R)) := h 0 _ (Or.inl rfl) kl_only_rf
    have yes : Φ (some (.int (1 : Int32)), (xLay, I, L, kR 91 R)) := h 1 _ (Or.inr rfl) kl_only_rf
    refine k91_tighten_4 ⟨fun _ => no, fun hs0 => ⟨fun _ => no, fun i0 => ⟨fun _ => no, fun i1 => ⟨fun _ => no, fun j0 => ⟨fun j1 => ⟨fun _ => ⟨fun _ => no, fun _ => yes⟩, fun _ => ?_⟩, fun _ => no⟩⟩⟩⟩⟩
    obtain ⟨a0, a1⟩ := h0.resolve_left hs0
    have i0 := kl_nlt0 i0
    have i1 := kl_nle i1
    have j0 := kl_nlt0 j0
    have j1 := kl_lt.mp j1
    have q := kl_nbA hn
    have l := kl_lev (x := x1) (A := I 91 5) a0 (by omega) q.1 q.2.1
    have p := kl_pr a0 (show x1.toInt ≤ 1101 by omega) q.1 q.2.1
    have vi : vp_in x2 12 := kl_in i0 (by omega)
    have vj : vp_in x3 12 := kl_in j0 (by omega)
    have si := hs.2 x2.toNatClampNeg (by rw [kl_nat i0]; exact i1)
    have sj := hs.2 x3.toNatClampNeg (by rw [kl_nat j0]; exact j1)
    have bb : (x1 * I 91 5).toInt + (I 91 4).toInt * (I 91 4).toInt ≤ ((9504 : Nat) : Int) := by rw [l.1, ← hn.2.2]; exact a1
    have ri := kl_rw2 (b := x1 * I 91 5) (x := I 93 x2.toNatClampNeg) (N := I 91 4) (n := 9504) (by omega) bb (by decide) si.1 si.2
    have rj := kl_rw2 (b := x1 * I 91 5) (x := I 93 x3.toNatClampNeg) (N := I 91 4) (n := 9504) (by omega) bb (by decide) sj.1 sj.2
    refine ⟨vi, vj, fun n1 _ => ⟨vi, vj, fun n2 e2 n3 e3 => ?_⟩⟩
    subst e2; subst e3
    refine ⟨(kl_ix2 rj.2.1 rj.2.2 (by decide) si.1 si.2).2, fun _ n4 e4 => ?_, fun _ => no⟩
    subst e4
    refine ⟨(kl_ix2 ri.2.1 ri.2.2 (by decide) sj.1 sj.2).2, fun _ => ?_, fun _ => yes⟩
    exact n91_loop (I 91 4).toInt.toNat I 0 hn (by rw [kl_0]; omega) (by rw [kl_0]; omega) (by omega) bb si.1 si.2 sj.1 sj.2 rj.2.1 rj.2.2 h
  refine k91_tighten_0 ⟨fun _ => key 0 (Or.inl rfl), fun h1 => ⟨fun _ => key 0 (Or.inl rfl), fun h2 => key 1 (Or.inr ?_)⟩⟩
  have h1 := kl_nlt0 h1
  have a := kl_nbA hn
  have l := kl_lev (x := x1) (A := I 91 5) h1 (by omega) a.1 a.2.1
  have h2 := kl_nlt h2
  rw [l.2.1] at h2
  have e : (Int32.ofNat 9504).toInt = 9504 := by decide
  rw [e] at h2; exact ⟨h1, h2⟩
end
section
/-! more for the nets -/
def kl_bl (P M S A B : Nat) (I I' : sm_I) : Prop := ∀ c j, c ≠ M → c ≠ S → c ≠ A → c ≠ B → ¬ (c = P ∧ (j = 4 ∨ j = 5)) → I' c j = I c j
/-! the net 75: loose and blank -/
theorem n75_bl6 {S : sm_C} {d : Nat} {Φ : sm_Z → Prop} {L : sm_L} {R : sm_R} {x2 : Int32} : ∀ (k : Nat) (I : sm_I) (x3 : Int32), kl_nb I 75 → 0 ≤ x2.toInt → x2.toInt < (I 75 4).toInt → 0 ≤ x3.toInt → (I 75 4).toInt - x3.toInt ≤ k → (∀ I' : sm_I, kl_only 76 I I' → sm_wp sm_P S d 247 4 [.ref 75, .int (x2 + 1)] [] (xLay, I', L, kR 75 R) (0, 0) Φ) → sm_wp sm_P S d 247 6 [.ref 75, .int x2, .int x3] [] (xLay, I, L, kR 75 R) (0, 0) Φ := by
  intro k
  induction k with
  | zero =>
    intro I x3 hn a0 a1 h0 hk h
    refine k75_blank_6 ⟨fun _ => h _ kl_only_rf, fun h1 => ?_⟩
    have := kl_nle h1
    omega
  | succ k ih =>
    intro I x3 hn a0 a1 h0 hk h
    refine k75_blank_6 ⟨fun _ => h _ kl_only_rf, fun h1 => ?_⟩
    have h1 := kl_nle h1
    have e := kl_inc h0 h1
    have r := kl_row a0 a1
    have q := kl_sq hn.1 hn.2.1
    have m : (x2 * I 75 4).toInt = x2.toInt * (I 75 4).toInt := kl_mul (by omega) (by omega)
    have v : vp_in (x2 * I 75 4 + x3) 7381 := (kl_ix2 (r := x2 * I 75 4) (y := x3) (N := I 75 4) (n := 7381) (by omega) (by omega) (by decide) h0 h1).2
    have go : ∀ (x : Int32) (I1 : sm_I), I1 = sm_up I 76 (x2 * I 75 4 + x3).toNatClampNeg x → sm_wp sm_P S d 247 6 [.ref 75, .int x2, .int (x3 + 1)] [] (xLay, I1, L, kR 75 R) (0, 0) Φ := by
      intro x I1 e1
      have o : kl_only 76 I I1 := by rw [e1]; exact kl_only_up
      have o4 : I1 75 4 = I 75 4 := o 75 4 (by decide)
      exact ih I1 (x3 + 1) (kl_only_nb o (by decide) hn) a0 (by rw [o4]; exact a1) (by omega) (by rw [o4]; omega) (fun I' o' => h I' (kl_only_tr o o'))
    exact ⟨fun _ => ⟨v, go _⟩, fun _ => ⟨fun _ => ⟨v, go _⟩, fun _ => ⟨v, go _⟩⟩⟩
theorem n75_bl4 {S : sm_C} {d : Nat} {Φ : sm_Z → Prop} {L : sm_L} {R : sm_R} : ∀ (k : Nat) (I : sm_I) (x2 : Int32), kl_nb I 75 → (I 75 4).toInt ≤ 11 → 0 ≤ x2.toInt → (I 75 4).toInt - x2.toInt ≤ k → (∀ t : Nat, (t : Int) < x2.toInt → 0 ≤ (I 77 t).toInt ∧ (I 77 t).toInt < (I 75 4).toInt) → (∀ t : Nat, t < 11 → 0 ≤ (I 77 t).toInt ∧ (I 77 t).toInt ≤ 11 - 1) → (∀ I' : sm_I, kl_bl 75 76 77 78 79 I I' → kl_nb I' 75 → (I' 75 4).toInt ≤ 11 → (∀ t : Nat, (t : Int) < (I' 75 4).toInt → 0 ≤ (I' 77 t).toInt ∧ (I' 77 t).toInt < (I' 75 4).toInt) → (∀ t : Nat, t < 11 → 0 ≤ (I' 77 t).toInt ∧ (I' 77 t).toInt ≤ 11 - 1) → Φ (none, (xLay, I', L, kR 75 R))) → sm_wp sm_P S d 247 4 [.ref 75, .int x2] [] (xLay, I, L, kR 75 R) (0, 0) Φ := by
  intro k
  induction k with
  | zero =>
    intro I x2 hn hw h0 hk h1 h2 h
    refine k75_blank_4 ⟨fun _ => h I (fun _ _ _ _ _ _ _ => rfl) hn hw (fun t ht => h1 t (by omega)) h2, fun q => ?_⟩
    have := kl_nle q
    omega
  | succ k ih =>
    intro I x2 hn hw h0 hk h1 h2 h
    refine k75_blank_4 ⟨fun q => h I (fun _ _ _ _ _ _ _ => rfl) hn hw (fun t ht => h1 t (by have := kl_le.mp q; omega)) h2, fun q => ?_⟩
    have q := kl_nle q
    have e := kl_inc h0 q
    have n2 := kl_nat h0
    have v : vp_in x2 11 := kl_in h0 (by omega)
    refine ⟨v, fun I1 e1 => ⟨v, fun I2 e2 => ⟨v, fun I3 e3 => ?_⟩⟩⟩
    have f1 : ∀ c, c ≠ 77 → I1 c = I c := fun c hc => by rw [e1]; unfold sm_up; simp [hc]
    have f2 : ∀ c, c ≠ 78 → I2 c = I1 c := fun c hc => by rw [e2]; unfold sm_up; simp [hc]
    have f3 : ∀ c, c ≠ 79 → I3 c = I2 c := fun c hc => by rw [e3]; unfold sm_up; simp [hc]
    have g : ∀ c, c ≠ 77 → c ≠ 78 → c ≠ 79 → I3 c = I c := fun c h1 h2 h3 => by rw [f3 c h3, f2 c h2, f1 c h1]
    have gP : I3 75 = I 75 := g 75 (by decide) (by decide) (by decide)
    have gS : ∀ t, I3 77 t = if t = x2.toNatClampNeg then x2 else I 77 t := fun t => by
      rw [f3 77 (by decide), f2 77 (by decide), e1]; unfold sm_up; simp
    have n3 : kl_nb I3 75 := by unfold kl_nb; rw [gP]; exact hn
    refine n75_bl6 (I 75 4).toInt.toNat I3 0 n3 h0 (by rw [gP]; exact q) (by rw [kl_0]; omega) (by rw [gP, kl_0]; omega) (fun I4 o => ?_)
    have oP : I4 75 4 = I 75 4 := by rw [o 75 4 (by decide), gP]
    have oS : ∀ t, I4 77 t = if t = x2.toNatClampNeg then x2 else I 77 t := fun t => by rw [o 77 t (by decide)]; exact gS t
    refine ih I4 (x2 + 1) (kl_only_nb o (by decide) n3) (by rw [oP]; exact hw) (by omega) (by rw [oP]; omega) (fun t ht => ?_) (fun t ht => ?_) (fun I' b => h I' (fun c j c1 c2 c3 c4 c5 => ?_))
    · rw [oS, oP]
      by_cases et : t = x2.toNatClampNeg
      · rw [if_pos et]; omega
      · rw [if_neg et]; exact h1 t (by omega)
    · rw [oS]
      by_cases et : t = x2.toNatClampNeg
      · rw [if_pos et]; omega
      · rw [if_neg et]; exact h2 t ht
    · rw [b c j c1 c2 c3 c4 c5, o c j c1, g c c2 c3 c4]
theorem n75_blank {S : sm_C} {d : Nat} {Φ : sm_Z → Prop} {I : sm_I} {L : sm_L} {R : sm_R} {x1 : Int32} (h2 : ∀ t : Nat, t < 11 → 0 ≤ (I 77 t).toInt ∧ (I 77 t).toInt ≤ 11 - 1) (h0 : Φ (none, (xLay, I, L, kR 75 R))) (h : ∀ I' : sm_I, kl_bl 75 76 77 78 79 I I' → kl_nb I' 75 → (I' 75 4).toInt ≤ 11 → (∀ t : Nat, (t : Int) < (I' 75 4).toInt → 0 ≤ (I' 77 t).toInt ∧ (I' 77 t).toInt < (I' 75 4).toInt) → (∀ t : Nat, t < 11 → 0 ≤ (I' 77 t).toInt ∧ (I' 77 t).toInt ≤ 11 - 1) → Φ (none, (xLay, I', L, kR 75 R))) : sm_wp sm_P S d 247 0 [.ref 75, .int x1] [] (xLay, I, L, kR 75 R) (0, 0) Φ := by
  refine k75_blank_0 ⟨fun _ => h0, fun a => ⟨fun b I1 e1 => ?_, fun _ => h0⟩⟩
  have a := kl_nlt a
  rw [kl_1] at a
  have b := kl_le.mp b
  have eW : (Int32.ofNat 11).toInt = 11 := by decide
  rw [eW] at b
  have q := kl_sq a (show x1.toInt ≤ 12 by omega)
  have m : (x1 * x1).toInt = x1.toInt * x1.toInt := kl_mul (by omega) (by omega)
  have g4 : I1 75 4 = x1 := by rw [e1]; simp [sm_up]
  have g5 : I1 75 5 = x1 * x1 := by rw [e1]; simp [sm_up]
  have gS : I1 77 = I 77 := by rw [e1]; simp [sm_up]
  have gO : ∀ c j, ¬ (c = 75 ∧ (j = 4 ∨ j = 5)) → I1 c j = I c j := by
    intro c j hc
    rw [e1]
    rw [en_up_ne _ _ _ _ (fun q => hc ⟨q.1, Or.inr q.2⟩), en_up_ne _ _ _ _ (fun q => hc ⟨q.1, Or.inl q.2⟩)]
  have n1 : kl_nb I1 75 := ⟨by rw [g4]; exact a, by rw [g4]; omega, by rw [g4, g5]; exact m⟩
  refine n75_bl4 (I1 75 4).toInt.toNat I1 0 n1 (by rw [g4]; exact b) (by rw [kl_0]; omega) (by rw [kl_0]; omega) (fun t ht => by rw [kl_0] at ht; omega) (fun t ht => by rw [gS]; exact h2 t ht) (fun I' c => h I' (fun x j c1 c2 c3 c4 c5 => ?_))
  rw [c x j c1 c2 c3 c4 c5, gO x j c5]
/-! the net 83: loose and blank -/
theorem n83_loose {S : sm_C} {d : Nat} {Φ : sm_Z → Prop} {I : sm_I} {L : sm_L} {R : sm_R} {x1 x2 x3 x4 : Int32} (hw : (I 83 4).toInt ≤ 11) (h : ∀ I' : sm_I, kl_bl 83 84 85 86 87 I I' → I' 83 4 = I 83 4 → I' 83 5 = I 83 5 → (∀ c, c ≠ 85 → c ≠ 86 → c ≠ 87 → I' c = I c) → (∀ t, I' 85 t = I 85 t ∨ (0 ≤ (I' 85 t).toInt ∧ (I' 85 t).toInt < (I 83 4).toInt)) → Φ (none, (xLay, I', L, kR 83 R))) : sm_wp sm_P S (d + 1) 254 0 [.ref 83, .int x1, .int x2, .int x3, .int x4] [] (xLay, I, L, kR 83 R) (0, 0) Φ := by
  have no : Φ (none, (xLay, I, L, kR 83 R)) := h I (fun _ _ _ _ _ _ _ => rfl) rfl rfl (fun _ _ _ _ => rfl) (fun _ => Or.inl rfl)
  refine k83_loose_0 (n83_node (fun r hr => ⟨r, I, L, rfl, fun _ => no, fun h1 => n83_node (fun r2 hr2 => ⟨r2, I, L, rfl, fun _ => no, fun h2 => ?_⟩)⟩))
  obtain ⟨a0, a1⟩ := hr.resolve_left h1
  obtain ⟨b0, b1⟩ := hr2.resolve_left h2
  have v : vp_in x1 11 := kl_in a0 (by omega)
  refine ⟨v, fun I7 e7 => ⟨v, fun I8 e8 => ⟨v, fun I9 e9 => ?_⟩⟩⟩
  have f7 : ∀ c, c ≠ 85 → I7 c = I c := fun c hc => by rw [e7]; unfold sm_up; simp [hc]
  have f8 : ∀ c, c ≠ 86 → I8 c = I7 c := fun c hc => by rw [e8]; unfold sm_up; simp [hc]
  have f9 : ∀ c, c ≠ 87 → I9 c = I8 c := fun c hc => by rw [e9]; unfold sm_up; simp [hc]
  have g : ∀ c, c ≠ 85 → c ≠ 86 → c ≠ 87 → I9 c = I c := fun c h1 h2 h3 => by rw [f9 c h3, f8 c h2, f7 c h1]
  refine h I9 (fun c j h1 h2 h3 h4 _ => by rw [g c h2 h3 h4]) (by rw [g 83 (by decide) (by decide) (by decide)]) (by rw [g 83 (by decide) (by decide) (by decide)]) g (fun t => ?_)
  rw [f9 85 (by decide), f8 85 (by decide), e7]
  unfold sm_up
  by_cases e : t = x1.toNatClampNeg
  · right; simp only [e, if_true]; exact ⟨b0, b1⟩
  · left; simp [e]
theorem n83_bl6 {S : sm_C} {d : Nat} {Φ : sm_Z → Prop} {L : sm_L} {R : sm_R} {x2 : Int32} : ∀ (k : Nat) (I : sm_I) (x3 : Int32), kl_nb I 83 → 0 ≤ x2.toInt → x2.toInt < (I 83 4).toInt → 0 ≤ x3.toInt → (I 83 4).toInt - x3.toInt ≤ k → (∀ I' : sm_I, kl_only 84 I I' → sm_wp sm_P S d 247 4 [.ref 83, .int (x2 + 1)] [] (xLay, I', L, kR 83 R) (0, 0) Φ) → sm_wp sm_P S d 247 6 [.ref 83, .int x2, .int x3] [] (xLay, I, L, kR 83 R) (0, 0) Φ := by
  intro k
  induction k with
  | zero =>
    intro I x3 hn a0 a1 h0 hk h
    refine k83_blank_6 ⟨fun _ => h _ kl_only_rf, fun h1 => ?_⟩
    have := kl_nle h1
    omega
  | succ k ih =>
    intro I x3 hn a0 a1 h0 hk h
    refine k83_blank_6 ⟨fun _ => h _ kl_only_rf, fun h1 => ?_⟩
    have h1 := kl_nle h1
    have e := kl_inc h0 h1
    have r := kl_row a0 a1
    have q := kl_sq hn.1 hn.2.1
    have m : (x2 * I 83 4).toInt = x2.toInt * (I 83 4).toInt := kl_mul (by omega) (by omega)
    have v : vp_in (x2 * I 83 4 + x3) 6776 := (kl_ix2 (r := x2 * I 83 4) (y := x3) (N := I 83 4) (n := 6776) (by omega) (by omega) (by decide) h0 h1).2
    have go : ∀ (x : Int32) (I1 : sm_I), I1 = sm_up I 84 (x2 * I 83 4 + x3).toNatClampNeg x → sm_wp sm_P S d 247 6 [.ref 83, .int x2, .int (x3 + 1)] [] (xLay, I1, L, kR 83 R) (0, 0) Φ := by
      intro x I1 e1
      have o : kl_only 84 I I1 := by rw [e1]; exact kl_only_up
      have o4 : I1 83 4 = I 83 4 := o 83 4 (by decide)
      exact ih I1 (x3 + 1) (kl_only_nb o (by decide) hn) a0 (by rw [o4]; exact a1) (by omega) (by rw [o4]; omega) (fun I' o' => h I' (kl_only_tr o o'))
    exact ⟨fun _ => ⟨v, go _⟩, fun _ => ⟨fun _ => ⟨v, go _⟩, fun _ => ⟨v, go _⟩⟩⟩
theorem n83_bl4 {S : sm_C} {d : Nat} {Φ : sm_Z → Prop} {L : sm_L} {R : sm_R} : ∀ (k : Nat) (I : sm_I) (x2 : Int32), kl_nb I 83 → (I 83 4).toInt ≤ 11 → 0 ≤ x2.toInt → (I 83 4).toInt - x2.toInt ≤ k → (∀ t : Nat, (t : Int) < x2.toInt → 0 ≤ (I 85 t).toInt ∧ (I 85 t).toInt < (I 83 4).toInt) → (∀ t : Nat, t < 11 → 0 ≤ (I 85 t).toInt ∧ (I 85 t).toInt ≤ 11 - 1) → (∀ I' : sm_I, kl_bl 83 84 85 86 87 I I' → kl_nb I' 83 → (I' 83 4).toInt ≤ 11 → (∀ t : Nat, (t : Int) < (I' 83 4).toInt → 0 ≤ (I' 85 t).toInt ∧ (I' 85 t).toInt < (I' 83 4).toInt) → (∀ t : Nat, t < 11 → 0 ≤ (I' 85 t).toInt ∧ (I' 85 t).toInt ≤ 11 - 1) → Φ (none, (xLay, I', L, kR 83 R))) → sm_wp sm_P S d 247 4 [.ref 83, .int x2] [] (xLay, I, L, kR 83 R) (0, 0) Φ := by
  intro k
  induction k with
  | zero =>
    intro I x2 hn hw h0 hk h1 h2 h
    refine k83_blank_4 ⟨fun _ => h I (fun _ _ _ _ _ _ _ => rfl) hn hw (fun t ht => h1 t (by omega)) h2, fun q => ?_⟩
    have := kl_nle q
    omega
  | succ k ih =>
    intro I x2 hn hw h0 hk h1 h2 h
    refine k83_blank_4 ⟨fun q => h I (fun _ _ _ _ _ _ _ => rfl) hn hw (fun t ht => h1 t (by have := kl_le.mp q; omega)) h2, fun q => ?_⟩
    have q := kl_nle q
    have e := kl_inc h0 q
    have n2 := kl_nat h0
    have v : vp_in x2 11 := kl_in h0 (by omega)
    refine ⟨v, fun I1 e1 => ⟨v, fun I2 e2 => ⟨v, fun I3 e3 => ?_⟩⟩⟩
    have f1 : ∀ c, c ≠ 85 → I1 c = I c := fun c hc => by rw [e1]; unfold sm_up; simp [hc]
    have f2 : ∀ c, c ≠ 86 → I2 c = I1 c := fun c hc => by rw [e2]; unfold sm_up; simp [hc]
    have f3 : ∀ c, c ≠ 87 → I3 c = I2 c := fun c hc => by rw [e3]; unfold sm_up; simp [hc]
    have g : ∀ c, c ≠ 85 → c ≠ 86 → c ≠ 87 → I3 c = I c := fun c h1 h2 h3 => by rw [f3 c h3, f2 c h2, f1 c h1]
    have gP : I3 83 = I 83 := g 83 (by decide) (by decide) (by decide)
    have gS : ∀ t, I3 85 t = if t = x2.toNatClampNeg then x2 else I 85 t := fun t => by
      rw [f3 85 (by decide), f2 85 (by decide), e1]; unfold sm_up; simp
    have n3 : kl_nb I3 83 := by unfold kl_nb; rw [gP]; exact hn
    refine n83_bl6 (I 83 4).toInt.toNat I3 0 n3 h0 (by rw [gP]; exact q) (by rw [kl_0]; omega) (by rw [gP, kl_0]; omega) (fun I4 o => ?_)
    have oP : I4 83 4 = I 83 4 := by rw [o 83 4 (by decide), gP]
    have oS : ∀ t, I4 85 t = if t = x2.toNatClampNeg then x2 else I 85 t := fun t => by rw [o 85 t (by decide)]; exact gS t
    refine ih I4 (x2 + 1) (kl_only_nb o (by decide) n3) (by rw [oP]; exact hw) (by omega) (by rw [oP]; omega) (fun t ht => ?_) (fun t ht => ?_) (fun I' b => h I' (fun c j c1 c2 c3 c4 c5 => ?_))
    · rw [oS, oP]
      by_cases et : t = x2.toNatClampNeg
      · rw [if_pos et]; omega
      · rw [if_neg et]; exact h1 t (by omega)
    · rw [oS]
      by_cases et : t = x2.toNatClampNeg
      · rw [if_pos et]; omega
      · rw [if_neg et]; exact h2 t ht
    · rw [b c j c1 c2 c3 c4 c5, o c j c1, g c c2 c3 c4]
theorem n83_blank {S : sm_C} {d : Nat} {Φ : sm_Z → Prop} {I : sm_I} {L : sm_L} {R : sm_R} {x1 : Int32} (h2 : ∀ t : Nat, t < 11 → 0 ≤ (I 85 t).toInt ∧ (I 85 t).toInt ≤ 11 - 1) (h0 : Φ (none, (xLay, I, L, kR 83 R))) (h : ∀ I' : sm_I, kl_bl 83 84 85 86 87 I I' → kl_nb I' 83 → (I' 83 4).toInt ≤ 11 → (∀ t : Nat, (t : Int) < (I' 83 4).toInt → 0 ≤ (I' 85 t).toInt ∧ (I' 85 t).toInt < (I' 83 4).toInt) → (∀ t : Nat, t < 11 → 0 ≤ (I' 85 t).toInt ∧ (I' 85 t).toInt ≤ 11 - 1) → Φ (none, (xLay, I', L, kR 83 R))) : sm_wp sm_P S d 247 0 [.ref 83, .int x1] [] (xLay, I, L, kR 83 R) (0, 0) Φ := by
  refine k83_blank_0 ⟨fun _ => h0, fun a => ⟨fun b I1 e1 => ?_, fun _ => h0⟩⟩
  have a := kl_nlt a
  rw [kl_1] at a
  have b := kl_le.mp b
  have eW : (Int32.ofNat 11).toInt = 11 := by decide
  rw [eW] at b
  have q := kl_sq a (show x1.toInt ≤ 12 by omega)
  have m : (x1 * x1).toInt = x1.toInt * x1.toInt := kl_mul (by omega) (by omega)
  have g4 : I1 83 4 = x1 := by rw [e1]; simp [sm_up]
  have g5 : I1 83 5 = x1 * x1 := by rw [e1]; simp [sm_up]
  have gS : I1 85 = I 85 := by rw [e1]; simp [sm_up]
  have gO : ∀ c j, ¬ (c = 83 ∧ (j = 4 ∨ j = 5)) → I1 c j = I c j := by
    intro c j hc
    rw [e1]
    rw [en_up_ne _ _ _ _ (fun q => hc ⟨q.1, Or.inr q.2⟩), en_up_ne _ _ _ _ (fun q => hc ⟨q.1, Or.inl q.2⟩)]
  have n1 : kl_nb I1 83 := ⟨by rw [g4]; exact a, by rw [g4]; omega, by rw [g4, g5]; exact m⟩
  refine n83_bl4 (I1 83 4).toInt.toNat I1 0 n1 (by rw [g4]; exact b) (by rw [kl_0]; omega) (by rw [kl_0]; omega) (fun t ht => by rw [kl_0] at ht; omega) (fun t ht => by rw [gS]; exact h2 t ht) (fun I' c => h I' (fun x j c1 c2 c3 c4 c5 => ?_))
  rw [c x j c1 c2 c3 c4 c5, gO x j c5]
/-! the net 91: loose and blank -/
theorem n91_bl6 {S : sm_C} {d : Nat} {Φ : sm_Z → Prop} {L : sm_L} {R : sm_R} {x2 : Int32} : ∀ (k : Nat) (I : sm_I) (x3 : Int32), kl_nb I 91 → 0 ≤ x2.toInt → x2.toInt < (I 91 4).toInt → 0 ≤ x3.toInt → (I 91 4).toInt - x3.toInt ≤ k → (∀ I' : sm_I, kl_only 92 I I' → sm_wp sm_P S d 247 4 [.ref 91, .int (x2 + 1)] [] (xLay, I', L, kR 91 R) (0, 0) Φ) → sm_wp sm_P S d 247 6 [.ref 91, .int x2, .int x3] [] (xLay, I, L, kR 91 R) (0, 0) Φ := by
  intro k
  induction k with
  | zero =>
    intro I x3 hn a0 a1 h0 hk h
    refine k91_blank_6 ⟨fun _ => h _ kl_only_rf, fun h1 => ?_⟩
    have := kl_nle h1
    omega
  | succ k ih =>
    intro I x3 hn a0 a1 h0 hk h
    refine k91_blank_6 ⟨fun _ => h _ kl_only_rf, fun h1 => ?_⟩
    have h1 := kl_nle h1
    have e := kl_inc h0 h1
    have r := kl_row a0 a1
    have q := kl_sq hn.1 hn.2.1
    have m : (x2 * I 91 4).toInt = x2.toInt * (I 91 4).toInt := kl_mul (by omega) (by omega)
    have v : vp_in (x2 * I 91 4 + x3) 9504 := (kl_ix2 (r := x2 * I 91 4) (y := x3) (N := I 91 4) (n := 9504) (by omega) (by omega) (by decide) h0 h1).2
    have go : ∀ (x : Int32) (I1 : sm_I), I1 = sm_up I 92 (x2 * I 91 4 + x3).toNatClampNeg x → sm_wp sm_P S d 247 6 [.ref 91, .int x2, .int (x3 + 1)] [] (xLay, I1, L, kR 91 R) (0, 0) Φ := by
      intro x I1 e1
      have o : kl_only 92 I I1 := by rw [e1]; exact kl_only_up
      have o4 : I1 91 4 = I 91 4 := o 91 4 (by decide)
      exact ih I1 (x3 + 1) (kl_only_nb o (by decide) hn) a0 (by rw [o4]; exact a1) (by omega) (by rw [o4]; omega) (fun I' o' => h I' (kl_only_tr o o'))
    exact ⟨fun _ => ⟨v, go _⟩, fun _ => ⟨fun _ => ⟨v, go _⟩, fun _ => ⟨v, go _⟩⟩⟩
theorem n91_bl4 {S : sm_C} {d : Nat} {Φ : sm_Z → Prop} {L : sm_L} {R : sm_R} : ∀ (k : Nat) (I : sm_I) (x2 : Int32), kl_nb I 91 → (I 91 4).toInt ≤ 12 → 0 ≤ x2.toInt → (I 91 4).toInt - x2.toInt ≤ k → (∀ t : Nat, (t : Int) < x2.toInt → 0 ≤ (I 93 t).toInt ∧ (I 93 t).toInt < (I 91 4).toInt) → (∀ t : Nat, t < 12 → 0 ≤ (I 93 t).toInt ∧ (I 93 t).toInt ≤ 12 - 1) → (∀ I' : sm_I, kl_bl 91 92 93 94 95 I I' → kl_nb I' 91 → (I' 91 4).toInt ≤ 12 → (∀ t : Nat, (t : Int) < (I' 91 4).toInt → 0 ≤ (I' 93 t).toInt ∧ (I' 93 t).toInt < (I' 91 4).toInt) → (∀ t : Nat, t < 12 → 0 ≤ (I' 93 t).toInt ∧ (I' 93 t).toInt ≤ 12 - 1) → Φ (none, (xLay, I', L, kR 91 R))) → sm_wp sm_P S d 247 4 [.ref 91, .int x2] [] (xLay, I, L, kR 91 R) (0, 0) Φ := by
  intro k
  induction k with
  | zero =>
    intro I x2 hn hw h0 hk h1 h2 h
    refine k91_blank_4 ⟨fun _ => h I (fun _ _ _ _ _ _ _ => rfl) hn hw (fun t ht => h1 t (by omega)) h2, fun q => ?_⟩
    have := kl_nle q
    omega
  | succ k ih =>
    intro I x2 hn hw h0 hk h1 h2 h
    refine k91_blank_4 ⟨fun q => h I (fun _ _ _ _ _ _ _ => rfl) hn hw (fun t ht => h1 t (by have := kl_le.mp q; omega)) h2, fun q => ?_⟩
    have q := kl_nle q
    have e := kl_inc h0 q
    have n2 := kl_nat h0
    have v : vp_in x2 12 := kl_in h0 (by omega)
    refine ⟨v, fun I1 e1 => ⟨v, fun I2 e2 => ⟨v, fun I3 e3 => ?_⟩⟩⟩
    have f1 : ∀ c, c ≠ 93 → I1 c = I c := fun c hc => by rw [e1]; unfold sm_up; simp [hc]
    have f2 : ∀ c, c ≠ 94 → I2 c = I1 c := fun c hc => by rw [e2]; unfold sm_up; simp [hc]
    have f3 : ∀ c, c ≠ 95 → I3 c = I2 c := fun c hc => by rw [e3]; unfold sm_up; simp [hc]
    have g : ∀ c, c ≠ 93 → c ≠ 94 → c ≠ 95 → I3 c = I c := fun c h1 h2 h3 => by rw [f3 c h3, f2 c h2, f1 c h1]
    have gP : I3 91 = I 91 := g 91 (by decide) (by decide) (by decide)
    have gS : ∀ t, I3 93 t = if t = x2.toNatClampNeg then x2 else I 93 t := fun t => by
      rw [f3 93 (by decide), f2 93 (by decide), e1]; unfold sm_up; simp
    have n3 : kl_nb I3 91 := by unfold kl_nb; rw [gP]; exact hn
    refine n91_bl6 (I 91 4).toInt.toNat I3 0 n3 h0 (by rw [gP]; exact q) (by rw [kl_0]; omega) (by rw [gP, kl_0]; omega) (fun I4 o => ?_)
    have oP : I4 91 4 = I 91 4 := by rw [o 91 4 (by decide), gP]
    have oS : ∀ t, I4 93 t = if t = x2.toNatClampNeg then x2 else I 93 t := fun t => by rw [o 93 t (by decide)]; exact gS t
    refine ih I4 (x2 + 1) (kl_only_nb o (by decide) n3) (by rw [oP]; exact hw) (by omega) (by rw [oP]; omega) (fun t ht => ?_) (fun t ht => ?_) (fun I' b => h I' (fun c j c1 c2 c3 c4 c5 => ?_))
    · rw [oS, oP]
      by_cases et : t = x2.toNatClampNeg
      · rw [if_pos et]; omega
      · rw [if_neg et]; exact h1 t (by omega)
    · rw [oS]
      by_cases et : t = x2.toNatClampNeg
      · rw [if_pos et]; omega
      · rw [if_neg et]; exact h2 t ht
    · rw [b c j c1 c2 c3 c4 c5, o c j c1, g c c2 c3 c4]
theorem n91_blank {S : sm_C} {d : Nat} {Φ : sm_Z → Prop} {I : sm_I} {L : sm_L} {R : sm_R} {x1 : Int32} (h2 : ∀ t : Nat, t < 12 → 0 ≤ (I 93 t).toInt ∧ (I 93 t).toInt ≤ 12 - 1) (h0 : Φ (none, (xLay, I, L, kR 91 R))) (h : ∀ I' : sm_I, kl_bl 91 92 93 94 95 I I' → kl_nb I' 91 → (I' 91 4).toInt ≤ 12 → (∀ t : Nat, (t : Int) < (I' 91 4).toInt → 0 ≤ (I' 93 t).toInt ∧ (I' 93 t).toInt < (I' 91 4).toInt) → (∀ t : Nat, t < 12 → 0 ≤ (I' 93 t).toInt ∧ (I' 93 t).toInt ≤ 12 - 1) → Φ (none, (xLay, I', L, kR 91 R))) : sm_wp sm_P S d 247 0 [.ref 91, .int x1] [] (xLay, I, L, kR 91 R) (0, 0) Φ := by
  refine k91_blank_0 ⟨fun _ => h0, fun a => ⟨fun b I1 e1 => ?_, fun _ => h0⟩⟩
  have a := kl_nlt a
  rw [kl_1] at a
  have b := kl_le.mp b
  have eW : (Int32.ofNat 12).toInt = 12 := by decide
  rw [eW] at b
  have q := kl_sq a (show x1.toInt ≤ 12 by omega)
  have m : (x1 * x1).toInt = x1.toInt * x1.toInt := kl_mul (by omega) (by omega)
  have g4 : I1 91 4 = x1 := by rw [e1]; simp [sm_up]
  have g5 : I1 91 5 = x1 * x1 := by rw [e1]; simp [sm_up]
  have gS : I1 93 = I 93 := by rw [e1]; simp [sm_up]
  have gO : ∀ c j, ¬ (c = 91 ∧ (j = 4 ∨ j = 5)) → I1 c j = I c j := by
    intro c j hc
    rw [e1]
    rw [en_up_ne _ _ _ _ (fun q => hc ⟨q.1, Or.inr q.2⟩), en_up_ne _ _ _ _ (fun q => hc ⟨q.1, Or.inl q.2⟩)]
  have n1 : kl_nb I1 91 := ⟨by rw [g4]; exact a, by rw [g4]; omega, by rw [g4, g5]; exact m⟩
  refine n91_bl4 (I1 91 4).toInt.toNat I1 0 n1 (by rw [g4]; exact b) (by rw [kl_0]; omega) (by rw [kl_0]; omega) (fun t ht => by rw [kl_0] at ht; omega) (fun t ht => by rw [gS]; exact h2 t ht) (fun I' c => h I' (fun x j c1 c2 c3 c4 c5 => ?_))
  rw [c x j c1 c2 c3 c4 c5, gO x j c5]
end
section
/-! the contracts by hand -/
theorem kl_vr {p : Int} {q : Nat} {ts : List en_Fd} {vs : List Value} (e : p = (q : Int)) (h : en_pvs ((2, p, 0) :: ts) vs) : ∃ r, vs = .ref q :: r ∧ en_pvs ts r := by
  cases vs with
  | nil => exact h.elim
  | cons v r =>
    refine ⟨r, ?_, h.2⟩
    have a := h.1
    cases v with
    | ref x =>
      have : (q : Int) = (x : Int) := e.symm.trans a.2
      have : q = x := by omega
      rw [this]
    | int x => exact absurd (show (2 : Nat) = 0 from a.1) (by decide)
    | long x => exact absurd (show (2 : Nat) = 5 from a) (by decide)
    | null => exact absurd (show (2 : Nat) = 1 from a) (by decide)
    | _ => exact a.elim
theorem kl_vi {lo hi : Int} {ts : List en_Fd} {vs : List Value} (h : en_pvs ((0, lo, hi) :: ts) vs) : ∃ x r, vs = .int x :: r ∧ (lo ≤ x.toInt ∧ x.toInt ≤ hi) ∧ en_pvs ts r := by
  cases vs with
  | nil => exact h.elim
  | cons v r =>
    have a := h.1
    cases v with
    | int x => exact ⟨x, r, rfl, a.2, h.2⟩
    | ref x => exact absurd (show (0 : Nat) = 2 from a.1) (by decide)
    | long x => exact absurd (show (0 : Nat) = 5 from a) (by decide)
    | null => exact absurd (show (0 : Nat) = 1 from a) (by decide)
    | _ => exact a.elim
theorem kl_v0 {vs : List Value} (h : en_pvs [] vs) : vs = [] := by
  cases vs with
  | nil => rfl
  | cons v r => exact h.elim
theorem kl_ref {w : sm_W} (hm : en_mem kl_tb klX w) {p j q : Nat} (e : en_refs kl_tb p j = [q]) : w.2.2.2 p j = some q := by
  obtain ⟨r, h1, h2⟩ := hm.2.2.1 p j (by rw [e]; exact List.cons_ne_nil _ _)
  rw [e] at h1
  rw [h2, List.mem_singleton.mp h1]
theorem kl_full {a n : Nat} (h : ∀ j, en_int kl_tb a j = bif Nat.blt j n then some (-2147483648, 2147483647) else none) : ∀ j q, en_int kl_tb a j = some q → q = (-2147483648, 2147483647) := by
  intro j q hq
  rw [h j] at hq
  cases e : Nat.blt j n with
  | true => rw [e] at hq; exact (Option.some.inj hq).symm
  | false => rw [e] at hq; cases hq
theorem kl_fr_bl {P M S A B : Nat} {lay : List (Nat × Nat)} {I I' : sm_I} {L L' : sm_L} {R : sm_R} (ho : kl_bl P M S A B I I') : en_fr [(P, [4, 5]), (M, []), (S, []), (A, []), (B, [])] (lay, I, L, R) (lay, I', L', R) := by
  refine ⟨rfl, fun p j h => ⟨?_, rfl⟩⟩
  refine ho p j (fun e => ?_) (fun e => ?_) (fun e => ?_) (fun e => ?_) (fun e => ?_)
  · subst e; simp [en_wok] at h
  · subst e; simp [en_wok] at h
  · subst e; simp [en_wok] at h
  · subst e; simp [en_wok] at h
  · obtain ⟨e, e2⟩ := e
    subst e
    rcases e2 with e2 | e2 <;> · subst e2; simp [en_wok] at h
/-! the net 75 -/
theorem m75_R {w : sm_W} (hm : en_mem kl_tb klX w) : kR 75 w.2.2.2 = w.2.2.2 := kR_eq (fun j hj => by
  have : j = 0 ∨ j = 1 ∨ j = 2 ∨ j = 3 := by omega
  rcases this with e | e | e | e <;> subst e
  · exact kl_ref hm (by decide +kernel)
  · exact kl_ref hm (by decide +kernel)
  · exact kl_ref hm (by decide +kernel)
  · exact kl_ref hm (by decide +kernel))
theorem m75_X {w : sm_W} (hm : en_mem kl_tb klX w) : kl_net w.2.1 75 77 := hm.2.2.2.2.2.1
theorem m75_w {w : sm_W} (hm : en_mem kl_tb klX w) : 1 ≤ (w.2.1 75 4).toInt ∧ (w.2.1 75 4).toInt ≤ 11 := hm.2.1 75 4 (1, 11) (by decide +kernel)
theorem m75_nb {w : sm_W} (hm : en_mem kl_tb klX w) : kl_nb w.2.1 75 := by
  have a := m75_w hm
  exact ⟨a.1, by omega, (m75_X hm).1⟩
theorem m75_S {w : sm_W} (hm : en_mem kl_tb klX w) (t : Nat) (ht : t < 11) : 0 ≤ (w.2.1 77 t).toInt ∧ (w.2.1 77 t).toInt ≤ 11 - 1 := by
  have e : en_int kl_tb 77 t = bif Nat.blt t 11 then some (0, 11 - 1) else none := rfl
  have b : Nat.blt t 11 = true := by rw [Nat.blt]; exact Nat.ble_eq_true_of_le ht
  rw [b] at e
  exact hm.2.1 77 t _ e
theorem m75_mem {I I' : sm_I} {L L' : sm_L} {R : sm_R} (hm : en_mem kl_tb klX (xLay, I, L, R)) (hb : kl_bl 75 76 77 78 79 I I') (hn : kl_nb I' 75) (hw : (I' 75 4).toInt ≤ 11) (hs : ∀ t : Nat, (t : Int) < (I' 75 4).toInt → 0 ≤ (I' 77 t).toInt ∧ (I' 77 t).toInt < (I' 75 4).toInt) (h2 : ∀ t : Nat, t < 11 → 0 ≤ (I' 77 t).toInt ∧ (I' 77 t).toInt ≤ 11 - 1) (hL : ∀ j, L' 114 j = L 114 j := by intro _; rfl) : en_mem kl_tb klX (xLay, I', L', R) := by
  have q := kl_nbA hn
  have q2 : (I' 75 5).toInt ≤ 11 * 11 := by
    rw [hn.2.2]; exact Int.mul_le_mul hw hw (by have := hn.1; omega) (by decide)
  refine ⟨hm.1, ?_, hm.2.2.1, hm.2.2.2.1, ⟨rfl, ?_⟩⟩
  · intro p j r hr
    show r.1 ≤ (I' p j).toInt ∧ (I' p j).toInt ≤ r.2
    by_cases e1 : p = 76
    · subst e1; rw [kl_full (a := 76) (n := 7381) (fun _ => rfl) j r hr]; exact en_crange
    by_cases e3 : p = 78
    · subst e3; rw [kl_full (a := 78) (n := 11) (fun _ => rfl) j r hr]; exact en_crange
    by_cases e4 : p = 79
    · subst e4; rw [kl_full (a := 79) (n := 11) (fun _ => rfl) j r hr]; exact en_crange
    by_cases e2 : p = 77
    · subst e2
      have e : en_int kl_tb 77 j = bif Nat.blt j 11 then some (0, 11 - 1) else none := rfl
      cases b : Nat.blt j 11 with
      | true =>
        rw [e, b] at hr
        have : r = (0, 11 - 1) := (Option.some.inj hr).symm
        rw [this]
        exact h2 j (Nat.le_of_ble_eq_true b)
      | false => rw [e, b] at hr; cases hr
    by_cases e5 : p = 75 ∧ (j = 4 ∨ j = 5)
    · obtain ⟨e5, e6⟩ := e5
      subst e5
      rcases e6 with e6 | e6
      · subst e6
        have e : en_int kl_tb 75 4 = some (1, 11) := by decide +kernel
        rw [e] at hr
        rw [← Option.some.inj hr]
        exact ⟨hn.1, hw⟩
      · subst e6
        have e : en_int kl_tb 75 5 = some (1, 11 * 11) := by decide +kernel
        rw [e] at hr
        rw [← Option.some.inj hr]
        exact ⟨q.1, q2⟩
    rw [hb p j e1 e2 e3 e4 e5]
    exact hm.2.1 p j r hr
  · have own : kl_net I' 75 77 := ⟨hn.2.2, hs⟩
    have oth : ∀ p q : Nat, p ≠ 75 → (p ≠ 76 ∧ p ≠ 77 ∧ p ≠ 78 ∧ p ≠ 79) → (q ≠ 76 ∧ q ≠ 77 ∧ q ≠ 78 ∧ q ≠ 79 ∧ q ≠ 75) → kl_net I p q → kl_net I' p q := fun p q h0 h1 h2 h => kl_net_cg (hb p 4 h1.1 h1.2.1 h1.2.2.1 h1.2.2.2 (fun e => h0 e.1)) (hb p 5 h1.1 h1.2.1 h1.2.2.1 h1.2.2.2 (fun e => h0 e.1)) (fun i => hb q i h2.1 h2.2.1 h2.2.2.1 h2.2.2.2.1 (fun e => h2.2.2.2.2 e.1)) h
    exact ⟨own, oth 83 85 (by decide) (by decide) (by decide) hm.2.2.2.2.2.2.1, oth 91 93 (by decide) (by decide) (by decide) hm.2.2.2.2.2.2.2.1, pk_cg hL hm.2.2.2.2.2.2.2.2⟩
theorem klh_0 {Sc : sm_C} : en_hold kl_tb klX sm_P Sc klc_0 := by
  intro d hd vs w hv hm _
  obtain ⟨lay, I, L, R⟩ := w
  obtain ⟨vs1, rfl, hv1⟩ := kl_vr (q := 75) rfl hv
  obtain ⟨x1, vs2, rfl, b1, hv2⟩ := kl_vi hv1
  obtain ⟨x2, vs3, rfl, b2, hv3⟩ := kl_vi hv2
  obtain ⟨x3, vs4, rfl, b3, hv4⟩ := kl_vi hv3
  obtain ⟨x4, vs5, rfl, b4, hv5⟩ := kl_vi hv4
  obtain rfl := kl_v0 hv5
  obtain rfl : lay = xLay := hm.2.2.2.2.1
  have e : kR 75 R = R := m75_R hm
  obtain ⟨d, rfl⟩ : ∃ d', d = d' + 1 := ⟨d - 1, by have : 2 ≤ d := hd; omega⟩
  show sm_wp sm_P Sc (d + 1) 256 0 _ [] (xLay, I, L, R) (0, 0) _
  rw [← e]
  refine n75_tighten (m75_nb hm) (m75_w hm).2 (m75_X hm) b1.2 (fun r I' hr o => ?_)
  rw [e]
  refine ⟨Or.inl ⟨rfl, ?_⟩, kl_mem_only hm o (kl_full (n := 7381) (fun _ => rfl)) (by decide), kl_fr_only o⟩
  rcases hr with hr | hr <;> subst hr <;> decide
theorem klh_2 {Sc : sm_C} : en_hold kl_tb klX sm_P Sc klc_2 := by
  intro d hd vs w hv hm _
  obtain ⟨lay, I, L, R⟩ := w
  obtain ⟨vs1, rfl, hv1⟩ := kl_vr (q := 75) rfl hv
  obtain ⟨x1, vs2, rfl, b1, hv2⟩ := kl_vi hv1
  obtain rfl := kl_v0 hv2
  obtain rfl : lay = xLay := hm.2.2.2.2.1
  have e : kR 75 R = R := m75_R hm
  obtain ⟨d, rfl⟩ : ∃ d', d = d' + 1 := ⟨d - 1, by have : 2 ≤ d := hd; omega⟩
  show sm_wp sm_P Sc (d + 1) 248 0 _ [] (xLay, I, L, R) (0, 0) _
  rw [← e]
  refine n75_copyUp (m75_nb hm) b1.2 (fun I' o => ?_)
  rw [e]
  exact ⟨rfl, kl_mem_only hm o (kl_full (n := 7381) (fun _ => rfl)) (by decide), kl_fr_only o⟩
theorem klh_20 {Sc : sm_C} : en_hold kl_tb klX sm_P Sc klc_20 := by
  intro d hd vs w hv hm _
  obtain ⟨lay, I, L, R⟩ := w
  obtain ⟨vs1, rfl, hv1⟩ := kl_vr (q := 75) rfl hv
  obtain ⟨x1, vs2, rfl, b1, hv2⟩ := kl_vi hv1
  obtain ⟨x2, vs3, rfl, b2, hv3⟩ := kl_vi hv2
  obtain ⟨x3, vs4, rfl, b3, hv4⟩ := kl_vi hv3
  obtain rfl := kl_v0 hv4
  obtain rfl : lay = xLay := hm.2.2.2.2.1
  have e : kR 75 R = R := m75_R hm
  obtain ⟨d, rfl⟩ : ∃ d', d = d' + 1 := ⟨d - 1, by have : 2 ≤ d := hd; omega⟩
  show sm_wp sm_P Sc (d + 1) 255 0 _ [] (xLay, I, L, R) (0, 0) _
  rw [← e]
  refine n75_reach (m75_nb hm) b1.2 (fun r => ?_)
  rw [e]
  exact ⟨Or.inl ⟨rfl, en_crange⟩, hm, en_fr_rf⟩
theorem klh_86 {Sc : sm_C} : en_hold kl_tb klX sm_P Sc klc_86 := by
  intro d hd vs w hv hm _
  obtain ⟨lay, I, L, R⟩ := w
  obtain ⟨vs1, rfl, hv1⟩ := kl_vr (q := 75) rfl hv
  obtain ⟨x1, vs2, rfl, b1, hv2⟩ := kl_vi hv1
  obtain rfl := kl_v0 hv2
  obtain rfl : lay = xLay := hm.2.2.2.2.1
  have e : kR 75 R = R := m75_R hm
  show sm_wp sm_P Sc d 247 0 _ [] (xLay, I, L, R) (0, 0) _
  rw [← e]
  refine n75_blank (m75_S hm) ?_ (fun I' hb hn hw hs h2 => ?_)
  · rw [e]; exact ⟨rfl, hm, en_fr_rf⟩
  · rw [e]; exact ⟨rfl, m75_mem hm hb hn hw hs h2, kl_fr_bl hb⟩
/-! the net 83 -/
theorem m83_R {w : sm_W} (hm : en_mem kl_tb klX w) : kR 83 w.2.2.2 = w.2.2.2 := kR_eq (fun j hj => by
  have : j = 0 ∨ j = 1 ∨ j = 2 ∨ j = 3 := by omega
  rcases this with e | e | e | e <;> subst e
  · exact kl_ref hm (by decide +kernel)
  · exact kl_ref hm (by decide +kernel)
  · exact kl_ref hm (by decide +kernel)
  · exact kl_ref hm (by decide +kernel))
theorem m83_X {w : sm_W} (hm : en_mem kl_tb klX w) : kl_net w.2.1 83 85 := hm.2.2.2.2.2.2.1
theorem m83_w {w : sm_W} (hm : en_mem kl_tb klX w) : 1 ≤ (w.2.1 83 4).toInt ∧ (w.2.1 83 4).toInt ≤ 11 := hm.2.1 83 4 (1, 11) (by decide +kernel)
theorem m83_nb {w : sm_W} (hm : en_mem kl_tb klX w) : kl_nb w.2.1 83 := by
  have a := m83_w hm
  exact ⟨a.1, by omega, (m83_X hm).1⟩
theorem m83_S {w : sm_W} (hm : en_mem kl_tb klX w) (t : Nat) (ht : t < 11) : 0 ≤ (w.2.1 85 t).toInt ∧ (w.2.1 85 t).toInt ≤ 11 - 1 := by
  have e : en_int kl_tb 85 t = bif Nat.blt t 11 then some (0, 11 - 1) else none := rfl
  have b : Nat.blt t 11 = true := by rw [Nat.blt]; exact Nat.ble_eq_true_of_le ht
  rw [b] at e
  exact hm.2.1 85 t _ e
theorem m83_mem {I I' : sm_I} {L L' : sm_L} {R : sm_R} (hm : en_mem kl_tb klX (xLay, I, L, R)) (hb : kl_bl 83 84 85 86 87 I I') (hn : kl_nb I' 83) (hw : (I' 83 4).toInt ≤ 11) (hs : ∀ t : Nat, (t : Int) < (I' 83 4).toInt → 0 ≤ (I' 85 t).toInt ∧ (I' 85 t).toInt < (I' 83 4).toInt) (h2 : ∀ t : Nat, t < 11 → 0 ≤ (I' 85 t).toInt ∧ (I' 85 t).toInt ≤ 11 - 1) (hL : ∀ j, L' 114 j = L 114 j := by intro _; rfl) : en_mem kl_tb klX (xLay, I', L', R) := by
  have q := kl_nbA hn
  have q2 : (I' 83 5).toInt ≤ 11 * 11 := by
    rw [hn.2.2]; exact Int.mul_le_mul hw hw (by have := hn.1; omega) (by decide)
  refine ⟨hm.1, ?_, hm.2.2.1, hm.2.2.2.1, ⟨rfl, ?_⟩⟩
  · intro p j r hr
    show r.1 ≤ (I' p j).toInt ∧ (I' p j).toInt ≤ r.2
    by_cases e1 : p = 84
    · subst e1; rw [kl_full (a := 84) (n := 6776) (fun _ => rfl) j r hr]; exact en_crange
    by_cases e3 : p = 86
    · subst e3; rw [kl_full (a := 86) (n := 11) (fun _ => rfl) j r hr]; exact en_crange
    by_cases e4 : p = 87
    · subst e4; rw [kl_full (a := 87) (n := 11) (fun _ => rfl) j r hr]; exact en_crange
    by_cases e2 : p = 85
    · subst e2
      have e : en_int kl_tb 85 j = bif Nat.blt j 11 then some (0, 11 - 1) else none := rfl
      cases b : Nat.blt j 11 with
      | true =>
        rw [e, b] at hr
        have : r = (0, 11 - 1) := (Option.some.inj hr).symm
        rw [this]
        exact h2 j (Nat.le_of_ble_eq_true b)
      | false => rw [e, b] at hr; cases hr
    by_cases e5 : p = 83 ∧ (j = 4 ∨ j = 5)
    · obtain ⟨e5, e6⟩ := e5
      subst e5
      rcases e6 with e6 | e6
      · subst e6
        have e : en_int kl_tb 83 4 = some (1, 11) := by decide +kernel
        rw [e] at hr
        rw [← Option.some.inj hr]
        exact ⟨hn.1, hw⟩
      · subst e6
        have e : en_int kl_tb 83 5 = some (1, 11 * 11) := by decide +kernel
        rw [e] at hr
        rw [← Option.some.inj hr]
        exact ⟨q.1, q2⟩
    rw [hb p j e1 e2 e3 e4 e5]
    exact hm.2.1 p j r hr
  · have own : kl_net I' 83 85 := ⟨hn.2.2, hs⟩
    have oth : ∀ p q : Nat, p ≠ 83 → (p ≠ 84 ∧ p ≠ 85 ∧ p ≠ 86 ∧ p ≠ 87) → (q ≠ 84 ∧ q ≠ 85 ∧ q ≠ 86 ∧ q ≠ 87 ∧ q ≠ 83) → kl_net I p q → kl_net I' p q := fun p q h0 h1 h2 h => kl_net_cg (hb p 4 h1.1 h1.2.1 h1.2.2.1 h1.2.2.2 (fun e => h0 e.1)) (hb p 5 h1.1 h1.2.1 h1.2.2.1 h1.2.2.2 (fun e => h0 e.1)) (fun i => hb q i h2.1 h2.2.1 h2.2.2.1 h2.2.2.2.1 (fun e => h2.2.2.2.2 e.1)) h
    exact ⟨oth 75 77 (by decide) (by decide) (by decide) hm.2.2.2.2.2.1, own, oth 91 93 (by decide) (by decide) (by decide) hm.2.2.2.2.2.2.2.1, pk_cg hL hm.2.2.2.2.2.2.2.2⟩
theorem klh_90 {Sc : sm_C} : en_hold kl_tb klX sm_P Sc klc_90 := by
  intro d hd vs w hv hm _
  obtain ⟨lay, I, L, R⟩ := w
  obtain ⟨vs1, rfl, hv1⟩ := kl_vr (q := 83) rfl hv
  obtain ⟨x1, vs2, rfl, b1, hv2⟩ := kl_vi hv1
  obtain ⟨x2, vs3, rfl, b2, hv3⟩ := kl_vi hv2
  obtain ⟨x3, vs4, rfl, b3, hv4⟩ := kl_vi hv3
  obtain ⟨x4, vs5, rfl, b4, hv5⟩ := kl_vi hv4
  obtain rfl := kl_v0 hv5
  obtain rfl : lay = xLay := hm.2.2.2.2.1
  have e : kR 83 R = R := m83_R hm
  obtain ⟨d, rfl⟩ : ∃ d', d = d' + 1 := ⟨d - 1, by have : 2 ≤ d := hd; omega⟩
  show sm_wp sm_P Sc (d + 1) 256 0 _ [] (xLay, I, L, R) (0, 0) _
  rw [← e]
  refine n83_tighten (m83_nb hm) (m83_w hm).2 (m83_X hm) b1.2 (fun r I' hr o => ?_)
  rw [e]
  refine ⟨Or.inl ⟨rfl, ?_⟩, kl_mem_only hm o (kl_full (n := 6776) (fun _ => rfl)) (by decide), kl_fr_only o⟩
  rcases hr with hr | hr <;> subst hr <;> decide
theorem klh_105 {Sc : sm_C} : en_hold kl_tb klX sm_P Sc klc_105 := by
  intro d hd vs w hv hm _
  obtain ⟨lay, I, L, R⟩ := w
  obtain ⟨vs1, rfl, hv1⟩ := kl_vr (q := 83) rfl hv
  obtain ⟨x1, vs2, rfl, b1, hv2⟩ := kl_vi hv1
  obtain rfl := kl_v0 hv2
  obtain rfl : lay = xLay := hm.2.2.2.2.1
  have e : kR 83 R = R := m83_R hm
  obtain ⟨d, rfl⟩ : ∃ d', d = d' + 1 := ⟨d - 1, by have : 2 ≤ d := hd; omega⟩
  show sm_wp sm_P Sc (d + 1) 248 0 _ [] (xLay, I, L, R) (0, 0) _
  rw [← e]
  refine n83_copyUp (m83_nb hm) b1.2 (fun I' o => ?_)
  rw [e]
  exact ⟨rfl, kl_mem_only hm o (kl_full (n := 6776) (fun _ => rfl)) (by decide), kl_fr_only o⟩
theorem klh_113 {Sc : sm_C} : en_hold kl_tb klX sm_P Sc klc_113 := by
  intro d hd vs w hv hm _
  obtain ⟨lay, I, L, R⟩ := w
  obtain ⟨vs1, rfl, hv1⟩ := kl_vr (q := 83) rfl hv
  obtain ⟨x1, vs2, rfl, b1, hv2⟩ := kl_vi hv1
  obtain ⟨x2, vs3, rfl, b2, hv3⟩ := kl_vi hv2
  obtain ⟨x3, vs4, rfl, b3, hv4⟩ := kl_vi hv3
  obtain rfl := kl_v0 hv4
  obtain rfl : lay = xLay := hm.2.2.2.2.1
  have e : kR 83 R = R := m83_R hm
  obtain ⟨d, rfl⟩ : ∃ d', d = d' + 1 := ⟨d - 1, by have : 2 ≤ d := hd; omega⟩
  show sm_wp sm_P Sc (d + 1) 255 0 _ [] (xLay, I, L, R) (0, 0) _
  rw [← e]
  refine n83_reach (m83_nb hm) b1.2 (fun r => ?_)
  rw [e]
  exact ⟨Or.inl ⟨rfl, en_crange⟩, hm, en_fr_rf⟩
theorem klh_92 {Sc : sm_C} : en_hold kl_tb klX sm_P Sc klc_92 := by
  intro d hd vs w hv hm _
  obtain ⟨lay, I, L, R⟩ := w
  obtain ⟨vs1, rfl, hv1⟩ := kl_vr (q := 83) rfl hv
  obtain ⟨x1, vs2, rfl, b1, hv2⟩ := kl_vi hv1
  obtain rfl := kl_v0 hv2
  obtain rfl : lay = xLay := hm.2.2.2.2.1
  have e : kR 83 R = R := m83_R hm
  show sm_wp sm_P Sc d 247 0 _ [] (xLay, I, L, R) (0, 0) _
  rw [← e]
  refine n83_blank (m83_S hm) ?_ (fun I' hb hn hw hs h2 => ?_)
  · rw [e]; exact ⟨rfl, hm, en_fr_rf⟩
  · rw [e]; exact ⟨rfl, m83_mem hm hb hn hw hs h2, kl_fr_bl hb⟩
theorem klh_93 {Sc : sm_C} : en_hold kl_tb klX sm_P Sc klc_93 := by
  intro d hd vs w hv hm _
  obtain ⟨lay, I, L, R⟩ := w
  obtain ⟨vs1, rfl, hv1⟩ := kl_vr (q := 83) rfl hv
  obtain ⟨x1, vs2, rfl, b1, hv2⟩ := kl_vi hv1
  obtain ⟨x2, vs3, rfl, b2, hv3⟩ := kl_vi hv2
  obtain ⟨x3, vs4, rfl, b3, hv4⟩ := kl_vi hv3
  obtain ⟨x4, vs5, rfl, b4, hv5⟩ := kl_vi hv4
  obtain rfl := kl_v0 hv5
  obtain rfl : lay = xLay := hm.2.2.2.2.1
  have e : kR 83 R = R := m83_R hm
  obtain ⟨d, rfl⟩ : ∃ d', d = d' + 1 := ⟨d - 1, by have : 1 ≤ d := hd; omega⟩
  show sm_wp sm_P Sc (d + 1) 254 0 _ [] (xLay, I, L, R) (0, 0) _
  rw [← e]
  refine n83_loose (m83_w hm).2 (fun I' hb h4 h5 hO hS => ?_)
  rw [e]
  have w2 : (I 83 4).toInt ≤ 11 := (m83_w hm).2
  refine ⟨rfl, m83_mem hm hb ?_ ?_ ?_ ?_, ⟨rfl, fun p j h => ⟨?_, rfl⟩⟩⟩
  · unfold kl_nb; rw [h4, h5]; exact m83_nb hm
  · rw [h4]; exact w2
  · intro t ht
    rw [h4] at ht ⊢
    rcases hS t with q | q
    · rw [q]; exact (m83_X hm).2 t ht
    · exact q
  · intro t ht
    rcases hS t with q | q
    · rw [q]; exact m83_S hm t ht
    · omega
  · show I' p j = I p j
    rw [hO p (fun e => ?_) (fun e => ?_) (fun e => ?_)]
    · subst e; simp [en_wok, klc_93] at h
    · subst e; simp [en_wok, klc_93] at h
    · subst e; simp [en_wok, klc_93] at h
/-! the net 91 -/
theorem m91_R {w : sm_W} (hm : en_mem kl_tb klX w) : kR 91 w.2.2.2 = w.2.2.2 := kR_eq (fun j hj => by
  have : j = 0 ∨ j = 1 ∨ j = 2 ∨ j = 3 := by omega
  rcases this with e | e | e | e <;> subst e
  · exact kl_ref hm (by decide +kernel)
  · exact kl_ref hm (by decide +kernel)
  · exact kl_ref hm (by decide +kernel)
  · exact kl_ref hm (by decide +kernel))
theorem m91_X {w : sm_W} (hm : en_mem kl_tb klX w) : kl_net w.2.1 91 93 := hm.2.2.2.2.2.2.2.1
theorem m91_w {w : sm_W} (hm : en_mem kl_tb klX w) : 1 ≤ (w.2.1 91 4).toInt ∧ (w.2.1 91 4).toInt ≤ 12 := hm.2.1 91 4 (1, 12) (by decide +kernel)
theorem m91_nb {w : sm_W} (hm : en_mem kl_tb klX w) : kl_nb w.2.1 91 := by
  have a := m91_w hm
  exact ⟨a.1, by omega, (m91_X hm).1⟩
theorem m91_S {w : sm_W} (hm : en_mem kl_tb klX w) (t : Nat) (ht : t < 12) : 0 ≤ (w.2.1 93 t).toInt ∧ (w.2.1 93 t).toInt ≤ 12 - 1 := by
  have e : en_int kl_tb 93 t = bif Nat.blt t 12 then some (0, 12 - 1) else none := rfl
  have b : Nat.blt t 12 = true := by rw [Nat.blt]; exact Nat.ble_eq_true_of_le ht
  rw [b] at e
  exact hm.2.1 93 t _ e
theorem m91_mem {I I' : sm_I} {L L' : sm_L} {R : sm_R} (hm : en_mem kl_tb klX (xLay, I, L, R)) (hb : kl_bl 91 92 93 94 95 I I') (hn : kl_nb I' 91) (hw : (I' 91 4).toInt ≤ 12) (hs : ∀ t : Nat, (t : Int) < (I' 91 4).toInt → 0 ≤ (I' 93 t).toInt ∧ (I' 93 t).toInt < (I' 91 4).toInt) (h2 : ∀ t : Nat, t < 12 → 0 ≤ (I' 93 t).toInt ∧ (I' 93 t).toInt ≤ 12 - 1) (hL : ∀ j, L' 114 j = L 114 j := by intro _; rfl) : en_mem kl_tb klX (xLay, I', L', R) := by
  have q := kl_nbA hn
  have q2 : (I' 91 5).toInt ≤ 12 * 12 := by
    rw [hn.2.2]; exact Int.mul_le_mul hw hw (by have := hn.1; omega) (by decide)
  refine ⟨hm.1, ?_, hm.2.2.1, hm.2.2.2.1, ⟨rfl, ?_⟩⟩
  · intro p j r hr
    show r.1 ≤ (I' p j).toInt ∧ (I' p j).toInt ≤ r.2
    by_cases e1 : p = 92
    · subst e1; rw [kl_full (a := 92) (n := 9504) (fun _ => rfl) j r hr]; exact en_crange
    by_cases e3 : p = 94
    · subst e3; rw [kl_full (a := 94) (n := 12) (fun _ => rfl) j r hr]; exact en_crange
    by_cases e4 : p = 95
    · subst e4; rw [kl_full (a := 95) (n := 12) (fun _ => rfl) j r hr]; exact en_crange
    by_cases e2 : p = 93
    · subst e2
      have e : en_int kl_tb 93 j = bif Nat.blt j 12 then some (0, 12 - 1) else none := rfl
      cases b : Nat.blt j 12 with
      | true =>
        rw [e, b] at hr
        have : r = (0, 12 - 1) := (Option.some.inj hr).symm
        rw [this]
        exact h2 j (Nat.le_of_ble_eq_true b)
      | false => rw [e, b] at hr; cases hr
    by_cases e5 : p = 91 ∧ (j = 4 ∨ j = 5)
    · obtain ⟨e5, e6⟩ := e5
      subst e5
      rcases e6 with e6 | e6
      · subst e6
        have e : en_int kl_tb 91 4 = some (1, 12) := by decide +kernel
        rw [e] at hr
        rw [← Option.some.inj hr]
        exact ⟨hn.1, hw⟩
      · subst e6
        have e : en_int kl_tb 91 5 = some (1, 12 * 12) := by decide +kernel
        rw [e] at hr
        rw [← Option.some.inj hr]
        exact ⟨q.1, q2⟩
    rw [hb p j e1 e2 e3 e4 e5]
    exact hm.2.1 p j r hr
  · have own : kl_net I' 91 93 := ⟨hn.2.2, hs⟩
    have oth : ∀ p q : Nat, p ≠ 91 → (p ≠ 92 ∧ p ≠ 93 ∧ p ≠ 94 ∧ p ≠ 95) → (q ≠ 92 ∧ q ≠ 93 ∧ q ≠ 94 ∧ q ≠ 95 ∧ q ≠ 91) → kl_net I p q → kl_net I' p q := fun p q h0 h1 h2 h => kl_net_cg (hb p 4 h1.1 h1.2.1 h1.2.2.1 h1.2.2.2 (fun e => h0 e.1)) (hb p 5 h1.1 h1.2.1 h1.2.2.1 h1.2.2.2 (fun e => h0 e.1)) (fun i => hb q i h2.1 h2.2.1 h2.2.2.1 h2.2.2.2.1 (fun e => h2.2.2.2.2 e.1)) h
    exact ⟨oth 75 77 (by decide) (by decide) (by decide) hm.2.2.2.2.2.1, oth 83 85 (by decide) (by decide) (by decide) hm.2.2.2.2.2.2.1, own, pk_cg hL hm.2.2.2.2.2.2.2.2⟩
theorem klh_97 {Sc : sm_C} : en_hold kl_tb klX sm_P Sc klc_97 := by
  intro d hd vs w hv hm _
  obtain ⟨lay, I, L, R⟩ := w
  obtain ⟨vs1, rfl, hv1⟩ := kl_vr (q := 91) rfl hv
  obtain ⟨x1, vs2, rfl, b1, hv2⟩ := kl_vi hv1
  obtain ⟨x2, vs3, rfl, b2, hv3⟩ := kl_vi hv2
  obtain ⟨x3, vs4, rfl, b3, hv4⟩ := kl_vi hv3
  obtain ⟨x4, vs5, rfl, b4, hv5⟩ := kl_vi hv4
  obtain rfl := kl_v0 hv5
  obtain rfl : lay = xLay := hm.2.2.2.2.1
  have e : kR 91 R = R := m91_R hm
  obtain ⟨d, rfl⟩ : ∃ d', d = d' + 1 := ⟨d - 1, by have : 2 ≤ d := hd; omega⟩
  show sm_wp sm_P Sc (d + 1) 256 0 _ [] (xLay, I, L, R) (0, 0) _
  rw [← e]
  refine n91_tighten (m91_nb hm) (m91_w hm).2 (m91_X hm) b1.2 (fun r I' hr o => ?_)
  rw [e]
  refine ⟨Or.inl ⟨rfl, ?_⟩, kl_mem_only hm o (kl_full (n := 9504) (fun _ => rfl)) (by decide), kl_fr_only o⟩
  rcases hr with hr | hr <;> subst hr <;> decide
theorem klh_120 {Sc : sm_C} : en_hold kl_tb klX sm_P Sc klc_120 := by
  intro d hd vs w hv hm _
  obtain ⟨lay, I, L, R⟩ := w
  obtain ⟨vs1, rfl, hv1⟩ := kl_vr (q := 91) rfl hv
  obtain ⟨x1, vs2, rfl, b1, hv2⟩ := kl_vi hv1
  obtain rfl := kl_v0 hv2
  obtain rfl : lay = xLay := hm.2.2.2.2.1
  have e : kR 91 R = R := m91_R hm
  obtain ⟨d, rfl⟩ : ∃ d', d = d' + 1 := ⟨d - 1, by have : 2 ≤ d := hd; omega⟩
  show sm_wp sm_P Sc (d + 1) 248 0 _ [] (xLay, I, L, R) (0, 0) _
  rw [← e]
  refine n91_copyUp (m91_nb hm) b1.2 (fun I' o => ?_)
  rw [e]
  exact ⟨rfl, kl_mem_only hm o (kl_full (n := 9504) (fun _ => rfl)) (by decide), kl_fr_only o⟩
theorem klh_117 {Sc : sm_C} : en_hold kl_tb klX sm_P Sc klc_117 := by
  intro d hd vs w hv hm _
  obtain ⟨lay, I, L, R⟩ := w
  obtain ⟨vs1, rfl, hv1⟩ := kl_vr (q := 91) rfl hv
  obtain ⟨x1, vs2, rfl, b1, hv2⟩ := kl_vi hv1
  obtain ⟨x2, vs3, rfl, b2, hv3⟩ := kl_vi hv2
  obtain ⟨x3, vs4, rfl, b3, hv4⟩ := kl_vi hv3
  obtain rfl := kl_v0 hv4
  obtain rfl : lay = xLay := hm.2.2.2.2.1
  have e : kR 91 R = R := m91_R hm
  obtain ⟨d, rfl⟩ : ∃ d', d = d' + 1 := ⟨d - 1, by have : 2 ≤ d := hd; omega⟩
  show sm_wp sm_P Sc (d + 1) 255 0 _ [] (xLay, I, L, R) (0, 0) _
  rw [← e]
  refine n91_reach (m91_nb hm) b1.2 (fun r => ?_)
  rw [e]
  exact ⟨Or.inl ⟨rfl, en_crange⟩, hm, en_fr_rf⟩
theorem klh_99 {Sc : sm_C} : en_hold kl_tb klX sm_P Sc klc_99 := by
  intro d hd vs w hv hm _
  obtain ⟨lay, I, L, R⟩ := w
  obtain ⟨vs1, rfl, hv1⟩ := kl_vr (q := 91) rfl hv
  obtain ⟨x1, vs2, rfl, b1, hv2⟩ := kl_vi hv1
  obtain rfl := kl_v0 hv2
  obtain rfl : lay = xLay := hm.2.2.2.2.1
  have e : kR 91 R = R := m91_R hm
  show sm_wp sm_P Sc d 247 0 _ [] (xLay, I, L, R) (0, 0) _
  rw [← e]
  refine n91_blank (m91_S hm) ?_ (fun I' hb hn hw hs h2 => ?_)
  · rw [e]; exact ⟨rfl, hm, en_fr_rf⟩
  · rw [e]; exact ⟨rfl, m91_mem hm hb hn hw hs h2, kl_fr_bl hb⟩
theorem klh_211 {Sc : sm_C} : en_hold kl_tb klX sm_P Sc klc_211 := by
  intro d hd vs w hv hm _
  obtain ⟨lay, I, L, R⟩ := w
  obtain ⟨vs1, rfl, hv1⟩ := kl_vr (q := 0) rfl hv
  obtain ⟨x1, vs2, rfl, b1, hv2⟩ := kl_vi hv1
  obtain rfl := kl_v0 hv2
  obtain rfl : lay = xLay := hm.2.2.2.2.1
  have b : 0 ≤ (I 0 10).toInt ∧ (I 0 10).toInt ≤ 2000 := hm.2.1 0 10 (0, 2000) (by decide +kernel)
  show sm_wp sm_P Sc d 30 0 _ [] (xLay, I, L, R) (0, 0) _
  have no : en_pr klc_211.2.2.2.1 (some (.int (-1 : Int32))) ∧ en_mem kl_tb klX (xLay, I, L, R) ∧ en_fr klc_211.2.2.2.2.1 (xLay, I, L, R) (xLay, I, L, R) := ⟨Or.inl ⟨rfl, by decide, by decide⟩, hm, en_fr_rf⟩
  refine k0_back_0 ⟨fun _ => no, fun h1 => ⟨fun h2 I1 e1 => ?_, fun _ => no⟩⟩
  have h1 := kl_nlt0 h1
  have h2 := kl_le.mp h2
  have s : (I 0 10 - x1).toInt = (I 0 10).toInt - x1.toInt := by
    rw [Int32.toInt_sub]; exact en_bmod (by omega) (by omega) (Or.inl rfl)
  have g : I1 0 10 = I 0 10 - x1 := by rw [e1]; simp [sm_up]
  refine ⟨Or.inl ⟨rfl, ?_, ?_⟩, ?_, ⟨rfl, fun p j h => ⟨?_, rfl⟩⟩⟩
  · show (-1 : Int) ≤ (I1 0 10).toInt
    rw [g]; omega
  · show (I1 0 10).toInt ≤ 2000
    rw [g]; omega
  · have X := klX_ok.1 xLay (I, L, R) 0 10 (I 0 10 - x1) (by decide +kernel) hm.2.2.2.2
    rw [e1]
    refine ⟨hm.1, ?_, hm.2.2.1, hm.2.2.2.1, X⟩
    intro p j q hq
    show q.1 ≤ (sm_up I 0 10 (I 0 10 - x1) p j).toInt ∧ (sm_up I 0 10 (I 0 10 - x1) p j).toInt ≤ q.2
    by_cases c : p = 0 ∧ j = 10
    · obtain ⟨c1, c2⟩ := c
      subst c1; subst c2
      have e : en_int kl_tb 0 10 = some (0, 2000) := by decide +kernel
      rw [e] at hq
      rw [en_up_eq, ← Option.some.inj hq]
      show (0 : Int) ≤ (I 0 10 - x1).toInt ∧ (I 0 10 - x1).toInt ≤ 2000
      omega
    · rw [en_up_ne _ _ _ _ c]; exact hm.2.1 p j q hq
  · show I1 p j = I p j
    rw [e1]
    refine en_up_ne _ _ _ _ (fun c => ?_)
    obtain ⟨c1, c2⟩ := c
    subst c1; subst c2
    simp [en_wok, klc_211] at h
end
section
/-! methods checked by the engine -/
def klc_1 : en_Ct := (221, [(2, 74, 0), (0, 0, 66), (0, 0, 9), (0, -1, 9), (0, -2147483648, 2147483647), (0, -2147483648, 2147483647)], [], (0, 0, 1), [(76, [])], 3)
def klu_1 : List en_Cu := []
/-! X2_bind -/
theorem klh_1 {Sc : sm_C} : en_hold kl_tb klX sm_P Sc klc_1 := en_chk_ok klX_ok (T := [klc_0]) (cuts := klu_1) (List.forall_mem_cons.mpr ⟨klh_0, fun _ h => absurd h List.not_mem_nil⟩) (by decide +kernel)
def klc_3 : en_Ct := (0, [(2, 103, 0), (2, 12, 0), (0, 0, 4), (0, 0, 65), (0, 0, 2)], [], (0, 0, 1), [(76, [])], 4)
def klu_3 : List en_Cu := []
/-! X0_answer -/
theorem klh_3 {Sc : sm_C} : en_hold kl_tb klX sm_P Sc klc_3 := en_chk_ok klX_ok (T := [klc_1, klc_2, klc_0]) (cuts := klu_3) (List.forall_mem_cons.mpr ⟨klh_1, List.forall_mem_cons.mpr ⟨klh_2, List.forall_mem_cons.mpr ⟨klh_0, fun _ h => absurd h List.not_mem_nil⟩⟩⟩) (by decide +kernel)
def klc_4 : en_Ct := (0, [(2, 103, 0), (2, 49, 0), (0, 0, 4), (0, 0, 65), (0, 0, 2)], [], (0, 0, 1), [(76, [])], 4)
def klu_4 : List en_Cu := []
/-! X0_answer -/
theorem klh_4 {Sc : sm_C} : en_hold kl_tb klX sm_P Sc klc_4 := en_chk_ok klX_ok (T := [klc_1, klc_2, klc_0]) (cuts := klu_4) (List.forall_mem_cons.mpr ⟨klh_1, List.forall_mem_cons.mpr ⟨klh_2, List.forall_mem_cons.mpr ⟨klh_0, fun _ h => absurd h List.not_mem_nil⟩⟩⟩) (by decide +kernel)
def klc_5 : en_Ct := (216, [(2, 45, 0), (0, -2147483648, 2147483647), (0, 0, 144)], [], (0, -2147483648, 2147483647), [], 0)
def klu_5 : List en_Cu := []
/-! X1_choiceOf -/
theorem klh_5 {Sc : sm_C} : en_hold kl_tb klX sm_P Sc klc_5 := en_chk_ok klX_ok (T := []) (cuts := klu_5) (fun _ h => absurd h List.not_mem_nil) (by decide +kernel)
def klc_6 : en_Ct := (19, [(2, 12, 0), (0, -1, 100), (0, -2147483648, 2147483647)], [], (0, -2147483648, 2147483647), [], 0)
def klu_6 : List en_Cu := []
/-! X10_firstSpan -/
theorem klh_6 {Sc : sm_C} : en_hold kl_tb klX sm_P Sc klc_6 := en_chk_ok klX_ok (T := []) (cuts := klu_6) (fun _ h => absurd h List.not_mem_nil) (by decide +kernel)
def klc_7 : en_Ct := (19, [(2, 49, 0), (0, -1, 100), (0, -2147483648, 2147483647)], [], (0, -2147483648, 2147483647), [], 0)
def klu_7 : List en_Cu := []
/-! X10_firstSpan -/
theorem klh_7 {Sc : sm_C} : en_hold kl_tb klX sm_P Sc klc_7 := en_chk_ok klX_ok (T := []) (cuts := klu_7) (fun _ h => absurd h List.not_mem_nil) (by decide +kernel)
def klc_8 : en_Ct := (23, [(2, 12, 0), (0, -1, 100), (0, -2147483648, 2147483647)], [], (0, 0, 3), [], 0)
def klu_8 : List en_Cu := []
/-! X10_partsOf -/
theorem klh_8 {Sc : sm_C} : en_hold kl_tb klX sm_P Sc klc_8 := en_chk_ok klX_ok (T := []) (cuts := klu_8) (fun _ h => absurd h List.not_mem_nil) (by decide +kernel)
def klc_9 : en_Ct := (23, [(2, 49, 0), (0, -1, 100), (0, -2147483648, 2147483647)], [], (0, 0, 3), [], 0)
def klu_9 : List en_Cu := []
/-! X10_partsOf -/
theorem klh_9 {Sc : sm_C} : en_hold kl_tb klX sm_P Sc klc_9 := en_chk_ok klX_ok (T := []) (cuts := klu_9) (fun _ h => absurd h List.not_mem_nil) (by decide +kernel)
def klc_10 : en_Ct := (89, [(2, 36, 0), (0, 0, 99), (0, -2, -2)], [], (0, -2147483648, 2147483647), [], 0)
def klu_10 : List en_Cu := []
/-! X11_valueAt -/
theorem klh_10 {Sc : sm_C} : en_hold kl_tb klX sm_P Sc klc_10 := en_chk_ok klX_ok (T := []) (cuts := klu_10) (fun _ h => absurd h List.not_mem_nil) (by decide +kernel)
def klc_11 : en_Ct := (89, [(2, 73, 0), (0, 0, 99), (0, -2, -2)], [], (0, -2147483648, 2147483647), [], 0)
def klu_11 : List en_Cu := []
/-! X11_valueAt -/
theorem klh_11 {Sc : sm_C} : en_hold kl_tb klX sm_P Sc klc_11 := en_chk_ok klX_ok (T := []) (cuts := klu_11) (fun _ h => absurd h List.not_mem_nil) (by decide +kernel)
def klc_12 : en_Ct := (237, [(2, 74, 0), (0, 100, 144)], [], (0, -2147483648, 2147483647), [], 1)
def klu_12 : List en_Cu := []
/-! X2_walkOf -/
theorem klh_12 {Sc : sm_C} : en_hold kl_tb klX sm_P Sc klc_12 := en_chk_ok klX_ok (T := [klc_10, klc_11]) (cuts := klu_12) (List.forall_mem_cons.mpr ⟨klh_10, List.forall_mem_cons.mpr ⟨klh_11, fun _ h => absurd h List.not_mem_nil⟩⟩) (by decide +kernel)
def klc_13 : en_Ct := (89, [(2, 34, 0), (0, 0, 99), (0, -1, -1)], [], (0, -1, 9), [], 0)
def klu_13 : List en_Cu := []
/-! X11_valueAt -/
theorem klh_13 {Sc : sm_C} : en_hold kl_tb klX sm_P Sc klc_13 := en_chk_ok klX_ok (T := []) (cuts := klu_13) (fun _ h => absurd h List.not_mem_nil) (by decide +kernel)
def klc_14 : en_Ct := (89, [(2, 35, 0), (0, 0, 99), (0, -1, -1)], [], (0, -1, 9), [], 0)
def klu_14 : List en_Cu := []
/-! X11_valueAt -/
theorem klh_14 {Sc : sm_C} : en_hold kl_tb klX sm_P Sc klc_14 := en_chk_ok klX_ok (T := []) (cuts := klu_14) (fun _ h => absurd h List.not_mem_nil) (by decide +kernel)
def klc_15 : en_Ct := (89, [(2, 71, 0), (0, 0, 99), (0, -1, -1)], [], (0, -1, 9), [], 0)
def klu_15 : List en_Cu := []
/-! X11_valueAt -/
theorem klh_15 {Sc : sm_C} : en_hold kl_tb klX sm_P Sc klc_15 := en_chk_ok klX_ok (T := []) (cuts := klu_15) (fun _ h => absurd h List.not_mem_nil) (by decide +kernel)
def klc_16 : en_Ct := (89, [(2, 72, 0), (0, 0, 99), (0, -1, -1)], [], (0, -1, 9), [], 0)
def klu_16 : List en_Cu := []
/-! X11_valueAt -/
theorem klh_16 {Sc : sm_C} : en_hold kl_tb klX sm_P Sc klc_16 := en_chk_ok klX_ok (T := []) (cuts := klu_16) (fun _ h => absurd h List.not_mem_nil) (by decide +kernel)
def klc_17 : en_Ct := (235, [(2, 74, 0), (0, 1, 60), (0, 100, 144), (0, -2147483648, 2147483647)], [], (0, 0, 1), [(76, [])], 3)
def klu_17 : List en_Cu := []
/-! X2_pushMove -/
theorem klh_17 {Sc : sm_C} : en_hold kl_tb klX sm_P Sc klc_17 := en_chk_ok klX_ok (T := [klc_12, klc_0, klc_13, klc_14, klc_15, klc_16]) (cuts := klu_17) (List.forall_mem_cons.mpr ⟨klh_12, List.forall_mem_cons.mpr ⟨klh_0, List.forall_mem_cons.mpr ⟨klh_13, List.forall_mem_cons.mpr ⟨klh_14, List.forall_mem_cons.mpr ⟨klh_15, List.forall_mem_cons.mpr ⟨klh_16, fun _ h => absurd h List.not_mem_nil⟩⟩⟩⟩⟩⟩) (by decide +kernel)
def klc_18 : en_Ct := (234, [(2, 74, 0), (0, 0, 59), (0, 0, 144), (0, -2147483648, 2147483647)], [], (0, 0, 1), [(76, [])], 4)
def klu_18 : List en_Cu := [(6, [(2, 74, 0), (0, 0, 59), (2, 24, 0), (0, 0, 0), (0, -2147483648, 120), (0, 0, 2147483647)], [], [], 4294967295, [0, 0, 0, 0, 0, -2]),
  (6, [(2, 74, 0), (0, 0, 59), (2, 61, 0), (0, 0, 0), (0, -2147483648, 120), (0, 0, 2147483647)], [], [], 4294967295, [0, 0, 0, 0, 0, -2])]
/-! X2_push -/
theorem klh_18 {Sc : sm_C} : en_hold kl_tb klX sm_P Sc klc_18 := en_chk_ok klX_ok (T := [klc_6, klc_7, klc_1, klc_8, klc_9, klc_17, klc_2]) (cuts := klu_18) (List.forall_mem_cons.mpr ⟨klh_6, List.forall_mem_cons.mpr ⟨klh_7, List.forall_mem_cons.mpr ⟨klh_1, List.forall_mem_cons.mpr ⟨klh_8, List.forall_mem_cons.mpr ⟨klh_9, List.forall_mem_cons.mpr ⟨klh_17, List.forall_mem_cons.mpr ⟨klh_2, fun _ h => absurd h List.not_mem_nil⟩⟩⟩⟩⟩⟩⟩) (by decide +kernel)
def klc_19 : en_Ct := (222, [(2, 74, 0), (2, 45, 0), (0, 0, 2147483647)], [], (0, 0, 1), [(74, [6]), (76, []), (81, [])], 5)
def klu_19 : List en_Cu := [(1, [(2, 74, 0), (2, 45, 0), (0, 0, 2147483647), (0, 0, 60)], [], [], 121, [0, 0, 0, -2])]
/-! X2_bring -/
theorem klh_19 {Sc : sm_C} : en_hold kl_tb klX sm_P Sc klc_19 := en_chk_ok klX_ok (T := [klc_5, klc_18]) (cuts := klu_19) (List.forall_mem_cons.mpr ⟨klh_5, List.forall_mem_cons.mpr ⟨klh_18, fun _ h => absurd h List.not_mem_nil⟩⟩) (by decide +kernel)
def klc_21 : en_Ct := (224, [(2, 74, 0), (0, -3, 60), (0, 0, 9), (0, -1, 9), (0, 0, 1)], [], (0, -2147483648, 2147483647), [], 3)
def klu_21 : List en_Cu := []
/-! X2_distance -/
theorem klh_21 {Sc : sm_C} : en_hold kl_tb klX sm_P Sc klc_21 := en_chk_ok klX_ok (T := [klc_20]) (cuts := klu_21) (List.forall_mem_cons.mpr ⟨klh_20, fun _ h => absurd h List.not_mem_nil⟩) (by decide +kernel)
def klc_22 : en_Ct := (1, [(2, 103, 0), (2, 12, 0), (0, 0, 4), (0, 0, 1)], [], (0, -2147483648, 2147483647), [(74, [6]), (76, []), (81, [])], 6)
def klu_22 : List en_Cu := [(1, [(2, 103, 0), (2, 12, 0), (0, 0, 4), (0, 0, 1), (0, -2147483648, 2147483647), (0, 0, 2147483647)], [], [], 4294967295, [0, 0, 0, 0, 0, -2])]
/-! X0_answered -/
theorem klh_22 {Sc : sm_C} : en_hold kl_tb klX sm_P Sc klc_22 := en_chk_ok klX_ok (T := [klc_19, klc_21]) (cuts := klu_22) (List.forall_mem_cons.mpr ⟨klh_19, List.forall_mem_cons.mpr ⟨klh_21, fun _ h => absurd h List.not_mem_nil⟩⟩) (by decide +kernel)
def klc_23 : en_Ct := (1, [(2, 103, 0), (2, 49, 0), (0, 0, 4), (0, 0, 1)], [], (0, -2147483648, 2147483647), [(74, [6]), (76, []), (81, [])], 6)
def klu_23 : List en_Cu := [(1, [(2, 103, 0), (2, 49, 0), (0, 0, 4), (0, 0, 1), (0, -2147483648, 2147483647), (0, 0, 2147483647)], [], [], 4294967295, [0, 0, 0, 0, 0, -2])]
/-! X0_answered -/
theorem klh_23 {Sc : sm_C} : en_hold kl_tb klX sm_P Sc klc_23 := en_chk_ok klX_ok (T := [klc_19, klc_21]) (cuts := klu_23) (List.forall_mem_cons.mpr ⟨klh_19, List.forall_mem_cons.mpr ⟨klh_21, fun _ h => absurd h List.not_mem_nil⟩⟩) (by decide +kernel)
def klc_24 : en_Ct := (10, [(2, 103, 0), (2, 12, 0), (0, 0, 63), (0, 5, 5), (0, 5, 66), (0, -2147483648, 2147483647)], [], (9, 0, 0), [(104, [])], 0)
def klu_24 : List en_Cu := []
/-! X0_spread -/
theorem klh_24 {Sc : sm_C} : en_hold kl_tb klX sm_P Sc klc_24 := en_chk_ok klX_ok (T := []) (cuts := klu_24) (fun _ h => absurd h List.not_mem_nil) (by decide +kernel)
def klc_25 : en_Ct := (10, [(2, 103, 0), (2, 12, 0), (0, 0, 63), (0, 4, 4), (0, 4, 65), (0, -2147483648, 2147483647)], [], (9, 0, 0), [(76, []), (104, [])], 5)
def klu_25 : List en_Cu := [(6, [(2, 103, 0), (2, 12, 0), (0, 0, 63), (0, 4, 4), (0, 4, 65), (0, -2147483648, 2147483647), (0, 0, 3)], [], [], 7, [0, 0, 0, 0, 0, 0, -2])]
/-! X0_spread -/
theorem klh_25 {Sc : sm_C} : en_hold kl_tb klX sm_P Sc klc_25 := en_chk_ok klX_ok (T := [klc_3, klc_24]) (cuts := klu_25) (List.forall_mem_cons.mpr ⟨klh_3, List.forall_mem_cons.mpr ⟨klh_24, fun _ h => absurd h List.not_mem_nil⟩⟩) (by decide +kernel)
def klc_26 : en_Ct := (10, [(2, 103, 0), (2, 12, 0), (0, 0, 63), (0, 3, 3), (0, 3, 64), (0, -2147483648, 2147483647)], [], (9, 0, 0), [(76, []), (104, [])], 6)
def klu_26 : List en_Cu := [(6, [(2, 103, 0), (2, 12, 0), (0, 0, 63), (0, 3, 3), (0, 3, 64), (0, -2147483648, 2147483647), (0, 0, 3)], [], [], 7, [0, 0, 0, 0, 0, 0, -2])]
/-! X0_spread -/
theorem klh_26 {Sc : sm_C} : en_hold kl_tb klX sm_P Sc klc_26 := en_chk_ok klX_ok (T := [klc_3, klc_25]) (cuts := klu_26) (List.forall_mem_cons.mpr ⟨klh_3, List.forall_mem_cons.mpr ⟨klh_25, fun _ h => absurd h List.not_mem_nil⟩⟩) (by decide +kernel)
def klc_27 : en_Ct := (10, [(2, 103, 0), (2, 12, 0), (0, 0, 63), (0, 2, 2), (0, 2, 63), (0, -2147483648, 2147483647)], [], (9, 0, 0), [(76, []), (104, [])], 7)
def klu_27 : List en_Cu := [(6, [(2, 103, 0), (2, 12, 0), (0, 0, 63), (0, 2, 2), (0, 2, 63), (0, -2147483648, 2147483647), (0, 0, 3)], [], [], 7, [0, 0, 0, 0, 0, 0, -2])]
/-! X0_spread -/
theorem klh_27 {Sc : sm_C} : en_hold kl_tb klX sm_P Sc klc_27 := en_chk_ok klX_ok (T := [klc_3, klc_26]) (cuts := klu_27) (List.forall_mem_cons.mpr ⟨klh_3, List.forall_mem_cons.mpr ⟨klh_26, fun _ h => absurd h List.not_mem_nil⟩⟩) (by decide +kernel)
def klc_28 : en_Ct := (10, [(2, 103, 0), (2, 12, 0), (0, 0, 63), (0, 1, 1), (0, 1, 61), (0, -2147483648, 2147483647)], [], (9, 0, 0), [(76, []), (104, [])], 8)
def klu_28 : List en_Cu := [(6, [(2, 103, 0), (2, 12, 0), (0, 0, 63), (0, 1, 1), (0, 1, 61), (0, -2147483648, 2147483647), (0, 0, 3)], [], [], 7, [0, 0, 0, 0, 0, 0, -2])]
/-! X0_spread -/
theorem klh_28 {Sc : sm_C} : en_hold kl_tb klX sm_P Sc klc_28 := en_chk_ok klX_ok (T := [klc_3, klc_27]) (cuts := klu_28) (List.forall_mem_cons.mpr ⟨klh_3, List.forall_mem_cons.mpr ⟨klh_27, fun _ h => absurd h List.not_mem_nil⟩⟩) (by decide +kernel)
def klc_29 : en_Ct := (10, [(2, 103, 0), (2, 12, 0), (0, 0, 63), (0, 0, 0), (0, 0, 60), (0, -1, -1)], [], (9, 0, 0), [(76, []), (104, [])], 9)
def klu_29 : List en_Cu := [(6, [(2, 103, 0), (2, 12, 0), (0, 0, 63), (0, 0, 0), (0, 0, 60), (0, -1, -1), (0, 0, 3)], [], [], 7, [0, 0, 0, 0, 0, 0, -2])]
/-! X0_spread -/
theorem klh_29 {Sc : sm_C} : en_hold kl_tb klX sm_P Sc klc_29 := en_chk_ok klX_ok (T := [klc_3, klc_28]) (cuts := klu_29) (List.forall_mem_cons.mpr ⟨klh_3, List.forall_mem_cons.mpr ⟨klh_28, fun _ h => absurd h List.not_mem_nil⟩⟩) (by decide +kernel)
def klc_30 : en_Ct := (10, [(2, 103, 0), (2, 49, 0), (0, 0, 63), (0, 5, 5), (0, 5, 66), (0, -2147483648, 2147483647)], [], (9, 0, 0), [(104, [])], 0)
def klu_30 : List en_Cu := []
/-! X0_spread -/
theorem klh_30 {Sc : sm_C} : en_hold kl_tb klX sm_P Sc klc_30 := en_chk_ok klX_ok (T := []) (cuts := klu_30) (fun _ h => absurd h List.not_mem_nil) (by decide +kernel)
def klc_31 : en_Ct := (10, [(2, 103, 0), (2, 49, 0), (0, 0, 63), (0, 4, 4), (0, 4, 65), (0, -2147483648, 2147483647)], [], (9, 0, 0), [(76, []), (104, [])], 5)
def klu_31 : List en_Cu := [(6, [(2, 103, 0), (2, 49, 0), (0, 0, 63), (0, 4, 4), (0, 4, 65), (0, -2147483648, 2147483647), (0, 0, 3)], [], [], 7, [0, 0, 0, 0, 0, 0, -2])]
/-! X0_spread -/
theorem klh_31 {Sc : sm_C} : en_hold kl_tb klX sm_P Sc klc_31 := en_chk_ok klX_ok (T := [klc_4, klc_30]) (cuts := klu_31) (List.forall_mem_cons.mpr ⟨klh_4, List.forall_mem_cons.mpr ⟨klh_30, fun _ h => absurd h List.not_mem_nil⟩⟩) (by decide +kernel)
def klc_32 : en_Ct := (10, [(2, 103, 0), (2, 49, 0), (0, 0, 63), (0, 3, 3), (0, 3, 64), (0, -2147483648, 2147483647)], [], (9, 0, 0), [(76, []), (104, [])], 6)
def klu_32 : List en_Cu := [(6, [(2, 103, 0), (2, 49, 0), (0, 0, 63), (0, 3, 3), (0, 3, 64), (0, -2147483648, 2147483647), (0, 0, 3)], [], [], 7, [0, 0, 0, 0, 0, 0, -2])]
/-! X0_spread -/
theorem klh_32 {Sc : sm_C} : en_hold kl_tb klX sm_P Sc klc_32 := en_chk_ok klX_ok (T := [klc_4, klc_31]) (cuts := klu_32) (List.forall_mem_cons.mpr ⟨klh_4, List.forall_mem_cons.mpr ⟨klh_31, fun _ h => absurd h List.not_mem_nil⟩⟩) (by decide +kernel)
def klc_33 : en_Ct := (10, [(2, 103, 0), (2, 49, 0), (0, 0, 63), (0, 2, 2), (0, 2, 63), (0, -2147483648, 2147483647)], [], (9, 0, 0), [(76, []), (104, [])], 7)
def klu_33 : List en_Cu := [(6, [(2, 103, 0), (2, 49, 0), (0, 0, 63), (0, 2, 2), (0, 2, 63), (0, -2147483648, 2147483647), (0, 0, 3)], [], [], 7, [0, 0, 0, 0, 0, 0, -2])]
/-! X0_spread -/
theorem klh_33 {Sc : sm_C} : en_hold kl_tb klX sm_P Sc klc_33 := en_chk_ok klX_ok (T := [klc_4, klc_32]) (cuts := klu_33) (List.forall_mem_cons.mpr ⟨klh_4, List.forall_mem_cons.mpr ⟨klh_32, fun _ h => absurd h List.not_mem_nil⟩⟩) (by decide +kernel)
def klc_34 : en_Ct := (10, [(2, 103, 0), (2, 49, 0), (0, 0, 63), (0, 1, 1), (0, 1, 61), (0, -2147483648, 2147483647)], [], (9, 0, 0), [(76, []), (104, [])], 8)
def klu_34 : List en_Cu := [(6, [(2, 103, 0), (2, 49, 0), (0, 0, 63), (0, 1, 1), (0, 1, 61), (0, -2147483648, 2147483647), (0, 0, 3)], [], [], 7, [0, 0, 0, 0, 0, 0, -2])]
/-! X0_spread -/
theorem klh_34 {Sc : sm_C} : en_hold kl_tb klX sm_P Sc klc_34 := en_chk_ok klX_ok (T := [klc_4, klc_33]) (cuts := klu_34) (List.forall_mem_cons.mpr ⟨klh_4, List.forall_mem_cons.mpr ⟨klh_33, fun _ h => absurd h List.not_mem_nil⟩⟩) (by decide +kernel)
def klc_35 : en_Ct := (10, [(2, 103, 0), (2, 49, 0), (0, 0, 63), (0, 0, 0), (0, 0, 60), (0, -1, -1)], [], (9, 0, 0), [(76, []), (104, [])], 9)
def klu_35 : List en_Cu := [(6, [(2, 103, 0), (2, 49, 0), (0, 0, 63), (0, 0, 0), (0, 0, 60), (0, -1, -1), (0, 0, 3)], [], [], 7, [0, 0, 0, 0, 0, 0, -2])]
/-! X0_spread -/
theorem klh_35 {Sc : sm_C} : en_hold kl_tb klX sm_P Sc klc_35 := en_chk_ok klX_ok (T := [klc_4, klc_34]) (cuts := klu_35) (List.forall_mem_cons.mpr ⟨klh_4, List.forall_mem_cons.mpr ⟨klh_34, fun _ h => absurd h List.not_mem_nil⟩⟩) (by decide +kernel)
def klc_36 : en_Ct := (9, [(2, 103, 0), (0, 0, 1023), (0, 0, 4)], [], (0, 1, 6), [], 0)
def klu_36 : List en_Cu := []
/-! X0_neededWith -/
def klc_37 : en_Ct := (11, [(2, 103, 0), (2, 12, 0), (0, 0, 1000)], [], (9, 0, 0), [(106, [])], 1)
def klu_37 : List en_Cu := [(1, [(2, 103, 0), (2, 12, 0), (0, 0, 1000), (0, -1, 1023)], [], [], 27, [0, 0, 0, 14]),
  (6, [(2, 103, 0), (2, 12, 0), (0, 0, 1000), (0, 0, 1023), (0, 0, 6), (0, 0, 5)], [], [], 25, [0, 0, 0, 14, 0, -2])]
/-! X0_workOut -/
def klc_38 : en_Ct := (11, [(2, 103, 0), (2, 49, 0), (0, 0, 1000)], [], (9, 0, 0), [(106, [])], 1)
def klu_38 : List en_Cu := [(1, [(2, 103, 0), (2, 49, 0), (0, 0, 1000), (0, -1, 1023)], [], [], 27, [0, 0, 0, 14]),
  (6, [(2, 103, 0), (2, 49, 0), (0, 0, 1000), (0, 0, 1023), (0, 0, 6), (0, 0, 5)], [], [], 25, [0, 0, 0, 14, 0, -2])]
/-! X0_workOut -/
def klc_39 : en_Ct := (12, [(2, 12, 0), (0, 0, 1)], [], (9, 0, 0), [(22, []), (23, [])], 0)
def klu_39 : List en_Cu := []
/-! X10_addPart -/
theorem klh_39 {Sc : sm_C} : en_hold kl_tb klX sm_P Sc klc_39 := en_chk_ok klX_ok (T := []) (cuts := klu_39) (fun _ h => absurd h List.not_mem_nil) (by decide +kernel)
def klc_40 : en_Ct := (12, [(2, 49, 0), (0, 0, 1)], [], (9, 0, 0), [(59, []), (60, [])], 0)
def klu_40 : List en_Cu := []
/-! X10_addPart -/
theorem klh_40 {Sc : sm_C} : en_hold kl_tb klX sm_P Sc klc_40 := en_chk_ok klX_ok (T := []) (cuts := klu_40) (fun _ h => absurd h List.not_mem_nil) (by decide +kernel)
def klc_41 : en_Ct := (13, [(2, 12, 0), (0, 0, 9), (0, -1, 9), (0, -2147483648, 2147483647)], [], (9, 0, 0), [(13, [])], 0)
def klu_41 : List en_Cu := []
/-! X10_addPath -/
theorem klh_41 {Sc : sm_C} : en_hold kl_tb klX sm_P Sc klc_41 := en_chk_ok klX_ok (T := []) (cuts := klu_41) (fun _ h => absurd h List.not_mem_nil) (by decide +kernel)
def klc_42 : en_Ct := (13, [(2, 49, 0), (0, 0, 9), (0, -1, 9), (0, -2147483648, 2147483647)], [], (9, 0, 0), [(50, [])], 0)
def klu_42 : List en_Cu := []
/-! X10_addPath -/
theorem klh_42 {Sc : sm_C} : en_hold kl_tb klX sm_P Sc klc_42 := en_chk_ok klX_ok (T := []) (cuts := klu_42) (fun _ h => absurd h List.not_mem_nil) (by decide +kernel)
end
