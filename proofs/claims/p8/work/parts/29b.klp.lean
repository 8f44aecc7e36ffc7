/-! places in a table of the net -/
theorem kl_rw2 {b x N : Int32} {n : Nat} (b0 : 0 ≤ b.toInt) (b1 : b.toInt + N.toInt * N.toInt ≤ n) (hn : n ≤ 100000) (x0 : 0 ≤ x.toInt) (x1 : x.toInt < N.toInt) : (b + x * N).toInt = b.toInt + x.toInt * N.toInt ∧ 0 ≤ (b + x * N).toInt ∧ (b + x * N).toInt + N.toInt ≤ n := by
  have r := kl_row x0 x1
  have e1 : (x * N).toInt = x.toInt * N.toInt := kl_mul (by omega) (by omega)
  have e2 : (b + x * N).toInt = b.toInt + x.toInt * N.toInt := by rw [kl_add (by rw [e1]; omega) (by rw [e1]; omega), e1]
  omega
theorem kl_ix2 {r y N : Int32} {n : Nat} (r0 : 0 ≤ r.toInt) (r1 : r.toInt + N.toInt ≤ n) (hn : n ≤ 100000) (y0 : 0 ≤ y.toInt) (y1 : y.toInt < N.toInt) : (r + y).toInt = r.toInt + y.toInt ∧ vp_in (r + y) n := by
  have e : (r + y).toInt = r.toInt + y.toInt := kl_add (by omega) (by omega)
  exact ⟨e, kl_in (by omega) (by omega)⟩
theorem kl_inc {x N : Int32} (h0 : 0 ≤ x.toInt) (h1 : x.toInt < N.toInt) : (x + 1).toInt = x.toInt + 1 := by
  have := @en_crange N
  rw [kl_add (by rw [kl_1]; omega) (by rw [kl_1]; omega), kl_1]
theorem kl_nle {x y : Int32} (h : ¬ x ≤ y) : y.toInt < x.toInt := by rw [kl_le] at h; omega
theorem kl_nlt {x y : Int32} (h : ¬ x < y) : y.toInt ≤ x.toInt := by rw [kl_lt] at h; omega
theorem kl_nlt0 {x : Int32} (h : ¬ x < 0) : 0 ≤ x.toInt := by have := kl_nlt h; rw [kl_0] at this; exact this
/-! the net 75 -/
theorem n75_lev {S : sm_C} {d : Nat} {Φ : sm_Z → Prop} {I : sm_I} {L : sm_L} {R : sm_R} {x : Int32} (hn : kl_nb I 75) (hx : x.toInt ≤ 1101) (h : ∀ r : Int32, (r = 0 ∨ (0 ≤ x.toInt ∧ x.toInt * (I 75 5).toInt + (I 75 5).toInt ≤ 7381)) → Φ (some (.int r), (xLay, I, L, kR 75 R))) : sm_wp sm_P S d 249 0 [.ref 75, .int x] [] (xLay, I, L, kR 75 R) (0, 0) Φ := by
  refine k75_hasLevel_0 ⟨fun _ => h 0 (Or.inl rfl), fun h1 => ⟨fun _ => h 0 (Or.inl rfl), fun h2 => h 1 (Or.inr ?_)⟩⟩
  have h1 := kl_nlt0 h1
  have a := kl_nbA hn
  have l := kl_lev (x := x) (A := I 75 5) h1 hx a.1 a.2.1
  have h2 := kl_nlt h2
  rw [l.2.1] at h2
  have e : (Int32.ofNat 7381).toInt = 7381 := by decide
  rw [e] at h2; exact ⟨h1, h2⟩
theorem n75_node {S : sm_C} {d : Nat} {Φ : sm_Z → Prop} {I : sm_I} {L : sm_L} {R : sm_R} {x : Int32} (h : ∀ r : Int32, (r = 0 ∨ (0 ≤ x.toInt ∧ x.toInt < (I 75 4).toInt)) → Φ (some (.int r), (xLay, I, L, kR 75 R))) : sm_wp sm_P S d 250 0 [.ref 75, .int x] [] (xLay, I, L, kR 75 R) (0, 0) Φ := k75_hasNode_0 ⟨fun _ => h 0 (Or.inl rfl), fun h1 => ⟨fun _ => h 0 (Or.inl rfl), fun h2 => h 1 (Or.inr ⟨kl_nlt0 h1, kl_nle h2⟩)⟩⟩
theorem n75_reach {S : sm_C} {d : Nat} {Φ : sm_Z → Prop} {I : sm_I} {L : sm_L} {R : sm_R} {x1 x2 x3 : Int32} (hn : kl_nb I 75) (hx : x1.toInt ≤ 1100) (h : ∀ r : Int32, Φ (some (.int r), (xLay, I, L, kR 75 R))) : sm_wp sm_P S (d + 1) 255 0 [.ref 75, .int x1, .int x2, .int x3] [] (xLay, I, L, kR 75 R) (0, 0) Φ := by
  refine k75_reach_0 (n75_lev hn (by omega) (fun r hr => ⟨r, I, L, rfl, fun _ => h _, fun h1 => n75_node (fun r2 hr2 => ⟨r2, I, L, rfl, fun _ => h _, fun h2 => n75_node (fun r3 hr3 => ⟨r3, I, L, rfl, fun _ => h _, fun h3 => ?_⟩)⟩)⟩))
  obtain ⟨a0, a1⟩ := hr.resolve_left h1
  obtain ⟨b0, b1⟩ := hr2.resolve_left h2
  obtain ⟨c0, c1⟩ := hr3.resolve_left h3
  have q := kl_nbA hn
  have l := kl_lev (x := x1) (A := I 75 5) a0 (by omega) q.1 q.2.1
  have p := kl_pr a0 (show x1.toInt ≤ 1101 by omega) q.1 q.2.1
  have s := kl_rw2 (b := x1 * I 75 5) (x := x2) (N := I 75 4) (n := 7381) (by omega) (by rw [l.1, ← hn.2.2]; exact a1) (by decide) b0 b1
  intro n e
  subst e
  exact ⟨(kl_ix2 s.2.1 s.2.2 (by decide) c0 c1).2, h _⟩
theorem n75_copyUp {S : sm_C} {d : Nat} {Φ : sm_Z → Prop} {I : sm_I} {L : sm_L} {R : sm_R} {x1 : Int32} (hn : kl_nb I 75) (hx : x1.toInt ≤ 1100) (h : ∀ I' : sm_I, kl_only 76 I I' → Φ (none, (xLay, I', L, kR 75 R))) : sm_wp sm_P S (d + 1) 248 0 [.ref 75, .int x1] [] (xLay, I, L, kR 75 R) (0, 0) Φ := by
  have q := kl_nbA hn
  refine k75_copyUp_0 (n75_lev hn (by omega) (fun r hr => ⟨r, I, L, rfl, fun _ => h _ kl_only_rf, fun h1 => ?_⟩))
  obtain ⟨a0, a1⟩ := hr.resolve_left h1
  have l := kl_lev (x := x1) (A := I 75 5) a0 (by omega) q.1 q.2.1
  have p := kl_pr a0 (show x1.toInt ≤ 1101 by omega) q.1 q.2.1
  refine n75_lev hn (by omega) (fun r2 hr2 => ⟨r2, I, L, rfl, fun _ => h _ kl_only_rf, fun h2 => ?_⟩)
  obtain ⟨b0, b1⟩ := hr2.resolve_left h2
  rw [l.2.2, Int.add_mul] at b1
  intro n e
  have e : n.toInt = x1.toInt * (I 75 5).toInt + (I 75 5).toInt := by rw [e]; exact l.2.1
  have f1 := kl_nat (i := x1 * I 75 5) (by omega)
  have f2 := kl_nat (i := n) (by omega)
  have f3 := kl_nat (i := I 75 5) (by omega)
  refine ⟨⟨?_, ?_, ?_, ?_, ?_⟩, fun I8 e8 => ?_⟩
  · rw [kl_lt, kl_0]; omega
  · rw [kl_lt, kl_0]; omega
  · rw [kl_lt, kl_0]; omega
  · omega
  · omega
  · subst e8; exact h _ kl_only_row
theorem n75_row {S : sm_C} {d : Nat} {Φ : sm_Z → Prop} {L : sm_L} {R : sm_R} {x1 x2 x3 : Int32} : ∀ (k : Nat) (I : sm_I) (x4 : Int32), kl_nb I 75 → 0 ≤ x4.toInt → (I 75 4).toInt - x4.toInt ≤ k → 0 ≤ x1.toInt → x1.toInt + (I 75 4).toInt ≤ 7381 → 0 ≤ x3.toInt → x3.toInt + (I 75 4).toInt ≤ 7381 → (∀ I' : sm_I, kl_only 76 I I' → Φ (none, (xLay, I', L, kR 75 R))) → sm_wp sm_P S d 257 1 [.ref 75, .int x1, .int x2, .int x3, .int x4] [] (xLay, I, L, kR 75 R) (0, 0) Φ := by
  intro k
  induction k with
  | zero =>
    intro I x4 hn h0 hk a0 a1 b0 b1 h
    refine k75_tightenRow_1 ⟨fun _ => h _ kl_only_rf, fun h1 => ?_⟩
    have := kl_nle h1
    omega
  | succ k ih =>
    intro I x4 hn h0 hk a0 a1 b0 b1 h
    refine k75_tightenRow_1 ⟨fun _ => h _ kl_only_rf, fun h1 => ?_⟩
    have h1 := kl_nle h1
    have v1 := (kl_ix2 a0 a1 (by decide) h0 h1).2
    have v3 := (kl_ix2 b0 b1 (by decide) h0 h1).2
    have e := kl_inc h0 h1
    refine ⟨v3, fun n _ => ⟨v1, fun _ => ?_, fun _ => ⟨v1, fun I2 e2 => ?_⟩⟩⟩
    · exact ih I (x4 + 1) hn (by omega) (by omega) a0 a1 b0 b1 h
    · have o : kl_only 76 I I2 := by rw [e2]; exact kl_only_up
      have o4 : I2 75 4 = I 75 4 := o 75 4 (by decide)
      exact ih I2 (x4 + 1) (kl_only_nb o (by decide) hn) (by omega) (by rw [o4]; omega) a0 (by rw [o4]; exact a1) b0 (by rw [o4]; exact b1) (fun I' o' => h I' (kl_only_tr o o'))
theorem n75_loop {S : sm_C} {d : Nat} {Φ : sm_Z → Prop} {L : sm_L} {R : sm_R} {x6 x7 x8 x9 x10 : Int32} : ∀ (k : Nat) (I : sm_I) (x11 : Int32), kl_nb I 75 → 0 ≤ x11.toInt → (I 75 4).toInt - x11.toInt ≤ k → 0 ≤ x7.toInt → x7.toInt + (I 75 4).toInt * (I 75 4).toInt ≤ 7381 → 0 ≤ x8.toInt → x8.toInt < (I 75 4).toInt → 0 ≤ x9.toInt → x9.toInt < (I 75 4).toInt → 0 ≤ x10.toInt → x10.toInt + (I 75 4).toInt ≤ 7381 → (∀ (r : Int32) (I' : sm_I), (r = 0 ∨ r = 1) → kl_only 76 I I' → Φ (some (.int r), (xLay, I', L, kR 75 R))) → sm_wp sm_P S (d + 1) 256 21 [.ref 75, .int x6, .int x7, .int x8, .int x9, .int x10, .int x11] [] (xLay, I, L, kR 75 R) (0, 0) Φ := by
  intro k
  induction k with
  | zero =>
    intro I x11 hn h0 hk a0 a1 b0 b1 c0 c1 d0 d1 h
    refine k75_tighten_21 ⟨fun _ => h 1 _ (Or.inr rfl) kl_only_rf, fun h1 => ?_⟩
    have := kl_nle h1
    omega
  | succ k ih =>
    intro I x11 hn h0 hk a0 a1 b0 b1 c0 c1 d0 d1 h
    refine k75_tighten_21 ⟨fun _ => h 1 _ (Or.inr rfl) kl_only_rf, fun h1 => ?_⟩
    have h1 := kl_nle h1
    have s := kl_rw2 (b := x7) (x := x11) (N := I 75 4) (n := 7381) a0 a1 (by decide) h0 h1
    have e := kl_inc h0 h1
    intro n1 e1
    subst e1
    refine ⟨(kl_ix2 s.2.1 s.2.2 (by decide) b0 b1).2, fun n2 _ n3 e3 => ?_⟩
    subst e3
    refine ⟨(kl_ix2 s.2.1 s.2.2 (by decide) c0 c1).2, fun _ => ?_, fun _ => ?_⟩
    · exact ih I (x11 + 1) hn (by omega) (by omega) a0 a1 b0 b1 c0 c1 d0 d1 h
    · refine k75_tightenRow_0 (n75_row (I 75 4).toInt.toNat I 0 hn (by rw [kl_0]; omega) (by rw [kl_0]; omega) s.2.1 s.2.2 d0 d1 (fun I4 o => ⟨I4, L, rfl, ?_⟩))
      have o4 : I4 75 4 = I 75 4 := o 75 4 (by decide)
      exact ih I4 (x11 + 1) (kl_only_nb o (by decide) hn) (by omega) (by rw [o4]; omega) a0 (by rw [o4]; exact a1) b0 (by rw [o4]; exact b1) c0 (by rw [o4]; exact c1) d0 (by rw [o4]; exact d1) (fun r I' hr o' => h r I' hr (kl_only_tr o o'))
theorem n75_tighten {S : sm_C} {d : Nat} {Φ : sm_Z → Prop} {I : sm_I} {L : sm_L} {R : sm_R} {x1 x2 x3 x4 : Int32} (hn : kl_nb I 75) (hw : (I 75 4).toInt ≤ 11) (hs : kl_net I 75 77) (hx : x1.toInt ≤ 1100) (h : ∀ (r : Int32) (I' : sm_I), (r = 0 ∨ r = 1) → kl_only 76 I I' → Φ (some (.int r), (xLay, I', L, kR 75 R))) : sm_wp sm_P S (d + 1) 256 0 [.ref 75, .int x1, .int x2, .int x3, .int x4] [] (xLay, I, L, kR 75 R) (0, 0) Φ := by
  have key : ∀ s0 : Int32, (s0 = 0 ∨ (0 ≤ x1.toInt ∧ x1.toInt * (I 75 5).toInt + (I 75 5).toInt ≤ 7381)) → sm_wp sm_P S (d + 1) 256 4 [.ref 75, .int x1, .int x2, .int x3, .int x4] [.int s0] (xLay, I, L, kR 75 R) (0, 0) Φ := by
    intro s0 h0
    have no : Φ (some (.int (0 : Int32)), (xLay, I, L, kR 75 R)) := h 0 _ (Or.inl rfl) kl_only_rf
    have yes : Φ (some (.int (1 : Int32)), (xLay, I, L, kR 75 R)) := h 1 _ (Or.inr rfl) kl_only_rf
    refine k75_tighten_4 ⟨fun _ => no, fun hs0 => ⟨fun _ => no, fun i0 => ⟨fun _ => no, fun i1 => ⟨fun _ => no, fun j0 => ⟨fun j1 => ⟨fun _ => ⟨fun _ => no, fun _ => yes⟩, fun _ => ?_⟩, fun _ => no⟩⟩⟩⟩⟩
    obtain ⟨a0, a1⟩ := h0.resolve_left hs0
    have i0 := kl_nlt0 i0
    have i1 := kl_nle i1
    have j0 := kl_nlt0 j0
    have j1 := kl_lt.mp j1
    have q := kl_nbA hn
    have l := kl_lev (x := x1) (A := I 75 5) a0 (by omega) q.1 q.2.1
    have p := kl_pr a0 (show x1.toInt ≤ 1101 by omega) q.1 q.2.1
    have vi : vp_in x2 11 := kl_in i0 (by omega)
    have vj : vp_in x3 11 := kl_in j0 (by omega)
    have si := hs.2 x2.toNatClampNeg (by rw [kl_nat i0]; exact i1)
    have sj := hs.2 x3.toNatClampNeg (by rw [kl_nat j0]; exact j1)
    have bb : (x1 * I 75 5).toInt + (I 75 4).toInt * (I 75 4).toInt ≤ ((7381 : Nat) : Int) := by rw [l.1, ← hn.2.2]; exact a1
    have ri := kl_rw2 (b := x1 * I 75 5) (x := I 77 x2.toNatClampNeg) (N := I 75 4) (n := 7381) (by omega) bb (by decide) si.1 si.2
    have rj := kl_rw2 (b := x1 * I 75 5) (x := I 77 x3.toNatClampNeg) (N := I 75 4) (n := 7381) (by omega) bb (by decide) sj.1 sj.2
    refine ⟨vi, vj, fun n1 _ => ⟨vi, vj, fun n2 e2 n3 e3 => ?_⟩⟩
    subst e2; subst e3
    refine ⟨(kl_ix2 rj.2.1 rj.2.2 (by decide) si.1 si.2).2, fun _ n4 e4 => ?_, fun _ => no⟩
    subst e4
    refine ⟨(kl_ix2 ri.2.1 ri.2.2 (by decide) sj.1 sj.2).2, fun _ => ?_, fun _ => yes⟩
    exact n75_loop (I 75 4).toInt.toNat I 0 hn (by rw [kl_0]; omega) (by rw [kl_0]; omega) (by omega) bb si.1 si.2 sj.1 sj.2 rj.2.1 rj.2.2 h
  refine k75_tighten_0 ⟨fun _ => key 0 (Or.inl rfl), fun h1 => ⟨fun _ => key 0 (Or.inl rfl), fun h2 => key 1 (Or.inr ?_)⟩⟩
  have h1 := kl_nlt0 h1
  have a := kl_nbA hn
  have l := kl_lev (x := x1) (A := I 75 5) h1 (by omega) a.1 a.2.1
  have h2 := kl_nlt h2
  rw [l.2.1] at h2
  have e : (Int32.ofNat 7381).toInt = 7381 := by decide
  rw [e] at h2; exact ⟨h1, h2⟩
/-! the net 83 -/
theorem n83_lev {S : sm_C} {d : Nat} {Φ : sm_Z → Prop} {I : sm_I} {L : sm_L} {R : sm_R} {x : Int32} (hn : kl_nb I 83) (hx : x.toInt ≤ 1101) (h : ∀ r : Int32, (r = 0 ∨ (0 ≤ x.toInt ∧ x.toInt * (I 83 5).toInt + (I 83 5).toInt ≤ 6776)) → Φ (some (.int r), (xLay, I, L, kR 83 R))) : sm_wp sm_P S d 249 0 [.ref 83, .int x] [] (xLay, I, L, kR 83 R) (0, 0) Φ := by
  refine k83_hasLevel_0 ⟨fun _ => h 0 (Or.inl rfl), fun h1 => ⟨fun _ => h 0 (Or.inl rfl), fun h2 => h 1 (Or.inr ?_)⟩⟩
  have h1 := kl_nlt0 h1
  have a := kl_nbA hn
  have l := kl_lev (x := x) (A := I 83 5) h1 hx a.1 a.2.1
  have h2 := kl_nlt h2
  rw [l.2.1] at h2
  have e : (Int32.ofNat 6776).toInt = 6776 := by decide
  rw [e] at h2; exact ⟨h1, h2⟩
theorem n83_node {S : sm_C} {d : Nat} {Φ : sm_Z → Prop} {I : sm_I} {L : sm_L} {R : sm_R} {x : Int32} (h : ∀ r : Int32, (r = 0 ∨ (0 ≤ x.toInt ∧ x.toInt < (I 83 4).toInt)) → Φ (some (.int r), (xLay, I, L, kR 83 R))) : sm_wp sm_P S d 250 0 [.ref 83, .int x] [] (xLay, I, L, kR 83 R) (0, 0) Φ := k83_hasNode_0 ⟨fun _ => h 0 (Or.inl rfl), fun h1 => ⟨fun _ => h 0 (Or.inl rfl), fun h2 => h 1 (Or.inr ⟨kl_nlt0 h1, kl_nle h2⟩)⟩⟩
theorem n83_reach {S : sm_C} {d : Nat} {Φ : sm_Z → Prop} {I : sm_I} {L : sm_L} {R : sm_R} {x1 x2 x3 : Int32} (hn : kl_nb I 83) (hx : x1.toInt ≤ 1100) (h : ∀ r : Int32, Φ (some (.int r), (xLay, I, L, kR 83 R))) : sm_wp sm_P S (d + 1) 255 0 [.ref 83, .int x1, .int x2, .int x3] [] (xLay, I, L, kR 83 R) (0, 0) Φ := by
  refine k83_reach_0 (n83_lev hn (by omega) (fun r hr => ⟨r, I, L, rfl, fun _ => h _, fun h1 => n83_node (fun r2 hr2 => ⟨r2, I, L, rfl, fun _ => h _, fun h2 => n83_node (fun r3 hr3 => ⟨r3, I, L, rfl, fun _ => h _, fun h3 => ?_⟩)⟩)⟩))
  obtain ⟨a0, a1⟩ := hr.resolve_left h1
  obtain ⟨b0, b1⟩ := hr2.resolve_left h2
  obtain ⟨c0, c1⟩ := hr3.resolve_left h3
  have q := kl_nbA hn
  have l := kl_lev (x := x1) (A := I 83 5) a0 (by omega) q.1 q.2.1
  have p := kl_pr a0 (show x1.toInt ≤ 1101 by omega) q.1 q.2.1
  have s := kl_rw2 (b := x1 * I 83 5) (x := x2) (N := I 83 4) (n := 6776) (by omega) (by rw [l.1, ← hn.2.2]; exact a1) (by decide) b0 b1
  intro n e
  subst e
  exact ⟨(kl_ix2 s.2.1 s.2.2 (by decide) c0 c1).2, h _⟩
theorem n83_copyUp {S : sm_C} {d : Nat} {Φ : sm_Z → Prop} {I : sm_I} {L : sm_L} {R : sm_R} {x1 : Int32} (hn : kl_nb I 83) (hx : x1.toInt ≤ 1100) (h : ∀ I' : sm_I, kl_only 84 I I' → Φ (none, (xLay, I', L, kR 83 R))) : sm_wp sm_P S (d + 1) 248 0 [.ref 83, .int x1] [] (xLay, I, L, kR 83 R) (0, 0) Φ := by
  have q := kl_nbA hn
  refine k83_copyUp_0 (n83_lev hn (by omega) (fun r hr => ⟨r, I, L, rfl, fun _ => h _ kl_only_rf, fun h1 => ?_⟩))
  obtain ⟨a0, a1⟩ := hr.resolve_left h1
  have l := kl_lev (x := x1) (A := I 83 5) a0 (by omega) q.1 q.2.1
  have p := kl_pr a0 (show x1.toInt ≤ 1101 by omega) q.1 q.2.1
  refine n83_lev hn (by omega) (fun r2 hr2 => ⟨r2, I, L, rfl, fun _ => h _ kl_only_rf, fun h2 => ?_⟩)
  obtain ⟨b0, b1⟩ := hr2.resolve_left h2
  rw [l.2.2, Int.add_mul] at b1
  intro n e
  have e : n.toInt = x1.toInt * (I 83 5).toInt + (I 83 5).toInt := by rw [e]; exact l.2.1
  have f1 := kl_nat (i := x1 * I 83 5) (by omega)
  have f2 := kl_nat (i := n) (by omega)
  have f3 := kl_nat (i := I 83 5) (by omega)
  refine ⟨⟨?_, ?_, ?_, ?_, ?_⟩, fun I8 e8 => ?_⟩
  · rw [kl_lt, kl_0]; omega
  · rw [kl_lt, kl_0]; omega
  · rw [kl_lt, kl_0]; omega
  · omega
  · omega
  · subst e8; exact h _ kl_only_row
theorem n83_row {S : sm_C} {d : Nat} {Φ : sm_Z → Prop} {L : sm_L} {R : sm_R} {x1 x2 x3 : Int32} : ∀ (k : Nat) (I : sm_I) (x4 : Int32), kl_nb I 83 → 0 ≤ x4.toInt → (I 83 4).toInt - x4.toInt ≤ k → 0 ≤ x1.toInt → x1.toInt + (I 83 4).toInt ≤ 6776 → 0 ≤ x3.toInt → x3.toInt + (I 83 4).toInt ≤ 6776 → (∀ I' : sm_I, kl_only 84 I I' → Φ (none, (xLay, I', L, kR 83 R))) → sm_wp sm_P S d 257 1 [.ref 83, .int x1, .int x2, .int x3, .int x4] [] (xLay, I, L, kR 83 R) (0, 0) Φ := by
  intro k
  induction k with
  | zero =>
    intro I x4 hn h0 hk a0 a1 b0 b1 h
    refine k83_tightenRow_1 ⟨fun _ => h _ kl_only_rf, fun h1 => ?_⟩
    have := kl_nle h1
    omega
  | succ k ih =>
    intro I x4 hn h0 hk a0 a1 b0 b1 h
    refine k83_tightenRow_1 ⟨fun _ => h _ kl_only_rf, fun h1 => ?_⟩
    have h1 := kl_nle h1
    have v1 := (kl_ix2 a0 a1 (by decide) h0 h1).2
    have v3 := (kl_ix2 b0 b1 (by decide) h0 h1).2
    have e := kl_inc h0 h1
    refine ⟨v3, fun n _ => ⟨v1, fun _ => ?_, fun _ => ⟨v1, fun I2 e2 => ?_⟩⟩⟩
    · exact ih I (x4 + 1) hn (by omega) (by omega) a0 a1 b0 b1 h
    · have o : kl_only 84 I I2 := by rw [e2]; exact kl_only_up
      have o4 : I2 83 4 = I 83 4 := o 83 4 (by decide)
      exact ih I2 (x4 + 1) (kl_only_nb o (by decide) hn) (by omega) (by rw [o4]; omega) a0 (by rw [o4]; exact a1) b0 (by rw [o4]; exact b1) (fun I' o' => h I' (kl_only_tr o o'))
theorem n83_loop {S : sm_C} {d : Nat} {Φ : sm_Z → Prop} {L : sm_L} {R : sm_R} {x6 x7 x8 x9 x10 : Int32} : ∀ (k : Nat) (I : sm_I) (x11 : Int32), kl_nb I 83 → 0 ≤ x11.toInt → (I 83 4).toInt - x11.toInt ≤ k → 0 ≤ x7.toInt → x7.toInt + (I 83 4).toInt * (I 83 4).toInt ≤ 6776 → 0 ≤ x8.toInt → x8.toInt < (I 83 4).toInt → 0 ≤ x9.toInt → x9.toInt < (I 83 4).toInt → 0 ≤ x10.toInt → x10.toInt + (I 83 4).toInt ≤ 6776 → (∀ (r : Int32) (I' : sm_I), (r = 0 ∨ r = 1) → kl_only 84 I I' → Φ (some (.int r), (xLay, I', L, kR 83 R))) → sm_wp sm_P S (d + 1) 256 21 [.ref 83, .int x6, .int x7, .int x8, .int x9, .int x10, .int x11] [] (xLay, I, L, kR 83 R) (0, 0) Φ := by
  intro k
  induction k with
  | zero =>
    intro I x11 hn h0 hk a0 a1 b0 b1 c0 c1 d0 d1 h
    refine k83_tighten_21 ⟨fun _ => h 1 _ (Or.inr rfl) kl_only_rf, fun h1 => ?_⟩
    have := kl_nle h1
    omega
  | succ k ih =>
    intro I x11 hn h0 hk a0 a1 b0 b1 c0 c1 d0 d1 h
    refine k83_tighten_21 ⟨fun _ => h 1 _ (Or.inr rfl) kl_only_rf, fun h1 => ?_⟩
    have h1 := kl_nle h1
    have s := kl_rw2 (b := x7) (x := x11) (N := I 83 4) (n := 6776) a0 a1 (by decide) h0 h1
    have e := kl_inc h0 h1
    intro n1 e1
    subst e1
    refine ⟨(kl_ix2 s.2.1 s.2.2 (by decide) b0 b1).2, fun n2 _ n3 e3 => ?_⟩
    subst e3
    refine ⟨(kl_ix2 s.2.1 s.2.2 (by decide) c0 c1).2, fun _ => ?_, fun _ => ?_⟩
    · exact ih I (x11 + 1) hn (by omega) (by omega) a0 a1 b0 b1 c0 c1 d0 d1 h
    · refine k83_tightenRow_0 (n83_row (I 83 4).toInt.toNat I 0 hn (by rw [kl_0]; omega) (by rw [kl_0]; omega) s.2.1 s.2.2 d0 d1 (fun I4 o => ⟨I4, L, rfl, ?_⟩))
      have o4 : I4 83 4 = I 83 4 := o 83 4 (by decide)
      exact ih I4 (x11 + 1) (kl_only_nb o (by decide) hn) (by omega) (by rw [o4]; omega) a0 (by rw [o4]; exact a1) b0 (by rw [o4]; exact b1) c0 (by rw [o4]; exact c1) d0 (by rw [o4]; exact d1) (fun r I' hr o' => h r I' hr (kl_only_tr o o'))
theorem n83_tighten {S : sm_C} {d : Nat} {Φ : sm_Z → Prop} {I : sm_I} {L : sm_L} {R : sm_R} {x1 x2 x3 x4 : Int32} (hn : kl_nb I 83) (hw : (I 83 4).toInt ≤ 11) (hs : kl_net I 83 85) (hx : x1.toInt ≤ 1100) (h : ∀ (r : Int32) (I' : sm_I), (r = 0 ∨ r = 1) → kl_only 84 I I' → Φ (some (.int r), (xLay, I', L, kR 83 R))) : sm_wp sm_P S (d + 1) 256 0 [.ref 83, .int x1, .int x2, .int x3, .int x4] [] (xLay, I, L, kR 83 R) (0, 0) Φ := by
  have key : ∀ s0 : Int32, (s0 = 0 ∨ (0 ≤ x1.toInt ∧ x1.toInt * (I 83 5).toInt + (I 83 5).toInt ≤ 6776)) → sm_wp sm_P S (d + 1) 256 4 [.ref 83, .int x1, .int x2, .int x3, .int x4] [.int s0] (xLay, I, L, kR 83 R) (0, 0) Φ := by
    intro s0 h0
    have no : Φ (some (.int (0 : Int32)), (xLay, I, L, kR 83 R)) := h 0 _ (Or.inl rfl) kl_only_rf
    have yes : Φ (some (.int (1 : Int32)), (xLay, I, L, kR 83 R)) := h 1 _ (Or.inr rfl) kl_only_rf
    refine k83_tighten_4 ⟨fun _ => no, fun hs0 => ⟨fun _ => no, fun i0 => ⟨fun _ => no, fun i1 => ⟨fun _ => no, fun j0 => ⟨fun j1 => ⟨fun _ => ⟨fun _ => no, fun _ => yes⟩, fun _ => ?_⟩, fun _ => no⟩⟩⟩⟩⟩
    obtain ⟨a0, a1⟩ := h0.resolve_left hs0
    have i0 := kl_nlt0 i0
    have i1 := kl_nle i1
    have j0 := kl_nlt0 j0
    have j1 := kl_lt.mp j1
    have q := kl_nbA hn
    have l := kl_lev (x := x1) (A := I 83 5) a0 (by omega) q.1 q.2.1
    have p := kl_pr a0 (show x1.toInt ≤ 1101 by omega) q.1 q.2.1
    have vi : vp_in x2 11 := kl_in i0 (by omega)
    have vj : vp_in x3 11 := kl_in j0 (by omega)
    have si := hs.2 x2.toNatClampNeg (by rw [kl_nat i0]; exact i1)
    have sj := hs.2 x3.toNatClampNeg (by rw [kl_nat j0]; exact j1)
    have bb : (x1 * I 83 5).toInt + (I 83 4).toInt * (I 83 4).toInt ≤ ((6776 : Nat) : Int) := by rw [l.1, ← hn.2.2]; exact a1
    have ri := kl_rw2 (b := x1 * I 83 5) (x := I 85 x2.toNatClampNeg) (N := I 83 4) (n := 6776) (by omega) bb (by decide) si.1 si.2
    have rj := kl_rw2 (b := x1 * I 83 5) (x := I 85 x3.toNatClampNeg) (N := I 83 4) (n := 6776) (by omega) bb (by decide) sj.1 sj.2
    refine ⟨vi, vj, fun n1 _ => ⟨vi, vj, fun n2 e2 n3 e3 => ?_⟩⟩
    subst e2; subst e3
    refine ⟨(kl_ix2 rj.2.1 rj.2.2 (by decide) si.1 si.2).2, fun _ n4 e4 => ?_, fun _ => no⟩
    subst e4
    refine ⟨(kl_ix2 ri.2.1 ri.2.2 (by decide) sj.1 sj.2).2, fun _ => ?_, fun _ => yes⟩
    exact n83_loop (I 83 4).toInt.toNat I 0 hn (by rw [kl_0]; omega) (by rw [kl_0]; omega) (by omega) bb si.1 si.2 sj.1 sj.2 rj.2.1 rj.2.2 h
  refine k83_tighten_0 ⟨fun _ => key 0 (Or.inl rfl), fun h1 => ⟨fun _ => key 0 (Or.inl rfl), fun h2 => key 1 (Or.inr ?_)⟩⟩
  have h1 := kl_nlt0 h1
  have a := kl_nbA hn
  have l := kl_lev (x := x1) (A := I 83 5) h1 (by omega) a.1 a.2.1
  have h2 := kl_nlt h2
  rw [l.2.1] at h2
  have e : (Int32.ofNat 6776).toInt = 6776 := by decide
  rw [e] at h2; exact ⟨h1, h2⟩
/-! the net 91 -/
theorem n91_lev {S : sm_C} {d : Nat} {Φ : sm_Z → Prop} {I : sm_I} {L : sm_L} {R : sm_R} {x : Int32} (hn : kl_nb I 91) (hx : x.toInt ≤ 1101) (h : ∀ r : Int32, (r = 0 ∨ (0 ≤ x.toInt ∧ x.toInt * (I 91 5).toInt + (I 91 5).toInt ≤ 9504)) → Φ (some (.int r), (xLay, I, L, kR 91 R))) : sm_wp sm_P S d 249 0 [.ref 91, .int x] [] (xLay, I, L, kR 91 R) (0, 0) Φ := by
  refine k91_hasLevel_0 ⟨fun _ => h 0 (Or.inl rfl), fun h1 => ⟨fun _ => h 0 (Or.inl rfl), fun h2 => h 1 (Or.inr ?_)⟩⟩
  have h1 := kl_nlt0 h1
  have a := kl_nbA hn
  have l := kl_lev (x := x) (A := I 91 5) h1 hx a.1 a.2.1
  have h2 := kl_nlt h2
  rw [l.2.1] at h2
  have e : (Int32.ofNat 9504).toInt = 9504 := by decide
  rw [e] at h2; exact ⟨h1, h2⟩
theorem n91_node {S : sm_C} {d : Nat} {Φ : sm_Z → Prop} {I : sm_I} {L : sm_L} {R : sm_R} {x : Int32} (h : ∀ r : Int32, (r = 0 ∨ (0 ≤ x.toInt ∧ x.toInt < (I 91 4).toInt)) → Φ (some (.int r), (xLay, I, L, kR 91 R))) : sm_wp sm_P S d 250 0 [.ref 91, .int x] [] (xLay, I, L, kR 91 R) (0, 0) Φ := k91_hasNode_0 ⟨fun _ => h 0 (Or.inl rfl), fun h1 => ⟨fun _ => h 0 (Or.inl rfl), fun h2 => h 1 (Or.inr ⟨kl_nlt0 h1, kl_nle h2⟩)⟩⟩
theorem n91_reach {S : sm_C} {d : Nat} {Φ : sm_Z → Prop} {I : sm_I} {L : sm_L} {R : sm_R} {x1 x2 x3 : Int32} (hn : kl_nb I 91) (hx : x1.toInt ≤ 1100) (h : ∀ r : Int32, Φ (some (.int r), (xLay, I, L, kR 91 R))) : sm_wp sm_P S (d + 1) 255 0 [.ref 91, .int x1, .int x2, .int x3] [] (xLay, I, L, kR 91 R) (0, 0) Φ := by
  refine k91_reach_0 (n91_lev hn (by omega) (fun r hr => ⟨r, I, L, rfl, fun _ => h _, fun h1 => n91_node (fun r2 hr2 => ⟨r2, I, L, rfl, fun _ => h _, fun h2 => n91_node (fun r3 hr3 => ⟨r3, I, L, rfl, fun _ => h _, fun h3 => ?_⟩)⟩)⟩))
  obtain ⟨a0, a1⟩ := hr.resolve_left h1
  obtain ⟨b0, b1⟩ := hr2.resolve_left h2
  obtain ⟨c0, c1⟩ := hr3.resolve_left h3
  have q := kl_nbA hn
  have l := kl_lev (x := x1) (A := I 91 5) a0 (by omega) q.1 q.2.1
  have p := kl_pr a0 (show x1.toInt ≤ 1101 by omega) q.1 q.2.1
  have s := kl_rw2 (b := x1 * I 91 5) (x := x2) (N := I 91 4) (n := 9504) (by omega) (by rw [l.1, ← hn.2.2]; exact a1) (by decide) b0 b1
  intro n e
  subst e
  exact ⟨(kl_ix2 s.2.1 s.2.2 (by decide) c0 c1).2, h _⟩
theorem n91_copyUp {S : sm_C} {d : Nat} {Φ : sm_Z → Prop} {I : sm_I} {L : sm_L} {R : sm_R} {x1 : Int32} (hn : kl_nb I 91) (hx : x1.toInt ≤ 1100) (h : ∀ I' : sm_I, kl_only 92 I I' → Φ (none, (xLay, I', L, kR 91 R))) : sm_wp sm_P S (d + 1) 248 0 [.ref 91, .int x1] [] (xLay, I, L, kR 91 R) (0, 0) Φ := by
  have q := kl_nbA hn
  refine k91_copyUp_0 (n91_lev hn (by omega) (fun r hr => ⟨r, I, L, rfl, fun _ => h _ kl_only_rf, fun h1 => ?_⟩))
  obtain ⟨a0, a1⟩ := hr.resolve_left h1
  have l := kl_lev (x := x1) (A := I 91 5) a0 (by omega) q.1 q.2.1
  have p := kl_pr a0 (show x1.toInt ≤ 1101 by omega) q.1 q.2.1
  refine n91_lev hn (by omega) (fun r2 hr2 => ⟨r2, I, L, rfl, fun _ => h _ kl_only_rf, fun h2 => ?_⟩)
  obtain ⟨b0, b1⟩ := hr2.resolve_left h2
  rw [l.2.2, Int.add_mul] at b1
  intro n e
  have e : n.toInt = x1.toInt * (I 91 5).toInt + (I 91 5).toInt := by rw [e]; exact l.2.1
  have f1 := kl_nat (i := x1 * I 91 5) (by omega)
  have f2 := kl_nat (i := n) (by omega)
  have f3 := kl_nat (i := I 91 5) (by omega)
  refine ⟨⟨?_, ?_, ?_, ?_, ?_⟩, fun I8 e8 => ?_⟩
  · rw [kl_lt, kl_0]; omega
  · rw [kl_lt, kl_0]; omega
  · rw [kl_lt, kl_0]; omega
  · omega
  · omega
  · subst e8; exact h _ kl_only_row
theorem n91_row {S : sm_C} {d : Nat} {Φ : sm_Z → Prop} {L : sm_L} {R : sm_R} {x1 x2 x3 : Int32} : ∀ (k : Nat) (I : sm_I) (x4 : Int32), kl_nb I 91 → 0 ≤ x4.toInt → (I 91 4).toInt - x4.toInt ≤ k → 0 ≤ x1.toInt → x1.toInt + (I 91 4).toInt ≤ 9504 → 0 ≤ x3.toInt → x3.toInt + (I 91 4).toInt ≤ 9504 → (∀ I' : sm_I, kl_only 92 I I' → Φ (none, (xLay, I', L, kR 91 R))) → sm_wp sm_P S d 257 1 [.ref 91, .int x1, .int x2, .int x3, .int x4] [] (xLay, I, L, kR 91 R) (0, 0) Φ := by
  intro k
  induction k with
  | zero =>
    intro I x4 hn h0 hk a0 a1 b0 b1 h
    refine k91_tightenRow_1 ⟨fun _ => h _ kl_only_rf, fun h1 => ?_⟩
    have := kl_nle h1
    omega
  | succ k ih =>
    intro I x4 hn h0 hk a0 a1 b0 b1 h
    refine k91_tightenRow_1 ⟨fun _ => h _ kl_only_rf, fun h1 => ?_⟩
    have h1 := kl_nle h1
    have v1 := (kl_ix2 a0 a1 (by decide) h0 h1).2
    have v3 := (kl_ix2 b0 b1 (by decide) h0 h1).2
    have e := kl_inc h0 h1
    refine ⟨v3, fun n _ => ⟨v1, fun _ => ?_, fun _ => ⟨v1, fun I2 e2 => ?_⟩⟩⟩
    · exact ih I (x4 + 1) hn (by omega) (by omega) a0 a1 b0 b1 h
    · have o : kl_only 92 I I2 := by rw [e2]; exact kl_only_up
      have o4 : I2 91 4 = I 91 4 := o 91 4 (by decide)
      exact ih I2 (x4 + 1) (kl_only_nb o (by decide) hn) (by omega) (by rw [o4]; omega) a0 (by rw [o4]; exact a1) b0 (by rw [o4]; exact b1) (fun I' o' => h I' (kl_only_tr o o'))
theorem n91_loop {S : sm_C} {d : Nat} {Φ : sm_Z → Prop} {L : sm_L} {R : sm_R} {x6 x7 x8 x9 x10 : Int32} : ∀ (k : Nat) (I : sm_I) (x11 : Int32), kl_nb I 91 → 0 ≤ x11.toInt → (I 91 4).toInt - x11.toInt ≤ k → 0 ≤ x7.toInt → x7.toInt + (I 91 4).toInt * (I 91 4).toInt ≤ 9504 → 0 ≤ x8.toInt → x8.toInt < (I 91 4).toInt → 0 ≤ x9.toInt → x9.toInt < (I 91 4).toInt → 0 ≤ x10.toInt → x10.toInt + (I 91 4).toInt ≤ 9504 → (∀ (r : Int32) (I' : sm_I), (r = 0 ∨ r = 1) → kl_only 92 I I' → Φ (some (.int r), (xLay, I', L, kR 91 R))) → sm_wp sm_P S (d + 1) 256 21 [.ref 91, .int x6, .int x7, .int x8, .int x9, .int x10, .int x11] [] (xLay, I, L, kR 91 R) (0, 0) Φ := by
  intro k
  induction k with
  | zero =>
    intro I x11 hn h0 hk a0 a1 b0 b1 c0 c1 d0 d1 h
    refine k91_tighten_21 ⟨fun _ => h 1 _ (Or.inr rfl) kl_only_rf, fun h1 => ?_⟩
    have := kl_nle h1
    omega
  | succ k ih =>
    intro I x11 hn h0 hk a0 a1 b0 b1 c0 c1 d0 d1 h
    refine k91_tighten_21 ⟨fun _ => h 1 _ (Or.inr rfl) kl_only_rf, fun h1 => ?_⟩
    have h1 := kl_nle h1
    have s := kl_rw2 (b := x7) (x := x11) (N := I 91 4) (n := 9504) a0 a1 (by decide) h0 h1
    have e := kl_inc h0 h1
    intro n1 e1
    subst e1
    refine ⟨(kl_ix2 s.2.1 s.2.2 (by decide) b0 b1).2, fun n2 _ n3 e3 => ?_⟩
    subst e3
    refine ⟨(kl_ix2 s.2.1 s.2.2 (by decide) c0 c1).2, fun _ => ?_, fun _ => ?_⟩
    · exact ih I (x11 + 1) hn (by omega) (by omega) a0 a1 b0 b1 c0 c1 d0 d1 h
    · refine k91_tightenRow_0 (n91_row (I 91 4).toInt.toNat I 0 hn (by rw [kl_0]; omega) (by rw [kl_0]; omega) s.2.1 s.2.2 d0 d1 (fun I4 o => ⟨I4, L, rfl, ?_⟩))
      have o4 : I4 91 4 = I 91 4 := o 91 4 (by decide)
      exact ih I4 (x11 + 1) (kl_only_nb o (by decide) hn) (by omega) (by rw [o4]; omega) a0 (by rw [o4]; exact a1) b0 (by rw [o4]; exact b1) c0 (by rw [o4]; exact c1) d0 (by rw [o4]; exact d1) (fun r I' hr o' => h r I' hr (kl_only_tr o o'))
theorem n91_tighten {S : sm_C} {d : Nat} {Φ : sm_Z → Prop} {I : sm_I} {L : sm_L} {R : sm_R} {x1 x2 x3 x4 : Int32} (hn : kl_nb I 91) (hw : (I 91 4).toInt ≤ 12) (hs : kl_net I 91 93) (hx : x1.toInt ≤ 1100) (h : ∀ (r : Int32) (I' : sm_I), (r = 0 ∨ r = 1) → kl_only 92 I I' → Φ (some (.int r), (xLay, I', L, kR 91 R))) : sm_wp sm_P S (d + 1) 256 0 [.ref 91, .int x1, .int x2, .int x3, .int x4] [] (xLay, I, L, kR 91 R) (0, 0) Φ := by
  have key : ∀ s0 : Int32, (s0 = 0 ∨ (0 ≤ x1.toInt ∧ x1.toInt * (I 91 5).toInt + (I 91 5).toInt ≤ 9504)) → sm_wp sm_P S (d + 1) 256 4 [.ref 91, .int x1, .int x2, .int x3, .int x4] [.int s0] (xLay, I, L, kR 91 R) (0, 0) Φ := by
    intro s0 h0
    have no : Φ (some (.int (0 : Int32)), (xLay, I, L, kR 91 R)) := h 0 _ (Or.inl rfl) kl_only_rf
    have yes : Φ (some (.int (1 : Int32)), (xLay, I, L, kR 91 R)) := h 1 _ (Or.inr rfl) kl_only_rf
    refine k91_tighten_4 ⟨fun _ => no, fun hs0 => ⟨fun _ => no, fun i0 => ⟨fun _ => no, fun i1 => ⟨fun _ => no, fun j0 => ⟨fun j1 => ⟨fun _ => ⟨fun _ => no, fun _ => yes⟩, fun _ => ?_⟩, fun _ => no⟩⟩⟩⟩⟩
    obtain ⟨a0, a1⟩ := h0.resolve_left hs0
    have i0 := kl_nlt0 i0
    have i1 := kl_nle i1
    have j0 := kl_nlt0 j0
    have j1 := kl_lt.mp j1
    have q := kl_nbA hn
    have l := kl_lev (x := x1) (A := I 91 5) a0 (by omega) q.1 q.2.1
    have p := kl_pr a0 (show x1.toInt ≤ 1101 by omega) q.1 q.2.1
    have vi : vp_in x2 12 := kl_in i0 (by omega)
    have vj : vp_in x3 12 := kl_in j0 (by omega)
    have si := hs.2 x2.toNatClampNeg (by rw [kl_nat i0]; exact i1)
    have sj := hs.2 x3.toNatClampNeg (by rw [kl_nat j0]; exact j1)
    have bb : (x1 * I 91 5).toInt + (I 91 4).toInt * (I 91 4).toInt ≤ ((9504 : Nat) : Int) := by rw [l.1, ← hn.2.2]; exact a1
    have ri := kl_rw2 (b := x1 * I 91 5) (x := I 93 x2.toNatClampNeg) (N := I 91 4) (n := 9504) (by omega) bb (by decide) si.1 si.2
    have rj := kl_rw2 (b := x1 * I 91 5) (x := I 93 x3.toNatClampNeg) (N := I 91 4) (n := 9504) (by omega) bb (by decide) sj.1 sj.2
    refine ⟨vi, vj, fun n1 _ => ⟨vi, vj, fun n2 e2 n3 e3 => ?_⟩⟩
    subst e2; subst e3
    refine ⟨(kl_ix2 rj.2.1 rj.2.2 (by decide) si.1 si.2).2, fun _ n4 e4 => ?_, fun _ => no⟩
    subst e4
    refine ⟨(kl_ix2 ri.2.1 ri.2.2 (by decide) sj.1 sj.2).2, fun _ => ?_, fun _ => yes⟩
    exact n91_loop (I 91 4).toInt.toNat I 0 hn (by rw [kl_0]; omega) (by rw [kl_0]; omega) (by omega) bb si.1 si.2 sj.1 sj.2 rj.2.1 rj.2.2 h
  refine k91_tighten_0 ⟨fun _ => key 0 (Or.inl rfl), fun h1 => ⟨fun _ => key 0 (Or.inl rfl), fun h2 => key 1 (Or.inr ?_)⟩⟩
  have h1 := kl_nlt0 h1
  have a := kl_nbA hn
  have l := kl_lev (x := x1) (A := I 91 5) h1 (by omega) a.1 a.2.1
  have h2 := kl_nlt h2
  rw [l.2.1] at h2
  have e : (Int32.ofNat 9504).toInt = 9504 := by decide
  rw [e] at h2; exact ⟨h1, h2⟩
