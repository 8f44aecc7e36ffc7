section
/-! the class's walk, move, breaks, pick, exact, told = 49 (wip/pe/mkb3.py) -/
section
variable {S : sm_C} {d : Nat} {Φ : sm_Z → Prop} {I : sm_I} {L : sm_L} {R : sm_R}
theorem b49_pl {x : Int32} (h0 : ¬ (0 ≤ x.toInt ∧ x.toInt < (I 49 1).toInt) → Φ (some (.int 0), (xLay, I, L, kD49 R))) (h1 : 0 ≤ x.toInt → x.toInt < (I 49 1).toInt → Φ (some (.int 1), (xLay, I, L, kD49 R))) : sm_wp sm_P S d 60 0 [.ref 0, .int x] [] (xLay, I, L, kD49 R) (0, 0) Φ := by
  refine pd49_X11_isPlace_0 ⟨fun a => h0 (fun c => ?_), fun a => ⟨fun b => h0 (fun c => ?_), fun b => h1 (kl_nlt0 a) (kl_nle b)⟩⟩
  · have a := kl_lt.mp a
    rw [kl_0] at a; omega
  · have b := kl_le.mp b
    omega
theorem b49_inS {x : Int32} (h0 : ¬ (0 ≤ x.toInt ∧ x.toInt < (I 49 3).toInt) → Φ (some (.int 0), (xLay, I, L, kD49 R))) (h1 : 0 ≤ x.toInt → x.toInt < (I 49 3).toInt → Φ (some (.int 1), (xLay, I, L, kD49 R))) : sm_wp sm_P S d 62 0 [.ref 0, .int x] [] (xLay, I, L, kD49 R) (0, 0) Φ := by
  have g := kp_inS (S := S) (d := d) (Φ := Φ) (I := I) (L := L) (R := kD49 R) (q := 49) (x := x) (by decide) (fun c => by rw [kD49_kP]; exact h0 c) (fun a b => by rw [kD49_kP]; exact h1 a b)
  rw [kD49_kP] at g
  exact g
theorem b49_wb {x y : Int32} (x0 : 0 ≤ x.toInt) (x1 : x.toInt < 6) (y0 : 0 ≤ y.toInt) (y1 : y.toInt < 6) (h : Φ (some (.int (I 50 (6 * x.toNatClampNeg + y.toNatClampNeg))), (xLay, I, L, kD49 R))) : sm_wp sm_P S d 27 0 [.ref 49, .int x, .int y] [] (xLay, I, L, kD49 R) (0, 0) Φ := by
  have c6 : (6 : Int32).toInt = 6 := by decide
  have nx := kl_nat x0
  have ny := kl_nat y0
  have m6 : (x * (6 : Int32)).toInt = x.toInt * 6 := ml_mu rfl c6 (by omega) (by omega)
  have s6 : ((x * (6 : Int32)) + y).toInt = ((6 * x.toNatClampNeg + y.toNatClampNeg : Nat) : Int) := (ml_ad m6 rfl (by omega) (by omega)).trans (by omega)
  have t6 := tk_nat s6
  refine pd49_X10_walkBetween_0 ⟨fun a => ?_, fun _ => ⟨fun a => ?_, fun _ => ⟨fun a => ?_, fun _ => ⟨fun _ => ⟨kl_in (by omega) (by omega), ?_⟩, fun a => ?_⟩⟩⟩⟩
  · have a := kl_lt.mp a
    rw [kl_0] at a; omega
  · have a := kl_le.mp a
    omega
  · have a := kl_lt.mp a
    rw [kl_0] at a; omega
  · rw [t6]; exact h
  · have a := kl_nlt a
    omega
theorem b49_walk {x y : Int32} (h6 : (I 49 1).toInt ≤ 6) (h0 : ¬ ((0 ≤ x.toInt ∧ x.toInt < (I 49 1).toInt) ∧ (0 ≤ y.toInt ∧ y.toInt < (I 49 1).toInt)) → Φ (some (.int (-1)), (xLay, I, L, kD49 R))) (h1 : 0 ≤ x.toInt → x.toInt < (I 49 1).toInt → 0 ≤ y.toInt → y.toInt < (I 49 1).toInt → Φ (some (.int (I 50 (6 * x.toNatClampNeg + y.toNatClampNeg))), (xLay, I, L, kD49 R))) : sm_wp sm_P S (d + 1) 90 0 [.ref 0, .int x, .int y] [] (xLay, I, L, kD49 R) (0, 0) Φ :=
  pd49_X11_walk_0 (b49_pl (fun c => ⟨_, I, L, rfl, fun _ => h0 (fun k => c k.1), fun z => absurd rfl z⟩) (fun a1 a2 => ⟨_, I, L, rfl, fun z => absurd z (by decide), fun _ => b49_pl (fun c => ⟨_, I, L, rfl, fun _ => h0 (fun k => c k.2), fun z => absurd rfl z⟩) (fun b1 b2 => ⟨_, I, L, rfl, fun z => absurd z (by decide), fun _ => b49_wb a1 (by omega) b1 (by omega) ⟨_, I, L, rfl, h1 a1 a2 b1 b2⟩⟩)⟩))
theorem b49_move {x y : Int32} (h45 : (I 49 5).toInt ≤ 45) (h0 : ¬ (0 ≤ x.toInt ∧ x.toInt < (I 49 5).toInt ∧ 0 ≤ y.toInt ∧ y.toInt ≤ 2) → Φ (some (.int (-1)), (xLay, I, L, kD49 R))) (h1 : 0 ≤ x.toInt → x.toInt < (I 49 5).toInt → y.toInt = 0 → Φ (some (.int (I 71 x.toNatClampNeg)), (xLay, I, L, kD49 R))) (h2 : 0 ≤ x.toInt → x.toInt < (I 49 5).toInt → y.toInt = 1 → Φ (some (.int (I 72 x.toNatClampNeg)), (xLay, I, L, kD49 R))) (h3 : 0 ≤ x.toInt → x.toInt < (I 49 5).toInt → y.toInt = 2 → Φ (some (.int (I 73 x.toNatClampNeg)), (xLay, I, L, kD49 R))) : sm_wp sm_P S d 70 0 [.ref 0, .int x, .int y] [] (xLay, I, L, kD49 R) (0, 0) Φ := by
  refine pd49_X11_move_0 ⟨fun a => h0 (fun c => ?_), fun a => ⟨fun b => ?_, fun b => h0 (fun c => ?_)⟩⟩
  · have a := kl_lt.mp a
    rw [kl_0] at a; omega
  · have a := kl_nlt0 a
    have b := kl_lt.mp b
    have v : vp_in x 45 := kl_in a (by omega)
    exact ⟨fun e => ⟨v, h1 a b e⟩, fun e0 => ⟨fun e => ⟨v, h2 a b e⟩, fun e1 => ⟨fun e => ⟨v, h3 a b e⟩, fun e2 => h0 (fun c => by omega)⟩⟩⟩
  · have b := kl_nlt b
    omega
def k49_bq (I : sm_I) : Nat → Prop := bq (I 38) (I 71) (I 72) (I 73) (fun w => w.toInt < 0)
theorem b49_br {n : Nat} (hn : (I 49 5).toInt = n) (n1 : n ≤ 45) (b34 : ∀ j, j < 45 → 0 ≤ (I 71 j).toInt ∧ (I 71 j).toInt ≤ 9) (b35 : ∀ j, j < 45 → 0 ≤ (I 72 j).toInt ∧ (I 72 j).toInt ≤ 9) (b38 : ∀ j, j < 10 → -1 ≤ (I 38 j).toInt ∧ (I 38 j).toInt ≤ 1440) (h : ∀ v : Int32, FS n (k49_bq I) v → Φ (some (.int v), (xLay, I, L, kD49 R))) : ∀ (m j : Nat) (x1 : Int32), x1.toInt = j → j + m = n → (∀ i, i < j → ¬ k49_bq I i) → sm_wp sm_P S (d + 1) 33 1 [.ref 0, .int x1] [] (xLay, I, L, kD49 R) (0, 0) Φ := by
  intro m
  induction m with
  | zero =>
    intro j x1 h1 hm hs
    refine pd49_X11_breaks_1 ⟨fun _ => h _ (Or.inr ⟨fun i hi => hs i (by omega), rfl⟩), fun a => ?_⟩
    have a := kl_nle a
    omega
  | succ m ih =>
    intro j x1 h1 hm hs
    have px := tk_nat h1
    have s1 := ml_in1 (x := x1) (by omega)
    have v : vp_in x1 45 := kl_in (by omega) (by omega)
    have ex : x1 = Int32.ofNat j := en_ofI (by rw [h1, Int32.toInt_ofNat_of_lt (by omega)])
    have next : ¬ k49_bq I j → sm_wp sm_P S (d + 1) 33 1 [.ref 0, .int (x1 + (1 : Int32))] [] (xLay, I, L, kD49 R) (0, 0) Φ := fun q => ih (j + 1) _ (by omega) (by omega) (fun i hi => by
      rcases Nat.lt_or_ge i j with u | u
      · exact hs i u
      · have : i = j := by omega
        subst this; exact q)
    have ans : k49_bq I j → Φ (some (.int x1), (xLay, I, L, kD49 R)) := fun q => h x1 (Or.inl ⟨j, by omega, q, hs, ex⟩)
    refine pd49_X11_breaks_1 ⟨fun a => ?_, fun _ => ⟨v, ?_⟩⟩
    · have a := kl_le.mp a
      omega
    rw [px]
    have f1 := b34 j (by omega)
    have t1 := b35 j (by omega)
    have nf := kl_nat f1.1
    have nt := kl_nat t1.1
    have bf := b38 (I 71 j).toNatClampNeg (by omega)
    have bt := b38 (I 72 j).toNatClampNeg (by omega)
    refine b49_val (fun c => by omega) (fun _ _ => ⟨_, I, L, rfl, v, ?_⟩)
    refine b49_val (fun c => by omega) (fun _ _ => ⟨_, I, L, rfl, v, fun e1 => next (fun q => q.1 e1), fun e1 => ⟨fun e2 => next (fun q => q.2.1 e2), fun e2 => ?_⟩⟩)
    have vf : (I 38 (I 71 j).toNatClampNeg).toInt ≠ -1 := fun q => e1 (en_ofI (by rw [q]; decide))
    have vt : (I 38 (I 72 j).toNatClampNeg).toInt ≠ -1 := fun q => e2 (en_ofI (by rw [q]; decide))
    have ab := ab_i (a := I 38 (I 72 j).toNatClampNeg) (b := I 38 (I 71 j).toNatClampNeg) (by omega) (by omega) (by omega) (by omega)
    refine ⟨fun e3 => ans ⟨e1, e2, Or.inl ?_⟩, fun e3 => ⟨fun e4 => next (fun q => ?_), fun e4 => ans ⟨e1, e2, Or.inr ?_⟩⟩⟩
    · have e3 := kl_lt.mp e3
      rw [kl_0] at e3; exact e3
    · have e4 := kl_le.mp e4
      rw [ab] at e4
      rcases q.2.2 with q | ⟨q1, q2⟩
      · exact e3 (kl_lt.mpr (by rw [kl_0]; exact q))
      · split at e4 <;> omega
    · have e4 := kl_nle e4
      rw [ab] at e4
      split at e4 <;> exact ⟨by omega, by omega⟩
theorem b49_breaks {n : Nat} (hn : (I 49 5).toInt = n) (n1 : n ≤ 45) (b34 : ∀ j, j < 45 → 0 ≤ (I 71 j).toInt ∧ (I 71 j).toInt ≤ 9) (b35 : ∀ j, j < 45 → 0 ≤ (I 72 j).toInt ∧ (I 72 j).toInt ≤ 9) (b38 : ∀ j, j < 10 → -1 ≤ (I 38 j).toInt ∧ (I 38 j).toInt ≤ 1440) (h : ∀ v : Int32, FS n (k49_bq I) v → Φ (some (.int v), (xLay, I, L, kD49 R))) : sm_wp sm_P S (d + 1) 33 0 [.ref 0] [] (xLay, I, L, kD49 R) (0, 0) Φ := pd49_X11_breaks_0 (b49_br hn n1 b34 b35 b38 h n 0 0 kl_0 (Nat.zero_add _) (fun i hi => absurd hi (Nat.not_lt_zero i)))
theorem b49_pick {x y : Int32} (h3 : (I 49 3).toInt ≤ 10) (h5 : (I 49 5).toInt ≤ 45) (b22 : ∀ j, j < 10 → 0 ≤ (I 59 j).toInt) (h0 : (∀ s ch, pks 49 I x s ch → ¬ (-1 ≤ y.toInt ∧ y.toInt < ch)) → Φ (some (.int 0), (xLay, I, L, kD49 R))) (h1 : ∀ s ch, s < 55 → pks 49 I x s ch → -1 ≤ y.toInt → y.toInt < ch → Φ (some (.int 1), (xLay, sm_up (sm_up I 39 s y) 98 9 0, L, kD49 R))) : sm_wp sm_P S (d + 1) 72 0 [.ref 0, .int x, .int y] [] (xLay, I, L, kD49 R) (0, 0) Φ := by
  have cm : (-1 : Int32).toInt = -1 := by decide
  have c100 : (100 : Int32).toInt = 100 := by decide
  have c10 : (10 : Int32).toInt = 10 := by decide
  have fin : ∀ (s : Nat) (c z3 : Int32), z3.toInt = s → s < 55 → pks 49 I x s c.toInt → sm_wp sm_P S (d + 1) 72 10 [.ref 0, .int y, .int z3, .int c] [] (xLay, I, L, kD49 R) (0, 0) Φ := fun s c z3 e3 s55 p => by
    refine pd49_X11_pick_10 ⟨fun a => h0 (fun s' ch' q b => ?_), fun a => ⟨fun b => ⟨kl_in (by omega) (by omega), fun I1 e1 => ?_⟩, fun b => h0 (fun s' ch' q bb => ?_)⟩⟩
    · have a := kl_lt.mp a
      omega
    · rw [e1, tk_nat e3]
      have a := kl_nlt a
      exact h1 s _ s55 p (by omega) (kl_lt.mp b)
    · have b := kl_nlt b
      have e := (pks_fun h3 p q).2
      omega
  have no : x.toInt < 100 → ¬ (0 ≤ x.toInt ∧ x.toInt < (I 49 3).toInt ∧ ((I 37 0) >>> (x &&& 31)) &&& (1 : Int32) = 0) → Φ (some (.int 0), (xLay, I, L, kD49 R)) := fun a b => h0 (fun s ch q => by
    rcases q with ⟨q1, q2, q3, -⟩ | ⟨q1, -⟩
    · exact absurd ⟨q1, q2, q3⟩ b
    · omega)
  refine pd49_X11_pick_0 (b49_inS (fun c => ⟨_, I, L, rfl, fun _ => ⟨fun a => ?_, fun a => ⟨fun b => h0 (fun s ch q => ?_), fun b n4 e4 => ?_⟩⟩, fun z => absurd rfl z⟩) (fun a1 a2 => ⟨_, I, L, rfl, fun z => absurd z (by decide), fun _ => pd49_X11_isDoubted_0 ⟨fun e => ⟨_, I, L, rfl, fun _ => ⟨kl_in a1 (by omega), ?_⟩, fun z => absurd rfl z⟩, fun e => ⟨_, I, L, rfl, fun z => absurd z (by decide), fun _ => ⟨fun _ => no (by omega) (fun k => e k.2.2), fun a => ?_⟩⟩⟩⟩))
  · have a := kl_lt.mp a
    exact no (by omega) (fun k => c ⟨k.1, k.2.1⟩)
  · have a := kl_nlt a
    have b := kl_le.mp b
    have s1 : (x - 100).toInt = x.toInt - 100 := by
      rcases sub100 (x := x) with u | u
      · exact u
      · omega
    rw [s1] at b
    rcases q with ⟨q1, q2, -⟩ | ⟨q1, q2, -⟩
    · exact absurd ⟨q1, q2⟩ c
    · omega
  · have a := kl_nlt a
    have b := kl_nle b
    have s1 : (x - 100).toInt = x.toInt - 100 := by
      rcases sub100 (x := x) with u | u
      · exact u
      · omega
    rw [s1] at b
    have x0 : 0 ≤ x.toInt := by omega
    have nx := kl_nat x0
    have t1 : (x - 100).toNatClampNeg = x.toNatClampNeg - 100 := tk_nat (by omega)
    have s2 : ((10 : Int32) + x).toInt = 10 + x.toInt := ml_ad c10 rfl (by omega) (by omega)
    have s3 : n4.toInt = ((x.toNatClampNeg - 90 : Nat) : Int) := by
      rw [e4, Int32.toInt_sub, s2, c100]
      exact en_bmod (by omega) (by omega) (Or.inl (by omega))
    rw [t1]
    refine ⟨kl_in (by omega) (by omega), fun w => fin _ _ _ s3 (by omega) (Or.inr ⟨by omega, by omega, by omega, ?_⟩), fun w => fin _ _ _ s3 (by omega) (Or.inr ⟨by omega, by omega, by omega, ?_⟩)⟩
    · have w := kl_le.mp w
      rw [kl_0] at w
      show (2 : Int32).toInt = if 0 ≤ (I 73 (x.toNatClampNeg - 90 - 10)).toInt then 2 else 0
      rw [show x.toNatClampNeg - 90 - 10 = x.toNatClampNeg - 100 by omega, if_pos w]
      decide
    · have w := kl_nle w
      rw [kl_0] at w
      show (0 : Int32).toInt = if 0 ≤ (I 73 (x.toNatClampNeg - 90 - 10)).toInt then 2 else 0
      rw [show x.toNatClampNeg - 90 - 10 = x.toNatClampNeg - 100 by omega, if_neg (by omega)]
      decide
  · have nx := kl_nat a1
    exact fin x.toNatClampNeg _ _ nx.symm (by omega) (Or.inl ⟨a1, a2, e, nx.symm, rfl⟩)
  · have a := kl_nlt a
    omega
end
end
section
/-! the reference's walk, move, breaks, pick, exact (wip/pe/mkb3.py) -/
section
variable {S : sm_C} {d : Nat} {Φ : sm_Z → Prop} {I : sm_I} {L : sm_L} {R : sm_R}
theorem sub1 {x : Int32} (h : -1000 ≤ x.toInt) : (x - 1).toInt = x.toInt - 1 := by
  have b := Int32.toInt_lt x
  rw [Int32.toInt_sub, kl_1]
  exact en_bmod (by omega) (by omega) (Or.inl rfl)
theorem bx_walk {x y : Int32} {l : Nat} (hl : (I 107 18).toInt = l) (l1 : l ≤ 1) (b6 : 0 ≤ (I 119 l).toInt ∧ (I 119 l).toInt ≤ 6) (h0 : ¬ ((0 ≤ x.toInt ∧ x.toInt < (I 119 l).toInt) ∧ (0 ≤ y.toInt ∧ y.toInt < (I 119 l).toInt)) → Φ (some (.int (-1)), (xLay, I, L, kM R))) (h1 : 0 ≤ x.toInt → x.toInt < (I 119 l).toInt → 0 ≤ y.toInt → y.toInt < (I 119 l).toInt → Φ (some (.int (if I 139 (6 * x.toNatClampNeg + y.toNatClampNeg) = -1 then -2 else I 139 (6 * x.toNatClampNeg + y.toNatClampNeg))), (xLay, I, L, kM R))) : sm_wp sm_P S (d + 1) 209 0 [.ref 107, .int x, .int y] [] (xLay, I, L, kM R) (0, 0) Φ := by
  have c6 : (6 : Int32).toInt = 6 := by decide
  have v2 : vp_in (I 107 18) 2 := kl_in (by omega) (by omega)
  have nl := tk_nat hl
  refine p_X12_walk_0 ⟨v2, fun n1 e1 => ?_⟩
  rw [nl] at e1
  have s1 : n1.toInt = (I 119 l).toInt - 1 := by rw [e1]; exact sub1 (by omega)
  refine yp_in (fun c => ⟨_, I, L, rfl, fun _ => h0 (fun k => c ?_), fun z => absurd rfl z⟩) (fun a1 a2 => ⟨_, I, L, rfl, fun z => absurd z (by decide), fun _ => ⟨v2, fun n5 e5 => ?_⟩⟩)
  · rw [kl_0]; omega
  rw [nl] at e5
  rw [kl_0] at a1
  have s5 : n5.toInt = (I 119 l).toInt - 1 := by rw [e5]; exact sub1 (by omega)
  refine yp_in (fun c => ⟨_, I, L, rfl, fun _ => h0 (fun k => c ?_), fun z => absurd rfl z⟩) (fun b1 b2 => ⟨_, I, L, rfl, fun z => absurd z (by decide), fun _ => ?_⟩)
  · rw [kl_0]; omega
  rw [kl_0] at b1
  have nx := kl_nat a1
  have ny := kl_nat b1
  have m6 : ((6 : Int32) * x).toInt = 6 * x.toInt := ml_mu c6 rfl (by omega) (by omega)
  have s6 : (((6 : Int32) * x) + y).toInt = ((6 * x.toNatClampNeg + y.toNatClampNeg : Nat) : Int) := (ml_ad m6 rfl (by omega) (by omega)).trans (by omega)
  have t6 := tk_nat s6
  have f := h1 a1 (by omega) b1 (by omega)
  refine ⟨kl_in (by omega) (by omega), fun n9 e9 => ⟨fun e => ?_, fun e => ?_⟩⟩
  · rw [t6] at e9
    rw [e9] at e
    rw [if_pos e] at f
    exact f
  · rw [t6] at e9
    rw [e9] at e ⊢
    rw [if_neg e] at f
    exact f
theorem bx_move {x y : Int32} (b46 : 0 ≤ (I 107 46).toInt ∧ (I 107 46).toInt ≤ 45) (h0 : ¬ (0 ≤ x.toInt ∧ x.toInt < (I 107 46).toInt ∧ 0 ≤ y.toInt ∧ y.toInt ≤ 2) → Φ (some (.int (-1)), (xLay, I, L, kM R))) (h1 : 0 ≤ x.toInt → x.toInt < (I 107 46).toInt → y.toInt = 0 → Φ (some (.int (I 140 x.toNatClampNeg)), (xLay, I, L, kM R))) (h2 : 0 ≤ x.toInt → x.toInt < (I 107 46).toInt → y.toInt = 1 → Φ (some (.int (I 141 x.toNatClampNeg)), (xLay, I, L, kM R))) (h3 : 0 ≤ x.toInt → x.toInt < (I 107 46).toInt → y.toInt = 2 → Φ (some (.int (if I 142 x.toNatClampNeg = -1 then -2 else I 142 x.toNatClampNeg)), (xLay, I, L, kM R))) : sm_wp sm_P S (d + 1) 164 0 [.ref 107, .int x, .int y] [] (xLay, I, L, kM R) (0, 0) Φ := by
  have c2 : (2 : Int32).toInt = 2 := by decide
  have s1 : (I 107 46 - 1).toInt = (I 107 46).toInt - 1 := sub1 (by omega)
  refine p_X12_move_0 (yp_in (fun c => ⟨_, I, L, rfl, fun _ => h0 (fun k => c ?_), fun z => absurd rfl z⟩) (fun a1 a2 => ⟨_, I, L, rfl, fun z => absurd z (by decide), fun _ => ?_⟩))
  · rw [kl_0]; omega
  rw [kl_0] at a1
  refine yp_in (fun c => ⟨_, I, L, rfl, fun _ => h0 (fun k => c ?_), fun z => absurd rfl z⟩) (fun b1 b2 => ⟨_, I, L, rfl, fun z => absurd z (by decide), fun _ => ?_⟩)
  · rw [kl_0]; omega
  rw [kl_0] at b1
  have v : vp_in x 45 := kl_in a1 (by omega)
  refine ⟨fun e => ⟨v, h1 a1 (by omega) (by rw [e]; decide)⟩, fun e0 => ⟨fun e => ⟨v, h2 a1 (by omega) (by rw [e]; decide)⟩, fun e1 => ?_⟩⟩
  have y0 : y.toInt ≠ 0 := fun q => e0 (en_ofI (by rw [q]; decide))
  have y1 : y.toInt ≠ 1 := fun q => e1 (en_ofI (by rw [q]; decide))
  have f := h3 a1 (by omega) (by omega)
  refine ⟨v, fun e => ?_, fun e => ⟨v, ?_⟩⟩
  · rw [if_pos e] at f; exact f
  · rw [if_neg e] at f; exact f
def m_bq (I : sm_I) : Nat → Prop := bq (I 138) (I 140) (I 141) (I 142) (fun w => w = -1)
theorem bx_br {n : Nat} (hn : (I 107 46).toInt = n) (n1 : n ≤ 45) (b140 : ∀ j, j < 45 → 0 ≤ (I 140 j).toInt ∧ (I 140 j).toInt ≤ 9) (b141 : ∀ j, j < 45 → 0 ≤ (I 141 j).toInt ∧ (I 141 j).toInt ≤ 9) (b138 : ∀ j, j < 10 → -1 ≤ (I 138 j).toInt ∧ (I 138 j).toInt ≤ 1440) (h : ∀ v : Int32, FS n (m_bq I) v → Φ (some (.int v), (xLay, I, L, kM R))) : ∀ (m j : Nat) (x1 : Int32), x1.toInt = j → j + m = n → (∀ i, i < j → ¬ m_bq I i) → sm_wp sm_P S d 107 1 [.ref 107, .int x1] [] (xLay, I, L, kM R) (0, 0) Φ := by
  intro m
  induction m with
  | zero =>
    intro j x1 h1 hm hs
    refine p_X12_breaks_1 ⟨fun _ => h _ (Or.inr ⟨fun i hi => hs i (by omega), rfl⟩), fun a => ?_⟩
    have a := kl_nle a
    omega
  | succ m ih =>
    intro j x1 h1 hm hs
    have px := tk_nat h1
    have s1 := ml_in1 (x := x1) (by omega)
    have v : vp_in x1 45 := kl_in (by omega) (by omega)
    have ex : x1 = Int32.ofNat j := en_ofI (by rw [h1, Int32.toInt_ofNat_of_lt (by omega)])
    have next : ¬ m_bq I j → sm_wp sm_P S d 107 1 [.ref 107, .int (x1 + (1 : Int32))] [] (xLay, I, L, kM R) (0, 0) Φ := fun q => ih (j + 1) _ (by omega) (by omega) (fun i hi => by
      rcases Nat.lt_or_ge i j with u | u
      · exact hs i u
      · have : i = j := by omega
        subst this; exact q)
    have ans : m_bq I j → Φ (some (.int x1), (xLay, I, L, kM R)) := fun q => h x1 (Or.inl ⟨j, by omega, q, hs, ex⟩)
    refine p_X12_breaks_1 ⟨fun a => ?_, fun _ => ⟨v, ?_⟩⟩
    · have a := kl_le.mp a
      omega
    rw [px]
    have f1 := b140 j (by omega)
    have t1 := b141 j (by omega)
    have nf := kl_nat f1.1
    have nt := kl_nat t1.1
    have bf := b138 (I 140 j).toNatClampNeg (by omega)
    have bt := b138 (I 141 j).toNatClampNeg (by omega)
    refine ⟨kl_in (by omega) (by omega), fun z1 g1 => ⟨v, kl_in (by omega) (by omega), fun z2 g2 => ?_⟩⟩
    rw [g1, g2]
    refine ⟨fun e1 => next (fun q => q.1 e1), fun e1 => ⟨fun e2 => next (fun q => q.2.1 e2), fun e2 => ?_⟩⟩
    have vf : (I 138 (I 140 j).toNatClampNeg).toInt ≠ -1 := fun q => e1 (en_ofI (by rw [q]; decide))
    have vt : (I 138 (I 141 j).toNatClampNeg).toInt ≠ -1 := fun q => e2 (en_ofI (by rw [q]; decide))
    have sa : (I 138 (I 140 j).toNatClampNeg - I 138 (I 141 j).toNatClampNeg).toInt = (I 138 (I 140 j).toNatClampNeg).toInt - (I 138 (I 141 j).toNatClampNeg).toInt := by rw [Int32.toInt_sub]; exact en_bmod (by omega) (by omega) (Or.inl rfl)
    have sb : (I 138 (I 141 j).toNatClampNeg - I 138 (I 140 j).toNatClampNeg).toInt = (I 138 (I 141 j).toNatClampNeg).toInt - (I 138 (I 140 j).toNatClampNeg).toInt := by rw [Int32.toInt_sub]; exact en_bmod (by omega) (by omega) (Or.inl rfl)
    refine ⟨fun c => ⟨v, fun e3 => ans ⟨e1, e2, Or.inl e3⟩, fun e3 => ⟨v, fun e4 => next (fun q => ?_), fun e4 => ans ⟨e1, e2, Or.inr ?_⟩⟩⟩, fun c => ⟨v, fun e3 => ans ⟨e1, e2, Or.inl e3⟩, fun e3 => ⟨v, fun e4 => next (fun q => ?_), fun e4 => ans ⟨e1, e2, Or.inr ?_⟩⟩⟩⟩
    · have e4 := kl_le.mp e4
      rw [sa] at e4
      rcases q.2.2 with q | ⟨q1, q2⟩
      · exact e3 q
      · omega
    · have e4 := kl_nle e4
      have c := kl_le.mp c
      rw [sa] at e4
      exact ⟨by omega, by omega⟩
    · have e4 := kl_le.mp e4
      rw [sb] at e4
      rcases q.2.2 with q | ⟨q1, q2⟩
      · exact e3 q
      · omega
    · have e4 := kl_nle e4
      have c := kl_nle c
      rw [sb] at e4
      exact ⟨by omega, by omega⟩
theorem bx_breaks {n : Nat} (hn : (I 107 46).toInt = n) (n1 : n ≤ 45) (b140 : ∀ j, j < 45 → 0 ≤ (I 140 j).toInt ∧ (I 140 j).toInt ≤ 9) (b141 : ∀ j, j < 45 → 0 ≤ (I 141 j).toInt ∧ (I 141 j).toInt ≤ 9) (b138 : ∀ j, j < 10 → -1 ≤ (I 138 j).toInt ∧ (I 138 j).toInt ≤ 1440) (h : ∀ v : Int32, FS n (m_bq I) v → Φ (some (.int v), (xLay, I, L, kM R))) : sm_wp sm_P S d 107 0 [.ref 107] [] (xLay, I, L, kM R) (0, 0) Φ := p_X12_breaks_0 (bx_br hn n1 b140 b141 b138 h n 0 0 kl_0 (Nat.zero_add _) (fun i hi => absurd hi (Nat.not_lt_zero i)))
theorem bx_item {x : Int32} {l : Nat} (hl : (I 107 18).toInt = l) (l1 : l ≤ 1) (hb : 0 ≤ (I 125 l).toInt ∧ (I 125 l).toInt ≤ 10) (b46 : 0 ≤ (I 107 46).toInt ∧ (I 107 46).toInt ≤ 45) (h0 : (∀ s ch, ¬ pkm l I x s ch) → Φ (some (.int (-1)), (xLay, I, L, kM R))) (h1 : ∀ (s : Nat) (v : Int32), v.toInt = s → s < 55 → (∃ ch, pkm l I x s ch) → Φ (some (.int v), (xLay, I, L, kM R))) : sm_wp sm_P S (d + 2) 151 0 [.ref 107, .int x] [] (xLay, I, L, kM R) (0, 0) Φ := by
  have s46 : (I 107 46 - 1).toInt = (I 107 46).toInt - 1 := sub1 (by omega)
  refine p_X12_itemAt_0 (yp_inS hl l1 hb (fun c => ⟨_, I, L, rfl, fun _ => ?_, fun z => absurd rfl z⟩) (fun a b => ⟨_, I, L, rfl, fun z => absurd z (by decide), fun _ => ?_⟩))
  · refine yp_in (fun c2 => ⟨_, I, L, rfl, fun _ => h0 (fun s ch q => ?_), fun z => absurd rfl z⟩) (fun a b => ⟨_, I, L, rfl, fun z => absurd z (by decide), fun _ => ?_⟩)
    · rcases q with ⟨q1, q2, -⟩ | ⟨q1, q2, -⟩
      · exact c ⟨q1, q2⟩
      · refine c2 ?_
        rw [kl_0, s46]
        rcases sub100 (x := x) with u | ⟨u, -⟩
        · omega
        · omega
    · rw [kl_0] at a
      rw [s46] at b
      have u : (x - 100).toInt = x.toInt - 100 := by
        rcases sub100 (x := x) with u | ⟨u, u2⟩
        · exact u
        · have := Int32.le_toInt x
          omega
      have nx := kl_nat (i := x) (by omega)
      have s90 : (x - 90).toInt = ((x.toNatClampNeg - 90 : Nat) : Int) := by
        rw [Int32.toInt_sub, (by decide : (90 : Int32).toInt = 90)]
        exact en_bmod (by omega) (by omega) (Or.inl (by omega))
      exact h1 _ _ s90 (by omega) ⟨_, Or.inr ⟨by omega, by omega, by omega, rfl⟩⟩
  · have nx := kl_nat a
    refine ⟨kl_in a (by omega), fun e => h1 x.toNatClampNeg x nx.symm (by omega) ⟨_, Or.inl ⟨a, b, e, nx.symm, rfl⟩⟩, fun e => h0 (fun s ch q => ?_)⟩
    rcases q with ⟨q1, q2, q3, q4, -⟩ | ⟨q1, -⟩
    · have es : s = x.toNatClampNeg := by omega
      rw [es] at q3
      exact e q3
    · omega
theorem bx_ch {z : Int32} {s l : Nat} (hz : z.toInt = s) (s55 : s < 55) (hl : (I 107 18).toInt = l) (l1 : l ≤ 1) (h : ∀ v : Int32, v.toInt = (if s < 10 then (I 128 (10 * l + s)).toInt else if I 142 (s - 10) = -1 then 0 else 2) → Φ (some (.int v), (xLay, I, L, kM R))) : sm_wp sm_P S d 114 0 [.ref 107, .int z] [] (xLay, I, L, kM R) (0, 0) Φ := by
  have c10 : (10 : Int32).toInt = 10 := by decide
  have c60 : (60 : Int32).toInt = 60 := by decide
  refine p_X12_choices_0 ⟨fun a => ⟨fun b => ?_, fun _ => ?_⟩, fun a n6 e6 => ?_⟩
  · have b := kl_le.mp b
    omega
  · have a := kl_le.mp a
    have s1 : (z - 10).toInt = ((s - 10 : Nat) : Int) := by
      rw [Int32.toInt_sub, c10]
      exact en_bmod (by omega) (by omega) (Or.inl (by omega))
    rw [if_neg (by omega)] at h
    refine ⟨kl_in (by omega) (by omega), fun n3 e3 => ?_⟩
    rw [tk_nat s1] at e3
    rw [e3]
    refine ⟨fun e => h 0 ?_, fun e => h 2 ?_⟩
    · rw [if_pos e]; decide
    · rw [if_neg e]; decide
  · have a := kl_nle a
    have q1 : ((10 : Int32) * (I 107 18)).toInt = 10 * (l : Int) := ml_mu c10 hl (by omega) (by omega)
    have s6 : n6.toInt = ((10 * l + s : Nat) : Int) := by rw [e6, ml_ad q1 hz (by omega) (by omega)]; omega
    rw [if_pos (by omega)] at h
    refine ⟨kl_in (by omega) (by omega), ?_⟩
    rw [tk_nat s6]
    exact h _ rfl
theorem bx_pick {x y : Int32} {l : Nat} (hl : (I 107 18).toInt = l) (l1 : l ≤ 1) (hb : 0 ≤ (I 125 l).toInt ∧ (I 125 l).toInt ≤ 10) (b46 : 0 ≤ (I 107 46).toInt ∧ (I 107 46).toInt ≤ 45) (b128 : ∀ j, j < 20 → 0 ≤ (I 128 j).toInt ∧ (I 128 j).toInt ≤ 4) (h0 : (∀ s ch, pkm l I x s ch → ¬ (-1 ≤ y.toInt ∧ y.toInt < ch)) → Φ (some (.int 0), (xLay, I, L, kM R))) (h1 : ∀ s ch, s < 55 → pkm l I x s ch → -1 ≤ y.toInt → y.toInt < ch → Φ (some (.int 1), (xLay, sm_up I 160 s y, L, kM R))) : sm_wp sm_P S (d + 3) 172 0 [.ref 107, .int x, .int y] [] (xLay, I, L, kM R) (0, 0) Φ := by
  have cm : (-1 : Int32).toInt = -1 := by decide
  refine p_X12_pick_0 (bx_item hl l1 hb b46 (fun c => ⟨_, I, L, rfl, fun _ => h0 (fun s ch q => absurd q (c s ch)), fun z => absurd rfl z⟩) (fun s v sv s55 hp => ⟨_, I, L, rfl, fun z => ?_, fun _ => ?_⟩))
  · rw [z] at sv
    omega
  have tv := tk_nat sv
  obtain ⟨ch, hp⟩ := hp
  have hch : ch = if s < 10 then (I 128 (10 * l + s)).toInt else if I 142 (s - 10) = -1 then 0 else 2 := by
    rcases hp with ⟨q1, q2, -, q4, q5⟩ | ⟨q1, q2, q3, q4⟩
    · rw [if_pos (by omega)]; exact q5
    · rw [if_neg (by omega)]; exact q4
  have un : ∀ s' ch', pkm l I x s' ch' → s' = s ∧ ch' = ch := fun s' ch' g => by
    rcases hp with ⟨a1, a2, a3, a4, a5⟩ | ⟨a1, a2, a3, a4⟩
    · rcases g with ⟨b1, b2, b3, b4, b5⟩ | ⟨b1, b2, b3, b4⟩
      · have e : s' = s := by omega
        subst e
        exact ⟨rfl, by rw [a5, b5]⟩
      · omega
    · rcases g with ⟨b1, b2, b3, b4, b5⟩ | ⟨b1, b2, b3, b4⟩
      · omega
      · have e : s' = s := by omega
        subst e
        exact ⟨rfl, by rw [a4, b4]⟩
  have ch0 : 0 ≤ ch ∧ ch ≤ 4 := by
    rw [hch]
    split
    · exact b128 _ (by omega)
    · split <;> omega
  refine ⟨fun e => ⟨kl_in (by omega) (by omega), fun I4 e4 => ?_⟩, fun e => ?_⟩
  · rw [e4, tv]
    exact h1 s ch s55 hp (by rw [e, cm]; omega) (by rw [e, cm]; omega)
  refine bx_ch sv s55 hl l1 (fun r7 e7 => ⟨_, I, L, rfl, ?_⟩)
  rw [← hch] at e7
  have s7 : (r7 - 1).toInt = ch - 1 := by rw [sub1 (by omega), e7]
  refine yp_in (fun c => ⟨_, I, L, rfl, fun _ => h0 (fun s' ch' q b => ?_), fun z => absurd rfl z⟩) (fun a b => ⟨_, I, L, rfl, fun z => absurd z (by decide), fun _ => ⟨kl_in (by omega) (by omega), fun I4 e4 => ?_⟩⟩)
  · have u := (un s' ch' q).2
    have ym : y.toInt ≠ -1 := fun q => e (en_ofI (by rw [q]; decide))
    refine c ?_
    rw [kl_0, s7]
    omega
  · rw [kl_0] at a
    rw [s7] at b
    rw [e4, tv]
    exact h1 s ch s55 hp (by omega) (by omega)
end
end
section
/-! TABLES: by how much each may be behind each other at most; the greatest one under what is asked -/
def tcl (n : Nat) (D : Nat → Nat → Int) : Prop := (∀ i, i < n → D i i = 0) ∧ ∀ i j k, i < n → j < n → k < n → D i k ≤ D i j + D j k
def tD0 (i j : Nat) : Int := if i = 0 ∨ i = j then 0 else 1440
abbrev tC : Type := Nat × Nat × Int
def tok (n : Nat) (C : List tC) (E : Nat → Nat → Int) : Prop := tcl n E ∧ (∀ i j, i < n → j < n → E i j ≤ tD0 i j) ∧ ∀ c, c ∈ C → c.1 < n → c.2.1 < n → E c.1 c.2.1 ≤ c.2.2
def ttop (n : Nat) (C : List tC) (D : Nat → Nat → Int) : Prop := tok n C D ∧ ∀ E, tok n C E → ∀ i j, i < n → j < n → E i j ≤ D i j
def tno (n : Nat) (C : List tC) : Prop := ∀ E, ¬ tok n C E
theorem ttop_fun {n : Nat} {C : List tC} {D D' : Nat → Nat → Int} (h : ttop n C D) (g : ttop n C D') : ∀ i j, i < n → j < n → D i j = D' i j := fun i j hi hj => Int.le_antisymm (g.2 D h.1 i j hi hj) (h.2 D' g.1 i j hi hj)
theorem tok_cg {n : Nat} {C C' : List tC} {E : Nat → Nat → Int} (e : ∀ c, c ∈ C' → c ∈ C) (h : tok n C E) : tok n C' E := ⟨h.1, h.2.1, fun c hc => h.2.2 c (e c hc)⟩
theorem ttop_cg {n : Nat} {C C' : List tC} {D : Nat → Nat → Int} (e : ∀ c, c ∈ C ↔ c ∈ C') (h : ttop n C D) : ttop n C' D := ⟨tok_cg (fun c hc => (e c).mpr hc) h.1, fun E g => h.2 E (tok_cg (fun c hc => (e c).mp hc) g)⟩
theorem tno_cg {n : Nat} {C C' : List tC} (e : ∀ c, c ∈ C → c ∈ C') (h : tno n C) : tno n C' := fun E g => h E (tok_cg e g)
theorem tok_eq {n : Nat} {C : List tC} {E E' : Nat → Nat → Int} (e : ∀ i j, i < n → j < n → E i j = E' i j) (h : tok n C E) : tok n C E' := by
  obtain ⟨⟨h1, h2⟩, h3, h4⟩ := h
  exact ⟨⟨fun i hi => by rw [← e i i hi hi]; exact h1 i hi, fun i j k hi hj hk => by rw [← e i k hi hk, ← e i j hi hj, ← e j k hj hk]; exact h2 i j k hi hj hk⟩, fun i j hi hj => by rw [← e i j hi hj]; exact h3 i j hi hj, fun c hc c1 c2 => by rw [← e _ _ c1 c2]; exact h4 c hc c1 c2⟩
theorem ttop_eq {n : Nat} {C : List tC} {D D' : Nat → Nat → Int} (e : ∀ i j, i < n → j < n → D i j = D' i j) (h : ttop n C D) : ttop n C D' := ⟨tok_eq e h.1, fun E g i j hi hj => by rw [← e i j hi hj]; exact h.2 E g i j hi hj⟩
theorem ttop_b {n : Nat} {C : List tC} {D : Nat → Nat → Int} (h : ttop n C D) : ∀ i j, i < n → j < n → -1440 ≤ D i j ∧ D i j ≤ 1440 := by
  obtain ⟨⟨⟨h1, h2⟩, h3, -⟩, -⟩ := h
  have u : ∀ i j, i < n → j < n → D i j ≤ 1440 := fun i j hi hj => by
    have := h3 i j hi hj
    unfold tD0 at this
    split at this <;> omega
  intro i j hi hj
  have a := h2 i j i hi hj hi
  have b := u j i hj hi
  have c := h1 i hi
  exact ⟨by omega, u i j hi hj⟩
theorem t_0 (n : Nat) : ttop n [] tD0 := by
  refine ⟨⟨⟨fun i _ => by unfold tD0; rw [if_pos (Or.inr rfl)], fun i j k _ _ _ => ?_⟩, fun i j _ _ => Int.le_refl _, fun c hc _ _ => absurd hc List.not_mem_nil⟩, fun E g => g.2.1⟩
  unfold tD0
  split
  · split <;> split <;> omega
  · split
    · split
      · omega
      · omega
    · split <;> omega
theorem t_no {n : Nat} {C : List tC} {D : Nat → Nat → Int} {i j : Nat} {w : Int} (h : ttop n C D) (hi : i < n) (hj : j < n) (k : D j i + w < 0) : tno n ((i, j, w) :: C) := fun E g => by
  have a := h.2 E (tok_cg (fun c hc => List.mem_cons_of_mem _ hc) g) j i hj hi
  have b : E i j ≤ w := g.2.2 (i, j, w) List.mem_cons_self hi hj
  have c := g.1.2 j i j hj hi hj
  have d := g.1.1 j hj
  omega
theorem t_same {n : Nat} {C : List tC} {D : Nat → Nat → Int} {i j : Nat} {w : Int} (h : ttop n C D) (k : D i j ≤ w) : ttop n ((i, j, w) :: C) D := ⟨⟨h.1.1, h.1.2.1, fun c hc c1 c2 => by
  rcases List.mem_cons.mp hc with e | e
  · rw [e]; exact k
  · exact h.1.2.2 c e c1 c2⟩, fun E g => h.2 E (tok_cg (fun c hc => List.mem_cons_of_mem _ hc) g)⟩
def tU (D : Nat → Nat → Int) (i j : Nat) (w : Int) (u v : Nat) : Int := if D u i + w + D j v < D u v then D u i + w + D j v else D u v
theorem t_up {n : Nat} {C : List tC} {D : Nat → Nat → Int} {i j : Nat} {w : Int} (h : ttop n C D) (hi : i < n) (hj : j < n) (k : 0 ≤ D j i + w) : ttop n ((i, j, w) :: C) (tU D i j w) := by
  obtain ⟨⟨⟨h1, h2⟩, h3, h4⟩, h5⟩ := h
  have le : ∀ u v, tU D i j w u v ≤ D u v ∧ tU D i j w u v ≤ D u i + w + D j v := fun u v => by
    unfold tU
    split <;> constructor <;> omega
  have ge : ∀ (x : Int) (u v : Nat), x ≤ D u v → x ≤ D u i + w + D j v → x ≤ tU D i j w u v := fun x u v a b => by
    unfold tU
    split <;> omega
  have vs : ∀ u v, tU D i j w u v = D u v ∨ tU D i j w u v = D u i + w + D j v := fun u v => by
    unfold tU
    split
    · exact Or.inr rfl
    · exact Or.inl rfl
  refine ⟨⟨⟨fun u hu => ?_, fun u v x hu hv hx => ?_⟩, fun u v hu hv => Int.le_trans (le u v).1 (h3 u v hu hv), fun c hc c1 c2 => ?_⟩, fun E g u v hu hv => ?_⟩
  · have a := h2 j u i hj hu hi
    have b := h1 u hu
    have c := ge 0 u u (by omega) (by omega)
    have d := (le u u).1
    omega
  · have a := le u x
    have t1 := h2 u v x hu hv hx
    have t2 := h2 j v x hj hv hx
    have t3 := h2 u v i hu hv hi
    have t4 := h2 j v i hj hv hi
    rcases vs u v with e | e <;> rcases vs v x with f | f <;> rw [e, f] <;> omega
  · rcases List.mem_cons.mp hc with e | e
    · rw [e]
      have a := (le i j).2
      have b := h1 i hi
      have c := h1 j hj
      show tU D i j w i j ≤ w
      omega
    · have b := h4 c e c1 c2
      have a := (le c.1 c.2.1).1
      omega
  · have a := h5 E (tok_cg (fun c hc => List.mem_cons_of_mem _ hc) g)
    have b : E i j ≤ w := g.2.2 (i, j, w) List.mem_cons_self hi hj
    have c := g.1.2 u i v hu hi hv
    have d := g.1.2 i j v hi hj hv
    have e := a u i hu hi
    have f := a j v hj hv
    exact ge _ u v (a u v hu hv) (by omega)
/-- row and column that the new way comes by stand -/
theorem tU_e {n : Nat} {D : Nat → Nat → Int} {i j : Nat} {w : Int} (k : 0 ≤ D j i + w) : (∀ v, tU D i j w j v = D j v) ∧ ∀ u, tU D i j w u i = D u i := by
  refine ⟨fun v => ?_, fun u => ?_⟩ <;> unfold tU
  · rw [if_neg (by omega)]
  · rw [if_neg (by omega)]
/-- what comes no nearer to the earlier one comes no nearer to any -/
theorem tU_s {n : Nat} {D : Nat → Nat → Int} {i j u : Nat} {w : Int} (h : tcl n D) (hj : j < n) (hu : u < n) (k : D u j ≤ D u i + w) : ∀ v, v < n → tU D i j w u v = D u v := fun v hv => by
  have a := h.2 u j v hu hj hv
  unfold tU
  rw [if_neg (by omega)]
/-! where an entry of a level lies -/
def tix (n lev i j : Nat) : Nat := lev * (n * n) + i * n + j
theorem tix_lt {n i j : Nat} (hi : i < n) (hj : j < n) : i * n + j < n * n := by
  have a : (i + 1) * n ≤ n * n := Nat.mul_le_mul_right n hi
  rw [Nat.succ_mul] at a
  omega
theorem tix_inj {n lev lev' i j i' j' : Nat} (hi : i < n) (hj : j < n) (hi' : i' < n) (hj' : j' < n) (e : tix n lev i j = tix n lev' i' j') : lev = lev' ∧ i = i' ∧ j = j' := by
  have a := tix_lt hi hj
  have b := tix_lt hi' hj'
  have p : 0 < n := by omega
  have q : 0 < n * n := Nat.mul_pos p p
  unfold tix at e
  have l1 : (lev * (n * n) + (i * n + j)) / (n * n) = lev := by rw [Nat.add_comm, Nat.add_mul_div_right _ _ q, Nat.div_eq_of_lt a]; omega
  have l2 : (lev' * (n * n) + (i' * n + j')) / (n * n) = lev' := by rw [Nat.add_comm, Nat.add_mul_div_right _ _ q, Nat.div_eq_of_lt b]; omega
  have e2 : lev * (n * n) + (i * n + j) = lev' * (n * n) + (i' * n + j') := by omega
  have el : lev = lev' := by rw [← l1, ← l2, e2]
  subst el
  have e3 : i * n + j = i' * n + j' := by omega
  have l3 : (i * n + j) / n = i := by rw [Nat.add_comm, Nat.add_mul_div_right _ _ p, Nat.div_eq_of_lt hj]; omega
  have l4 : (i' * n + j') / n = i' := by rw [Nat.add_comm, Nat.add_mul_div_right _ _ p, Nat.div_eq_of_lt hj']; omega
  have ei : i = i' := by rw [← l3, ← l4, e3]
  subst ei
  exact ⟨rfl, rfl, by omega⟩
end
section
/-! conditions of the reference: tables and going through (wip/pe/symg.py) -/
theorem p_X12_copies_0 {S : sm_C} {d : Nat} {Φ : sm_Z → Prop} {I : sm_I} {L : sm_L} {R : sm_R} {x1 : Int32} {x2 : Int32} (h : sm_wp sm_P S d 116 1 [.ref 107, .int x1, .int x2, .int (0 : Int32)] [] (xLay, I, L, (kM R)) (0, 0) Φ) : sm_wp sm_P S d 116 0 [.ref 107, .int x1, .int x2] [] (xLay, I, L, (kM R)) (0, 0) Φ := sm_wp_step (h)
theorem p_X12_copies_1 {S : sm_C} {d : Nat} {Φ : sm_Z → Prop} {I : sm_I} {L : sm_L} {R : sm_R} {x1 : Int32} {x2 : Int32} {x3 : Int32} (h : (((169 : Int32) ≤ x3 → Φ (none, (xLay, I, L, (kM R)))) ∧ (¬ (169 : Int32) ≤ x3 → (vp_in (((169 : Int32) * x1) + x3) 12000) ∧ ∀ n1 : Int32, n1 = (I 143 (((169 : Int32) * x1) + x3).toNatClampNeg) → (vp_in (((169 : Int32) * x2) + x3) 12000) ∧ ∀ I2 : sm_I, I2 = (sm_up I 143 (((169 : Int32) * x2) + x3).toNatClampNeg n1) → sm_wp sm_P S d 116 1 [.ref 107, .int x1, .int x2, .int (x3 + (1 : Int32))] [] (xLay, I2, L, (kM R)) (0, 0) Φ))) : sm_wp sm_P S d 116 1 [.ref 107, .int x1, .int x2, .int x3] [] (xLay, I, L, (kM R)) (0, 0) Φ := sm_wp_step (⟨fun q3 => ((h).1 q3), fun q3 => ⟨(((h).2 q3)).1, ⟨(((((h).2 q3)).2 _ rfl)).1, ((((((h).2 q3)).2 _ rfl)).2 _ rfl)⟩⟩⟩)
theorem p_X12_bound_0 {S : sm_C} {d : Nat} {Φ : sm_Z → Prop} {I : sm_I} {L : sm_L} {R : sm_R} {x1 : Int32} {x2 : Int32} {x3 : Int32} (h : ∀ n1 : Int32, n1 = ((((169 : Int32) * (I 107 52)) + ((13 : Int32) * x2)) + x1) → (vp_in n1 12000) ∧ ((0 ≤ ((I 143 n1.toNatClampNeg) + x3) → ∀ n2 : Int32, n2 = ((((169 : Int32) * (I 107 52)) + ((13 : Int32) * x1)) + x2) → (vp_in n2 12000) ∧ ((x3 < (I 143 n2.toNatClampNeg) → sm_wp sm_P S d 106 5 [.ref 107, .int x1, .int x2, .int x3, .int ((169 : Int32) * (I 107 52)), .int (0 : Int32)] [] (xLay, I, L, (kM R)) (0, 0) Φ) ∧ (¬ x3 < (I 143 n2.toNatClampNeg) → Φ (some (.int (1 : Int32)), (xLay, I, L, (kM R)))))) ∧ (¬ 0 ≤ ((I 143 n1.toNatClampNeg) + x3) → Φ (some (.int (0 : Int32)), (xLay, I, L, (kM R)))))) : sm_wp sm_P S d 106 0 [.ref 107, .int x1, .int x2, .int x3] [] (xLay, I, L, (kM R)) (0, 0) Φ := sm_wp_step (⟨((h _ rfl)).1, ⟨fun q4 => ⟨((((((h _ rfl)).2).1 q4) _ rfl)).1, ⟨fun q3 => ((((((((h _ rfl)).2).1 q4) _ rfl)).2).1 q3), fun q3 => ⟨Or.inr rfl, ((((((((h _ rfl)).2).1 q4) _ rfl)).2).2 q3)⟩⟩⟩, fun q4 => ⟨Or.inl rfl, ((((h _ rfl)).2).2 q4)⟩⟩⟩)
theorem p_X12_bound_5 {S : sm_C} {d : Nat} {Φ : sm_Z → Prop} {I : sm_I} {L : sm_L} {R : sm_R} {x1 : Int32} {x2 : Int32} {x3 : Int32} {x4 : Int32} {x5 : Int32} (h : (((I 107 51) ≤ x5 → Φ (some (.int (1 : Int32)), (xLay, I, L, (kM R)))) ∧ (¬ (I 107 51) ≤ x5 → sm_wp sm_P S d 106 7 [.ref 107, .int x1, .int x2, .int x3, .int x4, .int x5, .int (0 : Int32)] [] (xLay, I, L, (kM R)) (0, 0) Φ))) : sm_wp sm_P S d 106 5 [.ref 107, .int x1, .int x2, .int x3, .int x4, .int x5] [] (xLay, I, L, (kM R)) (0, 0) Φ := sm_wp_step (⟨fun q1 => ⟨Or.inr rfl, ((h).1 q1)⟩, fun q1 => ((h).2 q1)⟩)
theorem p_X12_bound_7 {S : sm_C} {d : Nat} {Φ : sm_Z → Prop} {I : sm_I} {L : sm_L} {R : sm_R} {x1 : Int32} {x2 : Int32} {x3 : Int32} {x4 : Int32} {x5 : Int32} {x6 : Int32} (h : (((I 107 51) ≤ x6 → sm_wp sm_P S d 106 5 [.ref 107, .int x1, .int x2, .int x3, .int x4, .int (x5 + (1 : Int32))] [] (xLay, I, L, (kM R)) (0, 0) Φ) ∧ (¬ (I 107 51) ≤ x6 → ∀ n1 : Int32, n1 = ((x4 + ((13 : Int32) * x5)) + x1) → (vp_in n1 12000) ∧ ∀ n2 : Int32, n2 = ((x4 + ((13 : Int32) * x2)) + x6) → (vp_in n2 12000) ∧ ∀ n3 : Int32, n3 = (((I 143 n1.toNatClampNeg) + x3) + (I 143 n2.toNatClampNeg)) → ∀ n4 : Int32, n4 = ((x4 + ((13 : Int32) * x5)) + x6) → (vp_in n4 12000) ∧ (((I 143 n4.toNatClampNeg) ≤ n3 → sm_wp sm_P S d 106 7 [.ref 107, .int x1, .int x2, .int x3, .int x4, .int x5, .int (x6 + (1 : Int32))] [] (xLay, I, L, (kM R)) (0, 0) Φ) ∧ (¬ (I 143 n4.toNatClampNeg) ≤ n3 → ∀ n5 : Int32, n5 = ((x4 + ((13 : Int32) * x5)) + x6) → (vp_in n5 12000) ∧ ∀ I6 : sm_I, I6 = (sm_up I 143 n5.toNatClampNeg n3) → sm_wp sm_P S d 106 7 [.ref 107, .int x1, .int x2, .int x3, .int x4, .int x5, .int (x6 + (1 : Int32))] [] (xLay, I6, L, (kM R)) (0, 0) Φ))))) : sm_wp sm_P S d 106 7 [.ref 107, .int x1, .int x2, .int x3, .int x4, .int x5, .int x6] [] (xLay, I, L, (kM R)) (0, 0) Φ := sm_wp_step (⟨fun q8 => ((h).1 q8), fun q8 => ⟨((((h).2 q8) _ rfl)).1, ⟨((((((h).2 q8) _ rfl)).2 _ rfl)).1, ⟨(((((((((h).2 q8) _ rfl)).2 _ rfl)).2 _ rfl) _ rfl)).1, ⟨fun q7 => (((((((((((h).2 q8) _ rfl)).2 _ rfl)).2 _ rfl) _ rfl)).2).1 q7), fun q7 => ⟨(((((((((((((h).2 q8) _ rfl)).2 _ rfl)).2 _ rfl) _ rfl)).2).2 q7) _ rfl)).1, ((((((((((((((h).2 q8) _ rfl)).2 _ rfl)).2 _ rfl) _ rfl)).2).2 q7) _ rfl)).2 _ rfl)⟩⟩⟩⟩⟩⟩)
theorem p_X12_openAt_0 {S : sm_C} {d : Nat} {Φ : sm_Z → Prop} {I : sm_I} {L : sm_L} {R : sm_R} {x1 : Int32} (h : ((x1 = 0 → Φ (some (.int (-1 : Int32)), (xLay, I, L, (kM R)))) ∧ (¬ x1 = 0 → (vp_in (I 107 18) 2) ∧ ((x1 ≤ (I 122 (I 107 18).toNatClampNeg) → ∀ n1 : Int32, n1 = ((((10 : Int32) * (I 107 18)) + x1) - (1 : Int32)) → (vp_in n1 20) ∧ Φ (some (.int (I 135 n1.toNatClampNeg)), (xLay, I, L, (kM R)))) ∧ (¬ x1 ≤ (I 122 (I 107 18).toNatClampNeg) → Φ (some (.int (-1 : Int32)), (xLay, I, L, (kM R)))))))) : sm_wp sm_P S d 171 0 [.ref 107, .int x1] [] (xLay, I, L, (kM R)) (0, 0) Φ := sm_wp_step (⟨fun q3 => ((h).1 q3), fun q3 => ⟨(((h).2 q3)).1, ⟨fun q2 => ⟨(((((((h).2 q3)).2).1 q2) _ rfl)).1, (((((((h).2 q3)).2).1 q2) _ rfl)).2⟩, fun q2 => (((((h).2 q3)).2).2 q2)⟩⟩⟩)
theorem p_X12_atMost_0 {S : sm_C} {d : Nat} {Φ : sm_Z → Prop} {I : sm_I} {L : sm_L} {R : sm_R} {x1 : Int32} {x2 : Int32} {x3 : Int32} (h : (((I 107 53) = 0 → sm_wp sm_P S d 106 0 [.ref 107, .int x1, .int x2, .int x3] [] (xLay, I, L, (kM R)) (0, 0) (fun z => ∃ (r3 : Int32) (I1 : sm_I) (L2 : sm_L), z = (some (.int r3), (xLay, I1, L2, (kM R))) ∧ (r3 = 0 ∨ r3 = 1) ∧ Φ (some (.int r3), (xLay, I1, L2, (kM R))))) ∧ (¬ (I 107 53) = 0 → ((x1 = x2 → sm_wp sm_P S d 106 0 [.ref 107, .int x1, .int x2, .int x3] [] (xLay, I, L, (kM R)) (0, 0) (fun z => ∃ (r26 : Int32) (I24 : sm_I) (L25 : sm_L), z = (some (.int r26), (xLay, I24, L25, (kM R))) ∧ (r26 = 0 ∨ r26 = 1) ∧ Φ (some (.int r26), (xLay, I24, L25, (kM R))))) ∧ (¬ x1 = x2 → sm_wp sm_P S d 171 0 [.ref 107, .int x1] [] (xLay, I, L, (kM R)) (0, 0) (fun z => ∃ (r7 : Int32) (I5 : sm_I) (L6 : sm_L), z = (some (.int r7), (xLay, I5, L6, (kM R))) ∧ sm_wp sm_P S d 171 0 [.ref 107, .int x2] [] (xLay, I5, L6, (kM R)) (0, 0) (fun z => ∃ (r10 : Int32) (I8 : sm_I) (L9 : sm_L), z = (some (.int r10), (xLay, I8, L9, (kM R))) ∧ ((r7 = (-1 : Int32) → ((r10 = (-1 : Int32) → ∀ n18 : Int32, n18 = ((x3 + (0 : Int32)) - (0 : Int32)) → ((r7 = (-1 : Int32) → sm_wp sm_P S (d + 1) 98 12 [.ref 107, .int x2, .int r10, .int n18] [.int x1, .ref 107] (xLay, I8, L9, (kM R)) (0, 0) Φ) ∧ (¬ r7 = (-1 : Int32) → (vp_in r7 260) ∧ sm_wp sm_P S (d + 1) 98 12 [.ref 107, .int x2, .int r10, .int n18] [.int ((I8 131 r7.toNatClampNeg) + (1 : Int32)), .ref 107] (xLay, I8, L9, (kM R)) (0, 0) Φ))) ∧ (¬ r10 = (-1 : Int32) → (vp_in r10 260) ∧ ∀ n16 : Int32, n16 = ((x3 + (0 : Int32)) - (I8 133 r10.toNatClampNeg)) → ((r7 = (-1 : Int32) → sm_wp sm_P S (d + 1) 98 12 [.ref 107, .int x2, .int r10, .int n16] [.int x1, .ref 107] (xLay, I8, L9, (kM R)) (0, 0) Φ) ∧ (¬ r7 = (-1 : Int32) → (vp_in r7 260) ∧ sm_wp sm_P S (d + 1) 98 12 [.ref 107, .int x2, .int r10, .int n16] [.int ((I8 131 r7.toNatClampNeg) + (1 : Int32)), .ref 107] (xLay, I8, L9, (kM R)) (0, 0) Φ))))) ∧ (¬ r7 = (-1 : Int32) → (vp_in r7 260) ∧ ((r10 = (-1 : Int32) → ∀ n13 : Int32, n13 = ((x3 + (I8 132 r7.toNatClampNeg)) - (0 : Int32)) → ((r7 = (-1 : Int32) → sm_wp sm_P S (d + 1) 98 12 [.ref 107, .int x2, .int r10, .int n13] [.int x1, .ref 107] (xLay, I8, L9, (kM R)) (0, 0) Φ) ∧ (¬ r7 = (-1 : Int32) → (vp_in r7 260) ∧ sm_wp sm_P S (d + 1) 98 12 [.ref 107, .int x2, .int r10, .int n13] [.int ((I8 131 r7.toNatClampNeg) + (1 : Int32)), .ref 107] (xLay, I8, L9, (kM R)) (0, 0) Φ))) ∧ (¬ r10 = (-1 : Int32) → (vp_in r10 260) ∧ ∀ n11 : Int32, n11 = ((x3 + (I8 132 r7.toNatClampNeg)) - (I8 133 r10.toNatClampNeg)) → ((r7 = (-1 : Int32) → sm_wp sm_P S (d + 1) 98 12 [.ref 107, .int x2, .int r10, .int n11] [.int x1, .ref 107] (xLay, I8, L9, (kM R)) (0, 0) Φ) ∧ (¬ r7 = (-1 : Int32) → (vp_in r7 260) ∧ sm_wp sm_P S (d + 1) 98 12 [.ref 107, .int x2, .int r10, .int n11] [.int ((I8 131 r7.toNatClampNeg) + (1 : Int32)), .ref 107] (xLay, I8, L9, (kM R)) (0, 0) Φ))))))))))))) : sm_wp sm_P S (d + 1) 98 0 [.ref 107, .int x1, .int x2, .int x3] [] (xLay, I, L, (kM R)) (0, 0) Φ := sm_wp_step (⟨fun q29 => sm_ci0 (((h).1 q29)) (fun r3 I1 L2 q4 => ⟨(q4).1, (q4).2⟩), fun q29 => ⟨fun q28 => sm_ci0 (((((h).2 q29)).1 q28)) (fun r26 I24 L25 q27 => ⟨(q27).1, (q27).2⟩), fun q28 => sm_ci0 (((((h).2 q29)).2 q28)) (fun r7 I5 L6 q23 => sm_ci0 (q23) (fun r10 I8 L9 q22 => ⟨fun q21 => ⟨fun q20 => ⟨fun q19 => (((((((q22).1 q21)).1 q20) _ rfl)).1 q19), fun q19 => ⟨((((((((q22).1 q21)).1 q20) _ rfl)).2 q19)).1, ((((((((q22).1 q21)).1 q20) _ rfl)).2 q19)).2⟩⟩, fun q20 => ⟨(((((q22).1 q21)).2 q20)).1, ⟨fun q17 => ((((((((q22).1 q21)).2 q20)).2 _ rfl)).1 q17), fun q17 => ⟨(((((((((q22).1 q21)).2 q20)).2 _ rfl)).2 q17)).1, (((((((((q22).1 q21)).2 q20)).2 _ rfl)).2 q17)).2⟩⟩⟩⟩, fun q21 => ⟨(((q22).2 q21)).1, ⟨fun q15 => ⟨fun q14 => ((((((((q22).2 q21)).2).1 q15) _ rfl)).1 q14), fun q14 => ⟨(((((((((q22).2 q21)).2).1 q15) _ rfl)).2 q14)).1, (((((((((q22).2 q21)).2).1 q15) _ rfl)).2 q14)).2⟩⟩, fun q15 => ⟨((((((q22).2 q21)).2).2 q15)).1, ⟨fun q12 => (((((((((q22).2 q21)).2).2 q15)).2 _ rfl)).1 q12), fun q12 => ⟨((((((((((q22).2 q21)).2).2 q15)).2 _ rfl)).2 q12)).1, ((((((((((q22).2 q21)).2).2 q15)).2 _ rfl)).2 q12)).2⟩⟩⟩⟩⟩⟩))⟩⟩)
theorem p_X12_atMost_12 {S : sm_C} {d : Nat} {Φ : sm_Z → Prop} {I : sm_I} {L : sm_L} {R : sm_R} {x2 : Int32} {x5 : Int32} {x6 : Int32} {s1 : Int32} (h : ((x5 = (-1 : Int32) → sm_wp sm_P S (d + 1) 98 15 [.int x6] [.int x2, .int s1, .ref 107] (xLay, I, L, (kM R)) (0, 0) Φ) ∧ (¬ x5 = (-1 : Int32) → (vp_in x5 260) ∧ sm_wp sm_P S (d + 1) 98 15 [.int x6] [.int ((I 131 x5.toNatClampNeg) + (1 : Int32)), .int s1, .ref 107] (xLay, I, L, (kM R)) (0, 0) Φ))) : sm_wp sm_P S (d + 1) 98 12 [.ref 107, .int x2, .int x5, .int x6] [.int s1, .ref 107] (xLay, I, L, (kM R)) (0, 0) Φ := sm_wp_step (⟨fun q1 => ((h).1 q1), fun q1 => ⟨(((h).2 q1)).1, (((h).2 q1)).2⟩⟩)
theorem p_X12_atMost_15 {S : sm_C} {d : Nat} {Φ : sm_Z → Prop} {I : sm_I} {L : sm_L} {R : sm_R} {x6 : Int32} {s1 : Int32} {s2 : Int32} (h : sm_wp sm_P S d 106 0 [.ref 107, .int s1, .int s2, .int x6] [] (xLay, I, L, (kM R)) (0, 0) (fun z => ∃ (r3 : Int32) (I1 : sm_I) (L2 : sm_L), z = (some (.int r3), (xLay, I1, L2, (kM R))) ∧ (r3 = 0 ∨ r3 = 1) ∧ Φ (some (.int r3), (xLay, I1, L2, (kM R))))) : sm_wp sm_P S (d + 1) 98 15 [.int x6] [.int s2, .int s1, .ref 107] (xLay, I, L, (kM R)) (0, 0) Φ := sm_wp_step (sm_ci0 (h) (fun r3 I1 L2 q4 => ⟨(q4).1, (q4).2⟩))
theorem p_X12_between_0 {S : sm_C} {d : Nat} {Φ : sm_Z → Prop} {I : sm_I} {L : sm_L} {R : sm_R} {x1 : Int32} {x2 : Int32} {x3 : Int32} {x4 : Int32} (h : sm_wp sm_P S d 98 0 [.ref 107, .int x2, .int x1, .int x4] [] (xLay, I, L, (kM R)) (0, 0) (fun z => ∃ (r3 : Int32) (I1 : sm_I) (L2 : sm_L), z = (some (.int r3), (xLay, I1, L2, (kM R))) ∧ ((r3 = 0 → Φ (some (.int (0 : Int32)), (xLay, I1, L2, (kM R)))) ∧ (¬ r3 = 0 → sm_wp sm_P S d 98 0 [.ref 107, .int x1, .int x2, .int (-x3)] [] (xLay, I1, L2, (kM R)) (0, 0) (fun z => ∃ (r6 : Int32) (I4 : sm_I) (L5 : sm_L), z = (some (.int r6), (xLay, I4, L5, (kM R))) ∧ ((r6 = 0 → Φ (some (.int (0 : Int32)), (xLay, I4, L5, (kM R)))) ∧ (¬ r6 = 0 → Φ (some (.int (1 : Int32)), (xLay, I4, L5, (kM R)))))))))) : sm_wp sm_P S (d + 1) 104 0 [.ref 107, .int x1, .int x2, .int x3, .int x4] [] (xLay, I, L, (kM R)) (0, 0) Φ := sm_wp_step (sm_ci0 (h) (fun r3 I1 L2 q10 => ⟨fun q9 => ⟨Or.inl rfl, ((q10).1 q9)⟩, fun q9 => sm_ci0 (((q10).2 q9)) (fun r6 I4 L5 q8 => ⟨fun q7 => ⟨Or.inl rfl, ((q8).1 q7)⟩, fun q7 => ⟨Or.inr rfl, ((q8).2 q7)⟩⟩)⟩))
theorem p_X12_holdsSpan_0 {S : sm_C} {d : Nat} {Φ : sm_Z → Prop} {I : sm_I} {L : sm_L} {R : sm_R} {x1 : Int32} {x2 : Int32} (h : (vp_in x1 260) ∧ (vp_in x1 260) ∧ (vp_in x1 260) ∧ (vp_in x1 260) ∧ ∀ n1 : Int32, n1 = ((I 130 x1.toNatClampNeg) + (1 : Int32)) → ∀ n2 : Int32, n2 = ((I 131 x1.toNatClampNeg) + (1 : Int32)) → ∀ n3 : Int32, n3 = ((I 132 x1.toNatClampNeg) - x2) → ∀ n4 : Int32, n4 = ((I 133 x1.toNatClampNeg) + x2) → sm_wp sm_P S d 104 0 [.ref 107, .int n1, .int n2, .int n3, .int n4] [] (xLay, I, L, (kM R)) (0, 0) (fun z => ∃ (r7 : Int32) (I5 : sm_I) (L6 : sm_L), z = (some (.int r7), (xLay, I5, L6, (kM R))) ∧ (r7 = 0 ∨ r7 = 1) ∧ Φ (some (.int r7), (xLay, I5, L6, (kM R))))) : sm_wp sm_P S (d + 1) 139 0 [.ref 107, .int x1, .int x2] [] (xLay, I, L, (kM R)) (0, 0) Φ := sm_wp_step (⟨(h).1, ⟨((h).2).1, ⟨(((h).2).2).1, ⟨((((h).2).2).2).1, sm_ci0 (((((((((h).2).2).2).2 _ rfl) _ rfl) _ rfl) _ rfl)) (fun r7 I5 L6 q8 => ⟨(q8).1, (q8).2⟩)⟩⟩⟩⟩)
theorem p_X12_begins_0 {S : sm_C} {d : Nat} {Φ : sm_Z → Prop} {I : sm_I} {L : sm_L} {R : sm_R} {x1 : Int32} (h : ∀ I1 : sm_I, I1 = (sm_up (sm_up I 107 51 x1) 107 52 (0 : Int32)) → sm_wp sm_P S (d + 1) 103 1 [.ref 107, .int (0 : Int32)] [] (xLay, I1, L, (kM R)) (0, 0) Φ) : sm_wp sm_P S (d + 1) 103 0 [.ref 107, .int x1] [] (xLay, I, L, (kM R)) (0, 0) Φ := sm_wp_step ((h _ rfl))
theorem p_X12_begins_1 {S : sm_C} {d : Nat} {Φ : sm_Z → Prop} {I : sm_I} {L : sm_L} {R : sm_R} {x2 : Int32} (h : (((169 : Int32) ≤ x2 → ∀ n1 : Int32, n1 = ((240 : Int32) + ((4 : Int32) * (I 107 18))) → sm_wp sm_P S (d + 1) 103 8 [.ref 107, .int (1 : Int32), .int n1] [] (xLay, I, L, (kM R)) (0, 0) Φ) ∧ (¬ (169 : Int32) ≤ x2 → (¬ (13 : Int32) = 0) ∧ (¬ (13 : Int32) = 0) ∧ (((x2 / (13 : Int32)) = (x2 - x2 / (13 : Int32) * (13 : Int32)) → (vp_in x2 12000) ∧ ∀ I2 : sm_I, I2 = (sm_up I 143 x2.toNatClampNeg (0 : Int32)) → sm_wp sm_P S (d + 1) 103 1 [.ref 107, .int (x2 + (1 : Int32))] [] (xLay, I2, L, (kM R)) (0, 0) Φ) ∧ (¬ (x2 / (13 : Int32)) = (x2 - x2 / (13 : Int32) * (13 : Int32)) → (¬ (13 : Int32) = 0) ∧ (((x2 - x2 / (13 : Int32) * (13 : Int32)) = 0 → (vp_in x2 12000) ∧ ∀ I4 : sm_I, I4 = (sm_up I 143 x2.toNatClampNeg (0 : Int32)) → sm_wp sm_P S (d + 1) 103 1 [.ref 107, .int (x2 + (1 : Int32))] [] (xLay, I4, L, (kM R)) (0, 0) Φ) ∧ (¬ (x2 - x2 / (13 : Int32) * (13 : Int32)) = 0 → (vp_in x2 12000) ∧ ∀ I3 : sm_I, I3 = (sm_up I 143 x2.toNatClampNeg (1440 : Int32)) → sm_wp sm_P S (d + 1) 103 1 [.ref 107, .int (x2 + (1 : Int32))] [] (xLay, I3, L, (kM R)) (0, 0) Φ))))))) : sm_wp sm_P S (d + 1) 103 1 [.ref 107, .int x2] [] (xLay, I, L, (kM R)) (0, 0) Φ := sm_wp_step (⟨fun q7 => (((h).1 q7) _ rfl), fun q7 => ⟨(((h).2 q7)).1, ⟨((((h).2 q7)).2).1, ⟨fun q6 => ⟨(((((((h).2 q7)).2).2).1 q6)).1, ((((((((h).2 q7)).2).2).1 q6)).2 _ rfl)⟩, fun q6 => ⟨(((((((h).2 q7)).2).2).2 q6)).1, ⟨fun q5 => ⟨((((((((((h).2 q7)).2).2).2 q6)).2).1 q5)).1, (((((((((((h).2 q7)).2).2).2 q6)).2).1 q5)).2 _ rfl)⟩, fun q5 => ⟨((((((((((h).2 q7)).2).2).2 q6)).2).2 q5)).1, (((((((((((h).2 q7)).2).2).2 q6)).2).2 q5)).2 _ rfl)⟩⟩⟩⟩⟩⟩⟩)
theorem p_X12_begins_8 {S : sm_C} {d : Nat} {Φ : sm_Z → Prop} {I : sm_I} {L : sm_L} {R : sm_R} {x2 : Int32} {x3 : Int32} (h : (vp_in (I 107 18) 2) ∧ (((((240 : Int32) + ((4 : Int32) * (I 107 18))) + (I 134 (I 107 18).toNatClampNeg)) ≤ x3 → sm_wp sm_P S (d + 1) 103 19 [.ref 107, .int x2, .int (0 : Int32)] [] (xLay, I, L, (kM R)) (0, 0) Φ) ∧ (¬ (((240 : Int32) + ((4 : Int32) * (I 107 18))) + (I 134 (I 107 18).toNatClampNeg)) ≤ x3 → ((x2 = 0 → sm_wp sm_P S (d + 1) 103 19 [.ref 107, .int x2, .int (0 : Int32)] [] (xLay, I, L, (kM R)) (0, 0) Φ) ∧ (¬ x2 = 0 → (((I 107 53) = 0 → sm_wp sm_P S d 139 0 [.ref 107, .int x3, .int (0 : Int32)] [] (xLay, I, L, (kM R)) (0, 0) (fun z => ∃ (r3 : Int32) (I1 : sm_I) (L2 : sm_L), z = (some (.int r3), (xLay, I1, L2, (kM R))) ∧ sm_wp sm_P S (d + 1) 103 8 [.ref 107, .int r3, .int (x3 + (1 : Int32))] [] (xLay, I1, L2, (kM R)) (0, 0) Φ)) ∧ (¬ (I 107 53) = 0 → (vp_in x3 260) ∧ (vp_in x3 260) ∧ ∀ n5 : Int32, n5 = ((I 131 x3.toNatClampNeg) + (1 : Int32)) → sm_wp sm_P S d 106 0 [.ref 107, .int n5, .int (0 : Int32), .int (I 132 x3.toNatClampNeg)] [] (xLay, I, L, (kM R)) (0, 0) (fun z => ∃ (r8 : Int32) (I6 : sm_I) (L7 : sm_L), z = (some (.int r8), (xLay, I6, L7, (kM R))) ∧ ((r8 = 0 → sm_wp sm_P S (d + 1) 103 8 [.ref 107, .int (0 : Int32), .int (x3 + (1 : Int32))] [] (xLay, I6, L7, (kM R)) (0, 0) Φ) ∧ (¬ r8 = 0 → (vp_in x3 260) ∧ (vp_in x3 260) ∧ ∀ n9 : Int32, n9 = ((I6 131 x3.toNatClampNeg) + (1 : Int32)) → ∀ n10 : Int32, n10 = ((1440 : Int32) - (I6 133 x3.toNatClampNeg)) → sm_wp sm_P S d 106 0 [.ref 107, .int (0 : Int32), .int n9, .int n10] [] (xLay, I6, L7, (kM R)) (0, 0) (fun z => ∃ (r13 : Int32) (I11 : sm_I) (L12 : sm_L), z = (some (.int r13), (xLay, I11, L12, (kM R))) ∧ ((r13 = 0 → sm_wp sm_P S (d + 1) 103 8 [.ref 107, .int (0 : Int32), .int (x3 + (1 : Int32))] [] (xLay, I11, L12, (kM R)) (0, 0) Φ) ∧ (¬ r13 = 0 → sm_wp sm_P S (d + 1) 103 8 [.ref 107, .int (1 : Int32), .int (x3 + (1 : Int32))] [] (xLay, I11, L12, (kM R)) (0, 0) Φ))))))))))))) : sm_wp sm_P S (d + 1) 103 8 [.ref 107, .int x2, .int x3] [] (xLay, I, L, (kM R)) (0, 0) Φ := sm_wp_step (⟨(h).1, ⟨fun q20 => (((h).2).1 q20), fun q20 => ⟨fun q19 => (((((h).2).2 q20)).1 q19), fun q19 => ⟨fun q18 => sm_ci0 ((((((((h).2).2 q20)).2 q19)).1 q18)) (fun r3 I1 L2 q4 => q4), fun q18 => ⟨((((((((h).2).2 q20)).2 q19)).2 q18)).1, ⟨(((((((((h).2).2 q20)).2 q19)).2 q18)).2).1, sm_ci0 (((((((((((h).2).2 q20)).2 q19)).2 q18)).2).2 _ rfl)) (fun r8 I6 L7 q17 => ⟨fun q16 => ((q17).1 q16), fun q16 => ⟨(((q17).2 q16)).1, ⟨((((q17).2 q16)).2).1, sm_ci0 (((((((q17).2 q16)).2).2 _ rfl) _ rfl)) (fun r13 I11 L12 q15 => ⟨fun q14 => ((q15).1 q14), fun q14 => ((q15).2 q14)⟩)⟩⟩⟩)⟩⟩⟩⟩⟩⟩)
theorem p_X12_begins_19 {S : sm_C} {d : Nat} {Φ : sm_Z → Prop} {I : sm_I} {L : sm_L} {R : sm_R} {x2 : Int32} {x3 : Int32} (h : (((I 107 54) ≤ x3 → (x2 = 0 ∨ x2 = 1) ∧ Φ (some (.int x2), (xLay, I, L, (kM R)))) ∧ (¬ (I 107 54) ≤ x3 → ((x2 = 0 → (x2 = 0 ∨ x2 = 1) ∧ Φ (some (.int x2), (xLay, I, L, (kM R)))) ∧ (¬ x2 = 0 → (vp_in x3 6) ∧ (vp_in x3 6) ∧ (vp_in x3 6) ∧ (vp_in x3 6) ∧ ∀ n1 : Int32, n1 = ((I 144 x3.toNatClampNeg) + (1 : Int32)) → ∀ n2 : Int32, n2 = ((I 145 x3.toNatClampNeg) + (1 : Int32)) → sm_wp sm_P S d 104 0 [.ref 107, .int n1, .int n2, .int (I 146 x3.toNatClampNeg), .int (I 147 x3.toNatClampNeg)] [] (xLay, I, L, (kM R)) (0, 0) (fun z => ∃ (r5 : Int32) (I3 : sm_I) (L4 : sm_L), z = (some (.int r5), (xLay, I3, L4, (kM R))) ∧ sm_wp sm_P S (d + 1) 103 19 [.ref 107, .int r5, .int (x3 + (1 : Int32))] [] (xLay, I3, L4, (kM R)) (0, 0) Φ)))))) : sm_wp sm_P S (d + 1) 103 19 [.ref 107, .int x2, .int x3] [] (xLay, I, L, (kM R)) (0, 0) Φ := sm_wp_step (⟨fun q8 => ⟨(((h).1 q8)).1, (((h).1 q8)).2⟩, fun q8 => ⟨fun q7 => ⟨(((((h).2 q8)).1 q7)).1, (((((h).2 q8)).1 q7)).2⟩, fun q7 => ⟨(((((h).2 q8)).2 q7)).1, ⟨((((((h).2 q8)).2 q7)).2).1, ⟨(((((((h).2 q8)).2 q7)).2).2).1, ⟨((((((((h).2 q8)).2 q7)).2).2).2).1, sm_ci0 (((((((((((h).2 q8)).2 q7)).2).2).2).2 _ rfl) _ rfl)) (fun r5 I3 L4 q6 => q6)⟩⟩⟩⟩⟩⟩)
theorem p_X12_chooses_0 {S : sm_C} {d : Nat} {Φ : sm_Z → Prop} {I : sm_I} {L : sm_L} {R : sm_R} {x1 : Int32} {x2 : Int32} (h : (((10 : Int32) ≤ x1 → (((60 : Int32) ≤ x1 → (vp_in (x1 - (60 : Int32)) 10) ∧ ∀ n1 : Int32, n1 = (I 152 (x1 - (60 : Int32)).toNatClampNeg) → (((60 : Int32) ≤ x1 → (vp_in (x1 - (60 : Int32)) 10) ∧ ∀ n2 : Int32, n2 = ((I 151 (x1 - (60 : Int32)).toNatClampNeg) + (1 : Int32)) → (((60 : Int32) ≤ x1 → (vp_in (I 107 18) 2) ∧ sm_wp sm_P S (d + 1) 115 19 [.ref 107, .int x2, .int n1, .int n2] [.int ((I 122 (I 107 18).toNatClampNeg) + (1 : Int32))] (xLay, I, L, (kM R)) (0, 0) Φ) ∧ (¬ (60 : Int32) ≤ x1 → (vp_in (x1 - (10 : Int32)) 45) ∧ sm_wp sm_P S (d + 1) 115 19 [.ref 107, .int x2, .int n1, .int n2] [.int ((I 141 (x1 - (10 : Int32)).toNatClampNeg) + (1 : Int32))] (xLay, I, L, (kM R)) (0, 0) Φ))) ∧ (¬ (60 : Int32) ≤ x1 → (vp_in (x1 - (10 : Int32)) 45) ∧ ∀ n4 : Int32, n4 = ((I 140 (x1 - (10 : Int32)).toNatClampNeg) + (1 : Int32)) → (((60 : Int32) ≤ x1 → (vp_in (I 107 18) 2) ∧ sm_wp sm_P S (d + 1) 115 19 [.ref 107, .int x2, .int n1, .int n4] [.int ((I 122 (I 107 18).toNatClampNeg) + (1 : Int32))] (xLay, I, L, (kM R)) (0, 0) Φ) ∧ (¬ (60 : Int32) ≤ x1 → (vp_in (x1 - (10 : Int32)) 45) ∧ sm_wp sm_P S (d + 1) 115 19 [.ref 107, .int x2, .int n1, .int n4] [.int ((I 141 (x1 - (10 : Int32)).toNatClampNeg) + (1 : Int32))] (xLay, I, L, (kM R)) (0, 0) Φ))))) ∧ (¬ (60 : Int32) ≤ x1 → (vp_in (x1 - (10 : Int32)) 45) ∧ ∀ n7 : Int32, n7 = (I 142 (x1 - (10 : Int32)).toNatClampNeg) → (((60 : Int32) ≤ x1 → (vp_in (x1 - (60 : Int32)) 10) ∧ ∀ n8 : Int32, n8 = ((I 151 (x1 - (60 : Int32)).toNatClampNeg) + (1 : Int32)) → (((60 : Int32) ≤ x1 → (vp_in (I 107 18) 2) ∧ sm_wp sm_P S (d + 1) 115 19 [.ref 107, .int x2, .int n7, .int n8] [.int ((I 122 (I 107 18).toNatClampNeg) + (1 : Int32))] (xLay, I, L, (kM R)) (0, 0) Φ) ∧ (¬ (60 : Int32) ≤ x1 → (vp_in (x1 - (10 : Int32)) 45) ∧ sm_wp sm_P S (d + 1) 115 19 [.ref 107, .int x2, .int n7, .int n8] [.int ((I 141 (x1 - (10 : Int32)).toNatClampNeg) + (1 : Int32))] (xLay, I, L, (kM R)) (0, 0) Φ))) ∧ (¬ (60 : Int32) ≤ x1 → (vp_in (x1 - (10 : Int32)) 45) ∧ ∀ n10 : Int32, n10 = ((I 140 (x1 - (10 : Int32)).toNatClampNeg) + (1 : Int32)) → (((60 : Int32) ≤ x1 → (vp_in (I 107 18) 2) ∧ sm_wp sm_P S (d + 1) 115 19 [.ref 107, .int x2, .int n7, .int n10] [.int ((I 122 (I 107 18).toNatClampNeg) + (1 : Int32))] (xLay, I, L, (kM R)) (0, 0) Φ) ∧ (¬ (60 : Int32) ≤ x1 → (vp_in (x1 - (10 : Int32)) 45) ∧ sm_wp sm_P S (d + 1) 115 19 [.ref 107, .int x2, .int n7, .int n10] [.int ((I 141 (x1 - (10 : Int32)).toNatClampNeg) + (1 : Int32))] (xLay, I, L, (kM R)) (0, 0) Φ))))))) ∧ (¬ (10 : Int32) ≤ x1 → ∀ n14 : Int32, n14 = (((4 : Int32) * (((10 : Int32) * (I 107 18)) + x1)) + x2) → (((((I 107 68) >>> (x1 &&& 31)) &&& (1 : Int32)) = (1 : Int32) → sm_wp sm_P S (d + 1) 115 5 [.ref 107, .int n14, .int (I 107 69), .int ((3 : Int32) * n14)] [] (xLay, I, L, (kM R)) (0, 0) Φ) ∧ (¬ (((I 107 68) >>> (x1 &&& 31)) &&& (1 : Int32)) = (1 : Int32) → sm_wp sm_P S (d + 1) 115 5 [.ref 107, .int n14, .int (0 : Int32), .int ((3 : Int32) * n14)] [] (xLay, I, L, (kM R)) (0, 0) Φ))))) : sm_wp sm_P S (d + 1) 115 0 [.ref 107, .int x1, .int x2] [] (xLay, I, L, (kM R)) (0, 0) Φ := sm_wp_step (⟨fun q16 => ⟨fun q13 => ⟨(((((h).1 q16)).1 q13)).1, ⟨fun q6 => ⟨(((((((((h).1 q16)).1 q13)).2 _ rfl)).1 q6)).1, ⟨fun q3 => ⟨(((((((((((((h).1 q16)).1 q13)).2 _ rfl)).1 q6)).2 _ rfl)).1 q3)).1, (((((((((((((h).1 q16)).1 q13)).2 _ rfl)).1 q6)).2 _ rfl)).1 q3)).2⟩, fun q3 => ⟨(((((((((((((h).1 q16)).1 q13)).2 _ rfl)).1 q6)).2 _ rfl)).2 q3)).1, (((((((((((((h).1 q16)).1 q13)).2 _ rfl)).1 q6)).2 _ rfl)).2 q3)).2⟩⟩⟩, fun q6 => ⟨(((((((((h).1 q16)).1 q13)).2 _ rfl)).2 q6)).1, ⟨fun q5 => ⟨(((((((((((((h).1 q16)).1 q13)).2 _ rfl)).2 q6)).2 _ rfl)).1 q5)).1, (((((((((((((h).1 q16)).1 q13)).2 _ rfl)).2 q6)).2 _ rfl)).1 q5)).2⟩, fun q5 => ⟨(((((((((((((h).1 q16)).1 q13)).2 _ rfl)).2 q6)).2 _ rfl)).2 q5)).1, (((((((((((((h).1 q16)).1 q13)).2 _ rfl)).2 q6)).2 _ rfl)).2 q5)).2⟩⟩⟩⟩⟩, fun q13 => ⟨(((((h).1 q16)).2 q13)).1, ⟨fun q12 => ⟨(((((((((h).1 q16)).2 q13)).2 _ rfl)).1 q12)).1, ⟨fun q9 => ⟨(((((((((((((h).1 q16)).2 q13)).2 _ rfl)).1 q12)).2 _ rfl)).1 q9)).1, (((((((((((((h).1 q16)).2 q13)).2 _ rfl)).1 q12)).2 _ rfl)).1 q9)).2⟩, fun q9 => ⟨(((((((((((((h).1 q16)).2 q13)).2 _ rfl)).1 q12)).2 _ rfl)).2 q9)).1, (((((((((((((h).1 q16)).2 q13)).2 _ rfl)).1 q12)).2 _ rfl)).2 q9)).2⟩⟩⟩, fun q12 => ⟨(((((((((h).1 q16)).2 q13)).2 _ rfl)).2 q12)).1, ⟨fun q11 => ⟨(((((((((((((h).1 q16)).2 q13)).2 _ rfl)).2 q12)).2 _ rfl)).1 q11)).1, (((((((((((((h).1 q16)).2 q13)).2 _ rfl)).2 q12)).2 _ rfl)).1 q11)).2⟩, fun q11 => ⟨(((((((((((((h).1 q16)).2 q13)).2 _ rfl)).2 q12)).2 _ rfl)).2 q11)).1, (((((((((((((h).1 q16)).2 q13)).2 _ rfl)).2 q12)).2 _ rfl)).2 q11)).2⟩⟩⟩⟩⟩⟩, fun q16 => ⟨fun q15 => (((((h).2 q16) _ rfl)).1 q15), fun q15 => (((((h).2 q16) _ rfl)).2 q15)⟩⟩)
theorem p_X12_chooses_5 {S : sm_C} {d : Nat} {Φ : sm_Z → Prop} {I : sm_I} {L : sm_L} {R : sm_R} {x3 : Int32} {x4 : Int32} {x5 : Int32} (h : (vp_in x3 80) ∧ (((((3 : Int32) * x3) + (I 129 x3.toNatClampNeg)) ≤ x5 → Φ (some (.int (1 : Int32)), (xLay, I, L, (kM R)))) ∧ (¬ (((3 : Int32) * x3) + (I 129 x3.toNatClampNeg)) ≤ x5 → sm_wp sm_P S d 139 0 [.ref 107, .int x5, .int x4] [] (xLay, I, L, (kM R)) (0, 0) (fun z => ∃ (r3 : Int32) (I1 : sm_I) (L2 : sm_L), z = (some (.int r3), (xLay, I1, L2, (kM R))) ∧ ((r3 = 0 → Φ (some (.int (0 : Int32)), (xLay, I1, L2, (kM R)))) ∧ (¬ r3 = 0 → sm_wp sm_P S (d + 1) 115 5 [.ref 107, .int x3, .int x4, .int (x5 + (1 : Int32))] [] (xLay, I1, L2, (kM R)) (0, 0) Φ)))))) : sm_wp sm_P S (d + 1) 115 5 [.ref 107, .int x3, .int x4, .int x5] [] (xLay, I, L, (kM R)) (0, 0) Φ := sm_wp_step (⟨(h).1, ⟨fun q6 => ⟨Or.inr rfl, (((h).2).1 q6)⟩, fun q6 => sm_ci0 ((((h).2).2 q6)) (fun r3 I1 L2 q5 => ⟨fun q4 => ⟨Or.inl rfl, ((q5).1 q4)⟩, fun q4 => ((q5).2 q4)⟩)⟩⟩)
theorem p_X12_chooses_19 {S : sm_C} {d : Nat} {Φ : sm_Z → Prop} {I : sm_I} {L : sm_L} {R : sm_R} {x2 : Int32} {x3 : Int32} {x4 : Int32} {s0 : Int32} (h : ((x2 = 0 → sm_wp sm_P S d 98 0 [.ref 107, .int s0, .int x4, .int (-x3)] [] (xLay, I, L, (kM R)) (0, 0) (fun z => ∃ (r7 : Int32) (I5 : sm_I) (L6 : sm_L), z = (some (.int r7), (xLay, I5, L6, (kM R))) ∧ sm_wp sm_P S (d + 1) 115 22 [] [.int r7] (xLay, I5, L6, (kM R)) (0, 0) Φ)) ∧ (¬ x2 = 0 → sm_wp sm_P S d 98 0 [.ref 107, .int x4, .int s0, .int (-x3)] [] (xLay, I, L, (kM R)) (0, 0) (fun z => ∃ (r3 : Int32) (I1 : sm_I) (L2 : sm_L), z = (some (.int r3), (xLay, I1, L2, (kM R))) ∧ sm_wp sm_P S (d + 1) 115 22 [] [.int r3] (xLay, I1, L2, (kM R)) (0, 0) Φ)))) : sm_wp sm_P S (d + 1) 115 19 [.ref 107, .int x2, .int x3, .int x4] [.int s0] (xLay, I, L, (kM R)) (0, 0) Φ := sm_wp_step (⟨fun q9 => sm_ci0 (((h).1 q9)) (fun r7 I5 L6 q8 => q8), fun q9 => sm_ci0 (((h).2 q9)) (fun r3 I1 L2 q4 => q4)⟩)
theorem p_X12_chooses_22 {S : sm_C} {d : Nat} {Φ : sm_Z → Prop} {I : sm_I} {L : sm_L} {R : sm_R} {s0 : Int32} (h : (s0 = 0 ∨ s0 = 1) ∧ Φ (some (.int s0), (xLay, I, L, (kM R)))) : sm_wp sm_P S (d + 1) 115 22 [] [.int s0] (xLay, I, L, (kM R)) (0, 0) Φ := sm_wp_step (⟨(h).1, (h).2⟩)
theorem p_X12_lists_0 {S : sm_C} {d : Nat} {Φ : sm_Z → Prop} {I : sm_I} {L : sm_L} {R : sm_R} {x1 : Int32} (h : sm_wp sm_P S d 160 1 [.ref 107, .int x1, .int (0 : Int32)] [] (xLay, (sm_up I 107 59 (0 : Int32)), L, (kM R)) (0, 0) Φ) : sm_wp sm_P S d 160 0 [.ref 107, .int x1] [] (xLay, I, L, (kM R)) (0, 0) Φ := sm_wp_step (h)
theorem p_X12_lists_1 {S : sm_C} {d : Nat} {Φ : sm_Z → Prop} {I : sm_I} {L : sm_L} {R : sm_R} {x1 : Int32} {x2 : Int32} (h : (vp_in (I 107 18) 2) ∧ (((I 125 (I 107 18).toNatClampNeg) ≤ x2 → sm_wp sm_P S d 160 7 [.ref 107, .int (0 : Int32)] [] (xLay, I, L, (kM R)) (0, 0) Φ) ∧ (¬ (I 125 (I 107 18).toNatClampNeg) ≤ x2 → ((((x1 >>> (x2 &&& 31)) &&& (1 : Int32)) = 0 → sm_wp sm_P S d 160 1 [.ref 107, .int x1, .int (x2 + (1 : Int32))] [] (xLay, I, L, (kM R)) (0, 0) Φ) ∧ (¬ ((x1 >>> (x2 &&& 31)) &&& (1 : Int32)) = 0 → (vp_in (I 107 59) 70) ∧ ∀ I1 : sm_I, I1 = (sm_up I 148 (I 107 59).toNatClampNeg x2) → ∀ I2 : sm_I, I2 = (sm_up I1 107 59 ((I1 107 59) + (1 : Int32))) → sm_wp sm_P S d 160 1 [.ref 107, .int x1, .int (x2 + (1 : Int32))] [] (xLay, I2, L, (kM R)) (0, 0) Φ))))) : sm_wp sm_P S d 160 1 [.ref 107, .int x1, .int x2] [] (xLay, I, L, (kM R)) (0, 0) Φ := sm_wp_step (⟨(h).1, ⟨fun q4 => (((h).2).1 q4), fun q4 => ⟨fun q3 => (((((h).2).2 q4)).1 q3), fun q3 => ⟨((((((h).2).2 q4)).2 q3)).1, ((((((((h).2).2 q4)).2 q3)).2 _ rfl) _ rfl)⟩⟩⟩⟩)
theorem p_X12_lists_7 {S : sm_C} {d : Nat} {Φ : sm_Z → Prop} {I : sm_I} {L : sm_L} {R : sm_R} {x2 : Int32} (h : (((I 107 46) ≤ x2 → sm_wp sm_P S d 160 10 [.ref 107, .int (0 : Int32)] [] (xLay, I, L, (kM R)) (0, 0) Φ) ∧ (¬ (I 107 46) ≤ x2 → (vp_in (I 107 59) 70) ∧ ∀ I1 : sm_I, I1 = (sm_up I 148 (I 107 59).toNatClampNeg ((10 : Int32) + x2)) → ∀ I2 : sm_I, I2 = (sm_up I1 107 59 ((I1 107 59) + (1 : Int32))) → sm_wp sm_P S d 160 7 [.ref 107, .int (x2 + (1 : Int32))] [] (xLay, I2, L, (kM R)) (0, 0) Φ))) : sm_wp sm_P S d 160 7 [.ref 107, .int x2] [] (xLay, I, L, (kM R)) (0, 0) Φ := sm_wp_step (⟨fun q3 => ((h).1 q3), fun q3 => ⟨(((h).2 q3)).1, (((((h).2 q3)).2 _ rfl) _ rfl)⟩⟩)
theorem p_X12_lists_10 {S : sm_C} {d : Nat} {Φ : sm_Z → Prop} {I : sm_I} {L : sm_L} {R : sm_R} {x2 : Int32} (h : (((I 107 67) ≤ x2 → Φ (none, (xLay, I, L, (kM R)))) ∧ (¬ (I 107 67) ≤ x2 → (vp_in (I 107 59) 70) ∧ ∀ I1 : sm_I, I1 = (sm_up I 148 (I 107 59).toNatClampNeg ((60 : Int32) + x2)) → ∀ I2 : sm_I, I2 = (sm_up I1 107 59 ((I1 107 59) + (1 : Int32))) → sm_wp sm_P S d 160 10 [.ref 107, .int (x2 + (1 : Int32))] [] (xLay, I2, L, (kM R)) (0, 0) Φ))) : sm_wp sm_P S d 160 10 [.ref 107, .int x2] [] (xLay, I, L, (kM R)) (0, 0) Φ := sm_wp_step (⟨fun q3 => ((h).1 q3), fun q3 => ⟨(((h).2 q3)).1, (((((h).2 q3)).2 _ rfl) _ rfl)⟩⟩)
theorem p_X12_notes_0 {S : sm_C} {d : Nat} {Φ : sm_Z → Prop} {I : sm_I} {L : sm_L} {R : sm_R} {x1 : Int32} {x2 : Int32} {x3 : Int32} (h : (vp_in ((I 107 63) - (1 : Int32)) 1000) ∧ ∀ I1 : sm_I, I1 = (sm_up I 154 ((I 107 63) - (1 : Int32)).toNatClampNeg (vp_nar .byte (x1).toInt8.toInt32)) → (vp_in ((I1 107 63) - (1 : Int32)) 1000) ∧ ∀ I2 : sm_I, I2 = (sm_up I1 155 ((I1 107 63) - (1 : Int32)).toNatClampNeg (vp_nar .byte (x2).toInt8.toInt32)) → (vp_in ((I2 107 63) - (1 : Int32)) 1000) ∧ ∀ I3 : sm_I, I3 = (sm_up I2 156 ((I2 107 63) - (1 : Int32)).toNatClampNeg (vp_nar .boolean x3)) → Φ (none, (xLay, I3, L, (kM R)))) : sm_wp sm_P S d 168 0 [.ref 107, .int x1, .int x2, .int x3] [] (xLay, I, L, (kM R)) (0, 0) Φ := sm_wp_step (⟨(h).1, ⟨(((h).2 _ rfl)).1, ⟨(((((h).2 _ rfl)).2 _ rfl)).1, ((((((h).2 _ rfl)).2 _ rfl)).2 _ rfl)⟩⟩⟩)
theorem p_X12_undoubted_0 {S : sm_C} {d : Nat} {Φ : sm_Z → Prop} {I : sm_I} {L : sm_L} {R : sm_R} (h : sm_wp sm_P S d 208 1 [.ref 107, .int (0 : Int32), .int (0 : Int32)] [] (xLay, I, L, (kM R)) (0, 0) Φ) : sm_wp sm_P S d 208 0 [.ref 107] [] (xLay, I, L, (kM R)) (0, 0) Φ := sm_wp_step (h)
theorem p_X12_undoubted_1 {S : sm_C} {d : Nat} {Φ : sm_Z → Prop} {I : sm_I} {L : sm_L} {R : sm_R} {x1 : Int32} {x2 : Int32} (h : (vp_in (I 107 18) 2) ∧ (((I 125 (I 107 18).toNatClampNeg) ≤ x2 → Φ (some (.int x1), (xLay, I, L, (kM R)))) ∧ (¬ (I 125 (I 107 18).toNatClampNeg) ≤ x2 → (vp_in x2 10) ∧ (((I 137 x2.toNatClampNeg) = 0 → ∀ n1 : Int32, n1 = (x1 ||| ((1 : Int32) <<< (x2 &&& 31))) → sm_wp sm_P S d 208 1 [.ref 107, .int n1, .int (x2 + (1 : Int32))] [] (xLay, I, L, (kM R)) (0, 0) Φ) ∧ (¬ (I 137 x2.toNatClampNeg) = 0 → sm_wp sm_P S d 208 1 [.ref 107, .int x1, .int (x2 + (1 : Int32))] [] (xLay, I, L, (kM R)) (0, 0) Φ))))) : sm_wp sm_P S d 208 1 [.ref 107, .int x1, .int x2] [] (xLay, I, L, (kM R)) (0, 0) Φ := sm_wp_step (⟨(h).1, ⟨fun q3 => (((h).2).1 q3), fun q3 => ⟨((((h).2).2 q3)).1, ⟨fun q2 => (((((((h).2).2 q3)).2).1 q2) _ rfl), fun q2 => ((((((h).2).2 q3)).2).2 q2)⟩⟩⟩⟩)
theorem p_X12_searches_0 {S : sm_C} {d : Nat} {Φ : sm_Z → Prop} {I : sm_I} {L : sm_L} {R : sm_R} {x1 : Int32} (h : ∀ I1 : sm_I, I1 = (sm_up (sm_up I 107 63 (0 : Int32)) 107 64 (0 : Int32)) → (((I1 107 59) = 0 → Φ (some (.int (1 : Int32)), (xLay, I1, L, (kM R)))) ∧ (¬ (I1 107 59) = 0 → (vp_in (0 : Int32) 70) ∧ ∀ I2 : sm_I, I2 = (sm_up I1 150 (0 : Int32).toNatClampNeg (0 : Int32)) → sm_wp sm_P S (d + 1) 186 3 [.ref 107, .int x1, .int (0 : Int32), .int (0 : Int32)] [] (xLay, I2, L, (kM R)) (0, 0) Φ))) : sm_wp sm_P S (d + 1) 186 0 [.ref 107, .int x1] [] (xLay, I, L, (kM R)) (0, 0) Φ := sm_wp_step (⟨Or.inl rfl, ⟨fun q3 => (((h _ rfl)).1 q3), fun q3 => ⟨((((h _ rfl)).2 q3)).1, (((((h _ rfl)).2 q3)).2 _ rfl)⟩⟩⟩)
theorem p_X12_searches_3 {S : sm_C} {d : Nat} {Φ : sm_Z → Prop} {I : sm_I} {L : sm_L} {R : sm_R} {x1 : Int32} {x2 : Int32} {x3 : Int32} (h : ((x3 < 0 → Φ (some (.int x2), (xLay, I, L, (kM R)))) ∧ (¬ x3 < 0 → (vp_in x3 70) ∧ (vp_in x3 70) ∧ sm_wp sm_P S d 114 0 [.ref 107, .int (I 148 x3.toNatClampNeg)] [] (xLay, I, L, (kM R)) (0, 0) (fun z => ∃ (r3 : Int32) (I1 : sm_I) (L2 : sm_L), z = (some (.int r3), (xLay, I1, L2, (kM R))) ∧ (((I 150 x3.toNatClampNeg) = r3 → sm_wp sm_P S (d + 1) 186 3 [.ref 107, .int x1, .int x2, .int (x3 + (-1 : Int32))] [] (xLay, I1, L2, (kM R)) (0, 0) Φ) ∧ (¬ (I 150 x3.toNatClampNeg) = r3 → (vp_in x3 70) ∧ (vp_in x3 70) ∧ ∀ n4 : Int32, n4 = ((I1 150 x3.toNatClampNeg) + (1 : Int32)) → (vp_in x3 70) ∧ ∀ I5 : sm_I, I5 = (sm_up I1 150 x3.toNatClampNeg n4) → ∀ I6 : sm_I, I6 = (sm_up I5 107 63 ((I5 107 63) + (1 : Int32))) → (((I6 107 63) ≤ (1000 : Int32) → sm_wp sm_P S d 116 0 [.ref 107, .int x3, .int (x3 + (1 : Int32))] [] (xLay, I6, L2, (kM R)) (0, 0) (fun z => ∃ (I7 : sm_I) (L8 : sm_L), z = (none, (xLay, I7, L8, (kM R))) ∧ ∀ I10 : sm_I, I10 = (sm_up I7 107 52 (x3 + (1 : Int32))) → (vp_in x3 70) ∧ sm_wp sm_P S d 115 0 [.ref 107, .int (I10 148 x3.toNatClampNeg), .int (I1 150 x3.toNatClampNeg)] [] (xLay, I10, L8, (kM R)) (0, 0) (fun z => ∃ (r13 : Int32) (I11 : sm_I) (L12 : sm_L), z = (some (.int r13), (xLay, I11, L12, (kM R))) ∧ ((x1 = 0 → ((r13 = 0 → sm_wp sm_P S (d + 1) 186 3 [.ref 107, .int x1, .int x2, .int x3] [] (xLay, I11, L12, (kM R)) (0, 0) Φ) ∧ (¬ r13 = 0 → (vp_in x3 70) ∧ ∀ I14 : sm_I, I14 = (sm_up I11 149 x3.toNatClampNeg (I1 150 x3.toNatClampNeg)) → (((I14 107 59) ≤ (x3 + (1 : Int32)) → ((x1 = 0 → Φ (some (.int (1 : Int32)), (xLay, I14, L12, (kM R)))) ∧ (¬ x1 = 0 → sm_wp sm_P S (d + 1) 186 17 [.ref 107, .int x1, .int x2, .int x3, .int (0 : Int32)] [] (xLay, I14, L12, (kM R)) (0, 0) Φ))) ∧ (¬ (I14 107 59) ≤ (x3 + (1 : Int32)) → (vp_in (x3 + (1 : Int32)) 70) ∧ ∀ I16 : sm_I, I16 = (sm_up I14 150 (x3 + (1 : Int32)).toNatClampNeg (0 : Int32)) → sm_wp sm_P S (d + 1) 186 3 [.ref 107, .int x1, .int x2, .int (x3 + (1 : Int32))] [] (xLay, I16, L12, (kM R)) (0, 0) Φ))))) ∧ (¬ x1 = 0 → (vp_in x3 70) ∧ sm_wp sm_P S d 168 0 [.ref 107, .int (I11 148 x3.toNatClampNeg), .int (I1 150 x3.toNatClampNeg), .int r13] [] (xLay, I11, L12, (kM R)) (0, 0) (fun z => ∃ (I19 : sm_I) (L20 : sm_L), z = (none, (xLay, I19, L20, (kM R))) ∧ ((r13 = 0 → sm_wp sm_P S (d + 1) 186 3 [.ref 107, .int x1, .int x2, .int x3] [] (xLay, I19, L20, (kM R)) (0, 0) Φ) ∧ (¬ r13 = 0 → (vp_in x3 70) ∧ ∀ I22 : sm_I, I22 = (sm_up I19 149 x3.toNatClampNeg (I1 150 x3.toNatClampNeg)) → (((I22 107 59) ≤ (x3 + (1 : Int32)) → ((x1 = 0 → Φ (some (.int (1 : Int32)), (xLay, I22, L20, (kM R)))) ∧ (¬ x1 = 0 → sm_wp sm_P S (d + 1) 186 17 [.ref 107, .int x1, .int x2, .int x3, .int (0 : Int32)] [] (xLay, I22, L20, (kM R)) (0, 0) Φ))) ∧ (¬ (I22 107 59) ≤ (x3 + (1 : Int32)) → (vp_in (x3 + (1 : Int32)) 70) ∧ ∀ I24 : sm_I, I24 = (sm_up I22 150 (x3 + (1 : Int32)).toNatClampNeg (0 : Int32)) → sm_wp sm_P S (d + 1) 186 3 [.ref 107, .int x1, .int x2, .int (x3 + (1 : Int32))] [] (xLay, I24, L20, (kM R)) (0, 0) Φ)))))))))) ∧ (¬ (I6 107 63) ≤ (1000 : Int32) → ∀ I31 : sm_I, I31 = (sm_up I6 107 64 (1 : Int32)) → Φ (some (.int x2), (xLay, I31, L2, (kM R))))))))))) : sm_wp sm_P S (d + 1) 186 3 [.ref 107, .int x1, .int x2, .int x3] [] (xLay, I, L, (kM R)) (0, 0) Φ := sm_wp_step (⟨fun q35 => ((h).1 q35), fun q35 => ⟨(((h).2 q35)).1, ⟨((((h).2 q35)).2).1, sm_ci0 (((((h).2 q35)).2).2) (fun r3 I1 L2 q34 => ⟨fun q33 => ((q34).1 q33), fun q33 => ⟨(((q34).2 q33)).1, ⟨((((q34).2 q33)).2).1, ⟨((((((q34).2 q33)).2).2 _ rfl)).1, ⟨fun q32 => sm_cv0 (((((((((((q34).2 q33)).2).2 _ rfl)).2 _ rfl) _ rfl)).1 q32)) (fun I7 L8 q30 => ⟨((q30 _ rfl)).1, sm_ci0 (((q30 _ rfl)).2) (fun r13 I11 L12 q29 => ⟨fun q28 => ⟨fun q18 => ((((q29).1 q28)).1 q18), fun q18 => ⟨(((((q29).1 q28)).2 q18)).1, ⟨fun q17 => ⟨fun q15 => ((((((((((q29).1 q28)).2 q18)).2 _ rfl)).1 q17)).1 q15), fun q15 => ((((((((((q29).1 q28)).2 q18)).2 _ rfl)).1 q17)).2 q15)⟩, fun q17 => ⟨(((((((((q29).1 q28)).2 q18)).2 _ rfl)).2 q17)).1, ((((((((((q29).1 q28)).2 q18)).2 _ rfl)).2 q17)).2 _ rfl)⟩⟩⟩⟩, fun q28 => ⟨(((q29).2 q28)).1, sm_cv0 ((((q29).2 q28)).2) (fun I19 L20 q27 => ⟨fun q26 => ((q27).1 q26), fun q26 => ⟨(((q27).2 q26)).1, ⟨fun q25 => ⟨fun q23 => ((((((((q27).2 q26)).2 _ rfl)).1 q25)).1 q23), fun q23 => ((((((((q27).2 q26)).2 _ rfl)).1 q25)).2 q23)⟩, fun q25 => ⟨(((((((q27).2 q26)).2 _ rfl)).2 q25)).1, ((((((((q27).2 q26)).2 _ rfl)).2 q25)).2 _ rfl)⟩⟩⟩⟩)⟩⟩)⟩), fun q32 => ⟨Or.inr rfl, (((((((((((q34).2 q33)).2).2 _ rfl)).2 _ rfl) _ rfl)).2 q32) _ rfl)⟩⟩⟩⟩⟩⟩)⟩⟩⟩)
theorem p_X12_searches_17 {S : sm_C} {d : Nat} {Φ : sm_Z → Prop} {I : sm_I} {L : sm_L} {R : sm_R} {x1 : Int32} {x2 : Int32} {x3 : Int32} {x6 : Int32} (h : (((I 107 59) ≤ x6 → sm_wp sm_P S (d + 1) 186 3 [.ref 107, .int x1, .int (x2 + (1 : Int32)), .int x3] [] (xLay, I, L, (kM R)) (0, 0) Φ) ∧ (¬ (I 107 59) ≤ x6 → (vp_in x6 70) ∧ ∀ n1 : Int32, n1 = ((I 149 x6.toNatClampNeg)).toInt8.toInt32 → (vp_in (((55 : Int32) * x2) + x6) 55100) ∧ ∀ I2 : sm_I, I2 = (sm_up I 153 (((55 : Int32) * x2) + x6).toNatClampNeg (vp_nar .byte n1)) → sm_wp sm_P S (d + 1) 186 17 [.ref 107, .int x1, .int x2, .int x3, .int (x6 + (1 : Int32))] [] (xLay, I2, L, (kM R)) (0, 0) Φ))) : sm_wp sm_P S (d + 1) 186 17 [.ref 107, .int x1, .int x2, .int x3, .int x6] [] (xLay, I, L, (kM R)) (0, 0) Φ := sm_wp_step (⟨fun q3 => ((h).1 q3), fun q3 => ⟨(((h).2 q3)).1, ⟨(((((h).2 q3)).2 _ rfl)).1, ((((((h).2 q3)).2 _ rfl)).2 _ rfl)⟩⟩⟩)
theorem p_X12_goesAll_0 {S : sm_C} {d : Nat} {Φ : sm_Z → Prop} {I : sm_I} {L : sm_L} {R : sm_R} (h : (((I 107 70) = 0 → ∀ I1 : sm_I, I1 = (sm_up (sm_up I 107 53 (0 : Int32)) 107 68 (0 : Int32)) → ∀ I2 : sm_I, I2 = (sm_up I1 107 67 (0 : Int32)) → sm_wp sm_P S d 208 0 [.ref 107] [] (xLay, I2, L, (kM R)) (0, 0) (fun z => ∃ (r5 : Int32) (I3 : sm_I) (L4 : sm_L), z = (some (.int r5), (xLay, I3, L4, (kM R))) ∧ sm_wp sm_P S d 160 0 [.ref 107, .int r5] [] (xLay, I3, L4, (kM R)) (0, 0) (fun z => ∃ (I6 : sm_I) (L7 : sm_L), z = (none, (xLay, I6, L7, (kM R))) ∧ ∀ I9 : sm_I, I9 = (sm_up I6 107 74 (I6 107 59)) → ∀ I10 : sm_I, I10 = (sm_up I9 107 73 (0 : Int32)) → ∀ I11 : sm_I, I11 = (sm_up I10 107 63 (0 : Int32)) → ∀ I12 : sm_I, I12 = (sm_up I11 107 64 (0 : Int32)) → (vp_in (I12 107 18) 2) ∧ ∀ n13 : Int32, n13 = ((I12 122 (I12 107 18).toNatClampNeg) + (1 : Int32)) → sm_wp sm_P S d 103 0 [.ref 107, .int n13] [] (xLay, I12, L7, (kM R)) (0, 0) (fun z => ∃ (r16 : Int32) (I14 : sm_I) (L15 : sm_L), z = (some (.int r16), (xLay, I14, L15, (kM R))) ∧ ((r16 = 0 → ((I14 107 64) = 0 ∨ (I14 107 64) = 1) ∧ ∀ I17 : sm_I, I17 = (sm_up I14 107 71 (I14 107 64)) → ∀ I18 : sm_I, I18 = (sm_up I17 107 72 (I17 107 63)) → ∀ I19 : sm_I, I19 = (sm_up I18 107 70 (1 : Int32)) → Φ (none, (xLay, I19, L15, (kM R)))) ∧ (¬ r16 = 0 → sm_wp sm_P S d 186 0 [.ref 107, .int (1 : Int32)] [] (xLay, I14, L15, (kM R)) (0, 0) (fun z => ∃ (r22 : Int32) (I20 : sm_I) (L21 : sm_L), z = (some (.int r22), (xLay, I20, L21, (kM R))) ∧ ∀ n23 : Int32, n23 = ((sm_up I20 107 73 r22) 107 64) → (n23 = 0 ∨ n23 = 1) ∧ ∀ I24 : sm_I, I24 = (sm_up (sm_up I20 107 73 r22) 107 71 n23) → ∀ I25 : sm_I, I25 = (sm_up I24 107 72 (I24 107 63)) → ∀ I26 : sm_I, I26 = (sm_up I25 107 70 (1 : Int32)) → Φ (none, (xLay, I26, L21, (kM R)))))))))) ∧ (¬ (I 107 70) = 0 → Φ (none, (xLay, I, L, (kM R)))))) : sm_wp sm_P S (d + 1) 135 0 [.ref 107] [] (xLay, I, L, (kM R)) (0, 0) Φ := sm_wp_step (⟨fun q32 => ⟨Or.inl rfl, sm_ci0 (((((h).1 q32) _ rfl) _ rfl)) (fun r5 I3 L4 q31 => sm_cv0 (q31) (fun I6 L7 q30 => ⟨Or.inl rfl, ⟨(((((q30 _ rfl) _ rfl) _ rfl) _ rfl)).1, sm_ci0 (((((((q30 _ rfl) _ rfl) _ rfl) _ rfl)).2 _ rfl)) (fun r16 I14 L15 q29 => ⟨fun q28 => ⟨(((q29).1 q28)).1, ⟨Or.inr rfl, ((((((q29).1 q28)).2 _ rfl) _ rfl) _ rfl)⟩⟩, fun q28 => sm_ci0 (((q29).2 q28)) (fun r22 I20 L21 q27 => ⟨((q27 _ rfl)).1, ⟨Or.inr rfl, (((((q27 _ rfl)).2 _ rfl) _ rfl) _ rfl)⟩⟩)⟩)⟩⟩))⟩, fun q32 => ((h).2 q32)⟩)
theorem p_X12_hasWay_0 {S : sm_C} {d : Nat} {Φ : sm_Z → Prop} {I : sm_I} {L : sm_L} {R : sm_R} {x1 : Int32} (h : sm_wp sm_P S d 160 0 [.ref 107, .int x1] [] (xLay, (sm_up I 107 53 (0 : Int32)), L, (kM R)) (0, 0) (fun z => ∃ (I1 : sm_I) (L2 : sm_L), z = (none, (xLay, I1, L2, (kM R))) ∧ ∀ I4 : sm_I, I4 = (sm_up I1 107 63 (0 : Int32)) → ∀ I5 : sm_I, I5 = (sm_up I4 107 64 (0 : Int32)) → (vp_in (I5 107 18) 2) ∧ ∀ n6 : Int32, n6 = ((I5 122 (I5 107 18).toNatClampNeg) + (1 : Int32)) → sm_wp sm_P S d 103 0 [.ref 107, .int n6] [] (xLay, I5, L2, (kM R)) (0, 0) (fun z => ∃ (r9 : Int32) (I7 : sm_I) (L8 : sm_L), z = (some (.int r9), (xLay, I7, L8, (kM R))) ∧ ((r9 = 0 → Φ (some (.int (0 : Int32)), (xLay, I7, L8, (kM R)))) ∧ (¬ r9 = 0 → sm_wp sm_P S d 186 0 [.ref 107, .int (0 : Int32)] [] (xLay, I7, L8, (kM R)) (0, 0) (fun z => ∃ (r12 : Int32) (I10 : sm_I) (L11 : sm_L), z = (some (.int r12), (xLay, I10, L11, (kM R))) ∧ ((r12 ≤ 0 → Φ (some (.int (0 : Int32)), (xLay, I10, L11, (kM R)))) ∧ (¬ r12 ≤ 0 → Φ (some (.int (1 : Int32)), (xLay, I10, L11, (kM R))))))))))) : sm_wp sm_P S (d + 1) 138 0 [.ref 107, .int x1] [] (xLay, I, L, (kM R)) (0, 0) Φ := sm_wp_step (⟨Or.inl rfl, sm_cv0 (h) (fun I1 L2 q17 => ⟨Or.inl rfl, ⟨(((q17 _ rfl) _ rfl)).1, sm_ci0 (((((q17 _ rfl) _ rfl)).2 _ rfl)) (fun r9 I7 L8 q16 => ⟨fun q15 => ⟨Or.inl rfl, ((q16).1 q15)⟩, fun q15 => sm_ci0 (((q16).2 q15)) (fun r12 I10 L11 q14 => ⟨fun q13 => ⟨Or.inl rfl, ((q14).1 q13)⟩, fun q13 => ⟨Or.inr rfl, ((q14).2 q13)⟩⟩)⟩)⟩⟩)⟩)
theorem p_X12_lays_0 {S : sm_C} {d : Nat} {Φ : sm_Z → Prop} {I : sm_I} {L : sm_L} {R : sm_R} {x1 : Int32} {x2 : Int32} (h : (x2 = 0 ∨ x2 = 1) ∧ ∀ I1 : sm_I, I1 = (sm_up (sm_up I 107 53 x2) 107 68 (0 : Int32)) → ∀ I2 : sm_I, I2 = (sm_up I1 107 67 (0 : Int32)) → sm_wp sm_P S d 208 0 [.ref 107] [] (xLay, I2, L, (kM R)) (0, 0) (fun z => ∃ (r5 : Int32) (I3 : sm_I) (L4 : sm_L), z = (some (.int r5), (xLay, I3, L4, (kM R))) ∧ sm_wp sm_P S d 160 0 [.ref 107, .int r5] [] (xLay, I3, L4, (kM R)) (0, 0) (fun z => ∃ (I6 : sm_I) (L7 : sm_L), z = (none, (xLay, I6, L7, (kM R))) ∧ (vp_in (I6 107 18) 2) ∧ ∀ n9 : Int32, n9 = ((I6 122 (I6 107 18).toNatClampNeg) + (1 : Int32)) → sm_wp sm_P S d 103 0 [.ref 107, .int n9] [] (xLay, I6, L7, (kM R)) (0, 0) (fun z => ∃ (r12 : Int32) (I10 : sm_I) (L11 : sm_L), z = (some (.int r12), (xLay, I10, L11, (kM R))) ∧ ((r12 = 0 → Φ (some (.int (0 : Int32)), (xLay, I10, L11, (kM R)))) ∧ (¬ r12 = 0 → sm_wp sm_P S d 116 0 [.ref 107, .int (0 : Int32), .int (1 : Int32)] [] (xLay, I10, L11, (kM R)) (0, 0) (fun z => ∃ (I13 : sm_I) (L14 : sm_L), z = (none, (xLay, I13, L14, (kM R))) ∧ ∀ I16 : sm_I, I16 = (sm_up I13 107 52 (1 : Int32)) → sm_wp sm_P S (d + 1) 156 3 [.ref 107, .int x1, .int (0 : Int32)] [] (xLay, I16, L14, (kM R)) (0, 0) Φ))))))) : sm_wp sm_P S (d + 1) 156 0 [.ref 107, .int x1, .int x2] [] (xLay, I, L, (kM R)) (0, 0) Φ := sm_wp_step (⟨(h).1, sm_ci0 ((((h).2 _ rfl) _ rfl)) (fun r5 I3 L4 q21 => sm_cv0 (q21) (fun I6 L7 q20 => ⟨(q20).1, sm_ci0 (((q20).2 _ rfl)) (fun r12 I10 L11 q19 => ⟨fun q18 => ⟨Or.inl rfl, ((q19).1 q18)⟩, fun q18 => sm_cv0 (((q19).2 q18)) (fun I13 L14 q17 => (q17 _ rfl))⟩)⟩))⟩)
theorem p_X12_lays_3 {S : sm_C} {d : Nat} {Φ : sm_Z → Prop} {I : sm_I} {L : sm_L} {R : sm_R} {x1 : Int32} {x3 : Int32} (h : (((I 107 59) ≤ x3 → Φ (some (.int (1 : Int32)), (xLay, I, L, (kM R)))) ∧ (¬ (I 107 59) ≤ x3 → (vp_in x3 70) ∧ (vp_in (((55 : Int32) * x1) + x3) 55100) ∧ ∀ n1 : Int32, n1 = (I 153 (((55 : Int32) * x1) + x3).toNatClampNeg) → sm_wp sm_P S d 115 0 [.ref 107, .int (I 148 x3.toNatClampNeg), .int n1] [] (xLay, I, L, (kM R)) (0, 0) (fun z => ∃ (r4 : Int32) (I2 : sm_I) (L3 : sm_L), z = (some (.int r4), (xLay, I2, L3, (kM R))) ∧ ((r4 = 0 → Φ (some (.int (0 : Int32)), (xLay, I2, L3, (kM R)))) ∧ (¬ r4 = 0 → sm_wp sm_P S (d + 1) 156 3 [.ref 107, .int x1, .int (x3 + (1 : Int32))] [] (xLay, I2, L3, (kM R)) (0, 0) Φ)))))) : sm_wp sm_P S (d + 1) 156 3 [.ref 107, .int x1, .int x3] [] (xLay, I, L, (kM R)) (0, 0) Φ := sm_wp_step (⟨fun q7 => ⟨Or.inr rfl, ((h).1 q7)⟩, fun q7 => ⟨(((h).2 q7)).1, ⟨((((h).2 q7)).2).1, sm_ci0 ((((((h).2 q7)).2).2 _ rfl)) (fun r4 I2 L3 q6 => ⟨fun q5 => ⟨Or.inl rfl, ((q6).1 q5)⟩, fun q5 => ((q6).2 q5)⟩)⟩⟩⟩)
end
section
/-! the reference's bound: the greatest table under one more -/
section
variable {S : sm_C} {d : Nat} {Φ : sm_Z → Prop} {I : sm_I} {L : sm_L} {R : sm_R}
def mT (I : sm_I) (pg i j : Nat) : Int := (I 143 (169 * pg + 13 * j + i)).toInt
def chg (pg : Nat) (I J : sm_I) : Prop := ∀ p q, ¬ (p = 143 ∧ 169 * pg ≤ q ∧ q < 169 * pg + 169) → J p q = I p q
theorem chg_0 {pg : Nat} {I : sm_I} : chg pg I I := fun _ _ _ => rfl
theorem chg_t {pg : Nat} {I J K : sm_I} (a : chg pg I J) (b : chg pg J K) : chg pg I K := fun p q h => (b p q h).trans (a p q h)
theorem mT_ne {pg pg' i j : Nat} {I J : sm_I} (h : chg pg I J) (hi : i < 13) (hj : j < 13) (e : pg' ≠ pg) : mT J pg' i j = mT I pg' i j := by
  unfold mT
  rw [h 143 _ (by omega)]
def bI (pg n : Nat) (I J : sm_I) (D : Nat → Nat → Int) (i j : Nat) (w : Int) (u v : Nat) : Prop := chg pg I J ∧ ∀ a b, a < n → b < n → mT J pg b a = if a < u ∨ (a = u ∧ b < v) then tU D i j w b a else D b a
theorem rx_b5 {I0 : sm_I} {pg n i j : Nat} {x1 x2 w x4 : Int32} {D : Nat → Nat → Int} (hn : (I0 107 51).toInt = n) (p69 : pg ≤ 69) (n13 : n ≤ 13) (hj : x1.toInt = j) (hi : x2.toInt = i) (jn : j < n) (in_ : i < n) (w0 : -120000 ≤ w.toInt) (w1 : w.toInt ≤ 120000) (h4 : x4.toInt = ((169 * pg : Nat) : Int)) (bD : ∀ a b, a < n → b < n → -1440 ≤ D a b ∧ D a b ≤ 1440) (k : 0 ≤ D j i + w.toInt) (h : ∀ J, chg pg I0 J → (∀ a b, a < n → b < n → mT J pg a b = tU D i j w.toInt a b) → Φ (some (.int 1), (xLay, J, L, kM R))) : ∀ (m u : Nat) (x5 : Int32) (J : sm_I), x5.toInt = u → u + m = n → bI pg n I0 J D i j w.toInt u 0 → sm_wp sm_P S d 106 5 [.ref 107, .int x1, .int x2, .int w, .int x4, .int x5] [] (xLay, J, L, kM R) (0, 0) Φ := by
  have c13 : (13 : Int32).toInt = 13 := by decide
  have te := tU_e (n := n) (D := D) k
  intro m
  induction m with
  | zero =>
    intro u x5 J h5 hm hb
    have e51 : J 107 51 = I0 107 51 := hb.1 107 51 (by omega)
    refine p_X12_bound_5 ⟨fun _ => h J hb.1 (fun a b ha hb' => ?_), fun a => ?_⟩
    · rw [hb.2 b a hb' ha, if_pos (Or.inl (by omega))]
    · have a := kl_nle a
      rw [e51] at a
      omega
  | succ m ih =>
    intro u x5 J h5 hm hb
    have e51 : J 107 51 = I0 107 51 := hb.1 107 51 (by omega)
    have s5 := ml_in1 (x := x5) (by omega)
    refine p_X12_bound_5 ⟨fun a => ?_, fun _ => ?_⟩
    · have a := kl_le.mp a
      rw [e51] at a
      omega
    have inner : ∀ (l v : Nat) (x6 : Int32) (J : sm_I), x6.toInt = v → v + l = n → bI pg n I0 J D i j w.toInt u v → sm_wp sm_P S d 106 7 [.ref 107, .int x1, .int x2, .int w, .int x4, .int x5, .int x6] [] (xLay, J, L, kM R) (0, 0) Φ := by
      intro l
      induction l with
      | zero =>
        intro v x6 J h6 hl hb
        have e51 : J 107 51 = I0 107 51 := hb.1 107 51 (by omega)
        refine p_X12_bound_7 ⟨fun _ => ih (u + 1) _ J (by omega) (by omega) ⟨hb.1, fun a b ha hb' => ?_⟩, fun a => ?_⟩
        · rw [hb.2 a b ha hb']
          by_cases c : a < u ∨ (a = u ∧ b < v)
          · rw [if_pos c, if_pos (Or.inl (by omega))]
          · rw [if_neg c, if_neg (by omega)]
        · have a := kl_nle a
          rw [e51] at a
          omega
      | succ l il =>
        intro v x6 J h6 hl hb
        have e51 : J 107 51 = I0 107 51 := hb.1 107 51 (by omega)
        have s6 := ml_in1 (x := x6) (by omega)
        have m5 : ((13 : Int32) * x5).toInt = 13 * (u : Int) := ml_mu c13 h5 (by omega) (by omega)
        have m2 : ((13 : Int32) * x2).toInt = 13 * (i : Int) := ml_mu c13 hi (by omega) (by omega)
        have a5 : (x4 + (13 : Int32) * x5).toInt = ((169 * pg + 13 * u : Nat) : Int) := (ml_ad h4 m5 (by omega) (by omega)).trans (by omega)
        have a2 : (x4 + (13 : Int32) * x2).toInt = ((169 * pg + 13 * i : Nat) : Int) := (ml_ad h4 m2 (by omega) (by omega)).trans (by omega)
        refine p_X12_bound_7 ⟨fun a => ?_, fun _ n1 e1 => ?_⟩
        · have a := kl_le.mp a
          rw [e51] at a
          omega
        have q1 : n1.toInt = ((169 * pg + 13 * u + j : Nat) : Int) := by rw [e1]; exact (ml_ad a5 hj (by omega) (by omega)).trans (by omega)
        refine ⟨kl_in (by omega) (by omega), fun n2 e2 => ?_⟩
        have q2 : n2.toInt = ((169 * pg + 13 * i + v : Nat) : Int) := by rw [e2]; exact (ml_ad a2 h6 (by omega) (by omega)).trans (by omega)
        refine ⟨kl_in (by omega) (by omega), fun n3 e3 => ?_⟩
        rw [tk_nat q1, tk_nat q2] at e3
        have r1 : (J 143 (169 * pg + 13 * u + j)).toInt = D j u := by
          have g := hb.2 u j (by omega) jn
          rw [te.1 u] at g
          rw [show (J 143 (169 * pg + 13 * u + j)).toInt = mT J pg j u from rfl, g]
          split <;> rfl
        have r2 : (J 143 (169 * pg + 13 * i + v)).toInt = D v i := by
          have g := hb.2 i v in_ (by omega)
          rw [te.2 v] at g
          rw [show (J 143 (169 * pg + 13 * i + v)).toInt = mT J pg v i from rfl, g]
          split <;> rfl
        have b1 := bD j u jn (by omega)
        have b2 := bD v i (by omega) in_
        have q3 : n3.toInt = D j u + w.toInt + D v i := by
          rw [e3]
          exact ml_ad (ml_ad r1 rfl (by omega) (by omega)) r2 (by omega) (by omega)
        intro n4 e4
        have q4 : n4.toInt = ((169 * pg + 13 * u + v : Nat) : Int) := by rw [e4]; exact (ml_ad a5 h6 (by omega) (by omega)).trans (by omega)
        rw [tk_nat q4]
        have r4 : (J 143 (169 * pg + 13 * u + v)).toInt = D v u := by
          have g := hb.2 u v (by omega) (by omega)
          rw [if_neg (by omega)] at g
          exact g
        refine ⟨kl_in (by omega) (by omega), fun c => ?_, fun c n5 e5 => ⟨?_, fun J6 e6 => ?_⟩⟩
        · have c := kl_le.mp c
          refine il (v + 1) _ J (by omega) (by omega) ⟨hb.1, fun a b ha hb' => ?_⟩
          rw [hb.2 a b ha hb']
          by_cases c1 : a < u ∨ (a = u ∧ b < v)
          · rw [if_pos c1, if_pos (by omega)]
          · rw [if_neg c1]
            by_cases c2 : a = u ∧ b = v
            · rw [if_pos (by omega), c2.1, c2.2]
              unfold tU
              rw [if_neg (by omega)]
            · rw [if_neg (by omega)]
        · rw [e5, ← e4]
          exact kl_in (by omega) (by omega)
        · have c := kl_nle c
          rw [e5, ← e4, tk_nat q4] at e6
          refine il (v + 1) _ J6 (by omega) (by omega) ⟨fun p q hq => ?_, fun a b ha hb' => ?_⟩
          · rw [e6, en_up_ne _ _ _ _ (by omega)]; exact hb.1 p q hq
          · by_cases c2 : a = u ∧ b = v
            · rw [if_pos (by omega), c2.1, c2.2]
              unfold mT tU
              rw [e6, en_up_eq, q3, if_pos (by omega)]
              omega
            · have g := hb.2 a b ha hb'
              have e : mT J6 pg b a = mT J pg b a := by
                unfold mT
                rw [e6, en_up_ne _ _ _ _ (by omega)]
              rw [e, g]
              by_cases c1 : a < u ∨ (a = u ∧ b < v)
              · rw [if_pos c1, if_pos (by omega)]
              · rw [if_neg c1, if_neg (by omega)]
    exact inner n 0 0 J (by decide) (by omega) hb
theorem rx_bound {pg n i j : Nat} {x1 x2 w : Int32} {C : List tC} (hpg : (I 107 52).toInt = pg) (p69 : pg ≤ 69) (hn : (I 107 51).toInt = n) (n13 : n ≤ 13) (hj : x1.toInt = j) (hi : x2.toInt = i) (jn : j < n) (in_ : i < n) (w0 : -120000 ≤ w.toInt) (w1 : w.toInt ≤ 120000) (T : ttop n C (mT I pg)) (h0 : tno n ((i, j, w.toInt) :: C) → Φ (some (.int 0), (xLay, I, L, kM R))) (h1 : ∀ J, chg pg I J → ttop n ((i, j, w.toInt) :: C) (mT J pg) → Φ (some (.int 1), (xLay, J, L, kM R))) : sm_wp sm_P S d 106 0 [.ref 107, .int x1, .int x2, .int w] [] (xLay, I, L, kM R) (0, 0) Φ := by
  have c13 : (13 : Int32).toInt = 13 := by decide
  have c169 : (169 : Int32).toInt = 169 := by decide
  have bD := ttop_b T
  have m1 : ((169 : Int32) * I 107 52).toInt = 169 * (pg : Int) := ml_mu c169 hpg (by omega) (by omega)
  have m2 : ((13 : Int32) * x2).toInt = 13 * (i : Int) := ml_mu c13 hi (by omega) (by omega)
  have m3 : ((13 : Int32) * x1).toInt = 13 * (j : Int) := ml_mu c13 hj (by omega) (by omega)
  refine p_X12_bound_0 (fun n1 e1 => ?_)
  have q1 : n1.toInt = ((169 * pg + 13 * i + j : Nat) : Int) := by
    rw [e1]
    exact (ml_ad (ml_ad m1 m2 (by omega) (by omega)) hj (by omega) (by omega)).trans (by omega)
  rw [tk_nat q1]
  have r1 : (I 143 (169 * pg + 13 * i + j)).toInt = mT I pg j i := rfl
  have b1 := bD j i jn in_
  have s1 : (I 143 (169 * pg + 13 * i + j) + w).toInt = mT I pg j i + w.toInt := ml_ad r1 rfl (by omega) (by omega)
  refine ⟨kl_in (by omega) (by omega), fun a n2 e2 => ?_, fun a => h0 (t_no T in_ jn ?_)⟩
  · have a := kl_le.mp a
    rw [kl_0, s1] at a
    have q2 : n2.toInt = ((169 * pg + 13 * j + i : Nat) : Int) := by
      rw [e2]
      exact (ml_ad (ml_ad m1 m3 (by omega) (by omega)) hi (by omega) (by omega)).trans (by omega)
    rw [tk_nat q2]
    refine ⟨kl_in (by omega) (by omega), fun b => ?_, fun b => h1 I chg_0 (t_same T ?_)⟩
    · refine rx_b5 (D := mT I pg) hn p69 n13 hj hi jn in_ w0 w1 (by rw [m1]; omega) bD a (fun J cg eq => h1 J cg (ttop_eq (fun a b ha hb => (eq a b ha hb).symm) (t_up T in_ jn a))) n 0 0 I (by decide) (by omega) ⟨chg_0, fun a b _ _ => ?_⟩
      rw [if_neg (by omega)]
    · have b := kl_nlt b
      exact b
  · have a := kl_nle a
    rw [kl_0, s1] at a
    exact a
end
end
section
/-! the reference's choices as constraints on the table -/
section
variable {S : sm_C} {d : Nat} {Φ : sm_Z → Prop} {I : sm_I} {L : sm_L} {R : sm_R}
def rR (pg n : Nat) (C : List tC) (I : sm_I) (r : Int32) (J : sm_I) : Prop := chg pg I J ∧ ((r = 0 ∧ tno n C) ∨ (r = 1 ∧ ttop n C (mT J pg)))
def oA (I : sm_I) (l i : Nat) : Int32 := if i = 0 ∨ (I 122 l).toInt < i then -1 else I 135 (10 * l + i - 1)
def su (I : sm_I) (l i : Nat) : Nat := if oA I l i = -1 then i else (I 131 (oA I l i).toNatClampNeg).toNatClampNeg + 1
def fa (I : sm_I) (l i : Nat) : Int := if oA I l i = -1 then 0 else (I 133 (oA I l i).toNatClampNeg).toInt
def na (I : sm_I) (l i : Nat) : Int := if oA I l i = -1 then 0 else (I 132 (oA I l i).toNatClampNeg).toInt
def rhd (I : sm_I) (l : Nat) (c : tC) : tC := if I 107 53 = 0 ∨ c.1 = c.2.1 then c else (su I l c.1, su I l c.2.1, c.2.2 - fa I l c.1 + na I l c.2.1)
def hok (I : sm_I) (l n : Nat) : Prop := I 107 53 = 0 ∨ ∀ i, i < n → su I l i < n ∧ (-1440 ≤ fa I l i ∧ fa I l i ≤ 1440) ∧ (-1440 ≤ na I l i ∧ na I l i ≤ 1440) ∧ (oA I l i = -1 ∨ ((0 ≤ (oA I l i).toInt ∧ (oA I l i).toInt < 260) ∧ 0 ≤ (I 131 (oA I l i).toNatClampNeg).toInt))
/-- what a call needs of the reference -/
def rB0 (I : sm_I) (pg n l : Nat) : Prop := (I 107 52).toInt = pg ∧ pg ≤ 69 ∧ (I 107 51).toInt = n ∧ n ≤ 12 ∧ (I 107 18).toInt = l ∧ l ≤ 1 ∧ (0 ≤ (I 122 l).toInt ∧ (I 122 l).toInt ≤ 10) ∧ hok I l n
theorem oA_cg {pg : Nat} {I J : sm_I} (h : chg pg I J) (l i : Nat) : oA J l i = oA I l i := by
  unfold oA
  rw [h 122 l (by omega), h 135 _ (by omega)]
theorem su_cg {pg : Nat} {I J : sm_I} (h : chg pg I J) (l i : Nat) : su J l i = su I l i ∧ fa J l i = fa I l i ∧ na J l i = na I l i := by
  unfold su fa na
  rw [oA_cg h, h 131 _ (by omega), h 132 _ (by omega), h 133 _ (by omega)]
  exact ⟨rfl, rfl, rfl⟩
theorem rhd_cg {pg : Nat} {I J : sm_I} (h : chg pg I J) (l : Nat) : rhd J l = rhd I l := by
  funext c
  unfold rhd
  rw [h 107 53 (by omega), (su_cg h l c.1).1, (su_cg h l c.2.1).1, (su_cg h l c.1).2.1, (su_cg h l c.2.1).2.2]
theorem rB0_cg {pg n l : Nat} {I J : sm_I} (h : chg pg I J) (b : rB0 I pg n l) : rB0 J pg n l := by
  obtain ⟨b1, b2, b3, b4, b5, b6, b7, b8⟩ := b
  refine ⟨by rw [h 107 52 (by omega)]; exact b1, b2, by rw [h 107 51 (by omega)]; exact b3, b4, by rw [h 107 18 (by omega)]; exact b5, b6, by rw [h 122 l (by omega)]; exact b7, ?_⟩
  rcases b8 with e | e
  · exact Or.inl (by rw [h 107 53 (by omega)]; exact e)
  · refine Or.inr (fun i hi => ?_)
    rw [(su_cg h l i).1, (su_cg h l i).2.1, (su_cg h l i).2.2, oA_cg h, h 131 _ (by omega)]
    exact e i hi
theorem rx_openAt {x : Int32} {i l : Nat} (hx : x.toInt = i) (hl : (I 107 18).toInt = l) (l1 : l ≤ 1) (b : 0 ≤ (I 122 l).toInt ∧ (I 122 l).toInt ≤ 10) (h : Φ (some (.int (oA I l i)), (xLay, I, L, kM R))) : sm_wp sm_P S d 171 0 [.ref 107, .int x] [] (xLay, I, L, kM R) (0, 0) Φ := by
  have nl := tk_nat hl
  have c10 : (10 : Int32).toInt = 10 := by decide
  refine p_X12_openAt_0 ⟨fun e => ?_, fun e => ⟨kl_in (by omega) (by omega), ?_⟩⟩
  · rw [e] at hx
    have : oA I l i = -1 := if_pos (Or.inl (by rw [kl_0] at hx; omega))
    rw [this] at h; exact h
  · rw [nl]
    have i0 : i ≠ 0 := fun q => e (en_ofI (by rw [hx, q]; decide))
    refine ⟨fun a n1 e1 => ?_, fun a => ?_⟩
    · have a := kl_le.mp a
      have m : ((10 : Int32) * I 107 18).toInt = 10 * (l : Int) := ml_mu c10 hl (by omega) (by omega)
      have s : ((10 : Int32) * I 107 18 + x).toInt = 10 * (l : Int) + i := ml_ad m hx (by omega) (by omega)
      have s1 : n1.toInt = ((10 * l + i - 1 : Nat) : Int) := by
        rw [e1, Int32.toInt_sub, kl_1, s]
        exact en_bmod (by omega) (by omega) (Or.inl (by omega))
      refine ⟨kl_in (by omega) (by omega), ?_⟩
      rw [tk_nat s1]
      have : oA I l i = I 135 (10 * l + i - 1) := if_neg (by omega)
      rw [this] at h; exact h
    · have a := kl_nle a
      have : oA I l i = -1 := if_pos (Or.inr (by omega))
      rw [this] at h; exact h
theorem rx_atMost {pg n i j l : Nat} {x1 x2 w : Int32} {C : List tC} (B : rB0 I pg n l) (hj : x1.toInt = j) (hi : x2.toInt = i) (jn : j < n) (in_ : i < n) (w0 : -110000 ≤ w.toInt) (w1 : w.toInt ≤ 110000) (T : ttop n C (mT I pg)) (h : ∀ r J, rR pg n (rhd I l (i, j, w.toInt) :: C) I r J → Φ (some (.int r), (xLay, J, L, kM R))) : sm_wp sm_P S (d + 1) 98 0 [.ref 107, .int x1, .int x2, .int w] [] (xLay, I, L, kM R) (0, 0) Φ := by
  obtain ⟨b1, b2, b3, b4, b5, b6, b7, b8⟩ := B
  refine p_X12_atMost_0 ⟨fun e => ?_, fun e => ⟨fun e2 => ?_, fun e2 => ?_⟩⟩
  · have er : rhd I l (i, j, w.toInt) = (i, j, w.toInt) := if_pos (Or.inl e)
    rw [er] at h
    exact rx_bound b1 b2 b3 (by omega) hj hi jn in_ (by omega) (by omega) T (fun q => ⟨_, I, L, rfl, Or.inl rfl, h 0 I ⟨chg_0, Or.inl ⟨rfl, q⟩⟩⟩) (fun J cg q => ⟨_, J, L, rfl, Or.inr rfl, h 1 J ⟨cg, Or.inr ⟨rfl, q⟩⟩⟩)
  · have eij : i = j := by rw [e2] at hj; omega
    have er : rhd I l (i, j, w.toInt) = (i, j, w.toInt) := if_pos (Or.inr eij)
    rw [er] at h
    exact rx_bound b1 b2 b3 (by omega) hj hi jn in_ (by omega) (by omega) T (fun q => ⟨_, I, L, rfl, Or.inl rfl, h 0 I ⟨chg_0, Or.inl ⟨rfl, q⟩⟩⟩) (fun J cg q => ⟨_, J, L, rfl, Or.inr rfl, h 1 J ⟨cg, Or.inr ⟨rfl, q⟩⟩⟩)
  · have nij : i ≠ j := fun q => e2 (en_ofI (by rw [hj, hi, q]))
    have er : rhd I l (i, j, w.toInt) = (su I l i, su I l j, w.toInt - fa I l i + na I l j) := if_neg (by rintro (q | q); exact e q; exact nij q)
    rw [er] at h
    have H := b8.resolve_left e
    obtain ⟨i1, i2, -, i4⟩ := H i in_
    obtain ⟨j1, -, j3, j4⟩ := H j jn
    have fin : ∀ s1 s2 n6 : Int32, s1.toInt = su I l j → s2.toInt = su I l i → n6.toInt = w.toInt - fa I l i + na I l j → sm_wp sm_P S (d + 1) 98 15 [.int n6] [.int s2, .int s1, .ref 107] (xLay, I, L, kM R) (0, 0) Φ := fun s1 s2 n6 e1 e2 e3 => by
      refine p_X12_atMost_15 (rx_bound b1 b2 b3 (by omega) e1 e2 j1 i1 (by omega) (by omega) T (fun q => ⟨_, I, L, rfl, Or.inl rfl, h 0 I ⟨chg_0, Or.inl ⟨rfl, ?_⟩⟩⟩) (fun J cg q => ⟨_, J, L, rfl, Or.inr rfl, h 1 J ⟨cg, Or.inr ⟨rfl, ?_⟩⟩⟩))
      · rw [e3] at q; exact q
      · rw [e3] at q; exact q
    have f12 : ∀ s1 n6 : Int32, s1.toInt = su I l j → n6.toInt = w.toInt - fa I l i + na I l j → sm_wp sm_P S (d + 1) 98 12 [.ref 107, .int x2, .int (oA I l i), .int n6] [.int s1, .ref 107] (xLay, I, L, kM R) (0, 0) Φ := fun s1 n6 e1 e3 => by
      refine p_X12_atMost_12 ⟨fun q => fin s1 x2 n6 e1 ?_ e3, fun q => ?_⟩
      · have : su I l i = i := if_pos q
        rw [this]; exact hi
      · have k := i4.resolve_left q
        have b9 : (I 131 (oA I l i).toNatClampNeg).toInt < 100 := by
          have : su I l i = (I 131 (oA I l i).toNatClampNeg).toNatClampNeg + 1 := if_neg q
          have := kl_nat k.2
          omega
        refine ⟨kl_in k.1.1 k.1.2, fin s1 _ n6 e1 ?_ e3⟩
        have : su I l i = (I 131 (oA I l i).toNatClampNeg).toNatClampNeg + 1 := if_neg q
        have n := kl_nat k.2
        rw [this, ml_in1 (by omega)]
        omega
    have z : (0 : Int32).toInt = 0 := kl_0
    refine rx_openAt hj b5 b6 b7 ⟨_, I, L, rfl, rx_openAt hi b5 b6 b7 ⟨_, I, L, rfl, fun q => ⟨fun p => ?_, fun p => ?_⟩, fun q => ?_⟩⟩
    · -- neither
      have sj : su I l j = j := if_pos q
      have fi : fa I l i = 0 := if_pos p
      have nj : na I l j = 0 := if_pos q
      refine fun n18 e18 => ⟨fun _ => f12 x1 n18 (by rw [sj]; exact hj) ?_, fun q' => absurd q q'⟩
      rw [e18, Int32.toInt_sub, ml_ad rfl z (by omega) (by omega), z, fi, nj]
      exact en_bmod (by omega) (by omega) (Or.inl (by omega))
    · have sj : su I l j = j := if_pos q
      have fi : fa I l i = (I 133 (oA I l i).toNatClampNeg).toInt := if_neg p
      have nj : na I l j = 0 := if_pos q
      have k := i4.resolve_left p
      refine ⟨kl_in k.1.1 k.1.2, fun n16 e16 => ⟨fun _ => f12 x1 n16 (by rw [sj]; exact hj) ?_, fun q' => absurd q q'⟩⟩
      rw [e16, Int32.toInt_sub, ml_ad rfl z (by omega) (by omega), ← fi, nj]
      exact en_bmod (by omega) (by omega) (Or.inl (by omega))
    · have k := j4.resolve_left q
      have sj : su I l j = (I 131 (oA I l j).toNatClampNeg).toNatClampNeg + 1 := if_neg q
      have nj : na I l j = (I 132 (oA I l j).toNatClampNeg).toInt := if_neg q
      have nk := kl_nat k.2
      have vj : vp_in (oA I l j) 260 := kl_in k.1.1 k.1.2
      have s131 : (I 131 (oA I l j).toNatClampNeg + 1).toInt = su I l j := by rw [sj, ml_in1 (by omega)]; omega
      refine ⟨vj, fun p => ?_, fun p => ?_⟩
      · have fi : fa I l i = 0 := if_pos p
        refine fun n13 e13 => ⟨fun q' => absurd q' q, fun _ => ⟨vj, f12 _ n13 s131 ?_⟩⟩
        rw [e13, Int32.toInt_sub, ml_ad rfl nj.symm (by omega) (by omega), z, fi]
        exact en_bmod (by omega) (by omega) (Or.inl (by omega))
      · have fi : fa I l i = (I 133 (oA I l i).toNatClampNeg).toInt := if_neg p
        have ki := i4.resolve_left p
        refine ⟨kl_in ki.1.1 ki.1.2, fun n11 e11 => ⟨fun q' => absurd q' q, fun _ => ⟨vj, f12 _ n11 s131 ?_⟩⟩⟩
        rw [e11, Int32.toInt_sub, ml_ad rfl nj.symm (by omega) (by omega), ← fi]
        exact en_bmod (by omega) (by omega) (Or.inl (by omega))
/-- both ways -/
def bC (f : tC → tC) (x y : Nat) (a b : Int) : List tC := [f (y, x, -a), f (x, y, b)]
theorem rx_between {pg n i j l : Nat} {x1 x2 a b : Int32} {C : List tC} (B : rB0 I pg n l) (hi : x1.toInt = i) (hj : x2.toInt = j) (in_ : i < n) (jn : j < n) (a0 : -80000 ≤ a.toInt) (a1 : a.toInt ≤ 80000) (b0 : -80000 ≤ b.toInt) (b1 : b.toInt ≤ 80000) (T : ttop n C (mT I pg)) (h : ∀ r J, rR pg n (bC (rhd I l) i j a.toInt b.toInt ++ C) I r J → Φ (some (.int r), (xLay, J, L, kM R))) : sm_wp sm_P S (d + 2) 104 0 [.ref 107, .int x1, .int x2, .int a, .int b] [] (xLay, I, L, kM R) (0, 0) Φ := by
  have na : (-a).toInt = -a.toInt := by rw [Int32.toInt_neg]; exact en_bmod (by omega) (by omega) (Or.inl rfl)
  refine p_X12_between_0 (rx_atMost B hj hi jn in_ (by omega) (by omega) T (fun r J q => ⟨r, J, L, rfl, ?_, ?_⟩))
  · intro r0
    obtain ⟨cg, ⟨-, q⟩ | ⟨r1, -⟩⟩ := q
    · exact h 0 J ⟨cg, Or.inl ⟨rfl, tno_cg (fun c hc => List.mem_cons_of_mem _ hc) q⟩⟩
    · rw [r0] at r1; exact absurd r1 (by decide)
  · intro r0
    obtain ⟨cg, ⟨r1, -⟩ | ⟨-, q⟩⟩ := q
    · exact absurd r1 r0
    · refine rx_atMost (rB0_cg cg B) hi hj in_ jn (by omega) (by omega) q (fun r2 J2 q2 => ⟨r2, J2, L, rfl, ?_, ?_⟩)
      · intro r0
        rw [na, rhd_cg cg] at q2
        obtain ⟨cg2, ⟨-, q2⟩ | ⟨r1, -⟩⟩ := q2
        · exact h 0 J2 ⟨chg_t cg cg2, Or.inl ⟨rfl, q2⟩⟩
        · rw [r0] at r1; exact absurd r1 (by decide)
      · intro r0
        rw [na, rhd_cg cg] at q2
        obtain ⟨cg2, ⟨r1, -⟩ | ⟨-, q2⟩⟩ := q2
        · exact absurd r1 r0
        · exact h 1 J2 ⟨chg_t cg cg2, Or.inr ⟨rfl, q2⟩⟩
def nd (x : Int32) : Nat := (x.toInt + 1).toNat
def spC (I : sm_I) (f : tC → tC) (p : Nat) (g : Int) : List tC := bC f (nd (I 130 p)) (nd (I 131 p)) ((I 132 p).toInt - g) ((I 133 p).toInt + g)
/-- a span that can be laid on the table -/
def sspk (I : sm_I) (n p : Nat) : Prop := p < 260 ∧ (0 ≤ (I 130 p).toInt ∧ (I 130 p).toInt + 1 < n) ∧ (-1 ≤ (I 131 p).toInt ∧ (I 131 p).toInt + 1 < n) ∧ (-1440 ≤ (I 132 p).toInt ∧ (I 132 p).toInt ≤ 1440) ∧ (-1440 ≤ (I 133 p).toInt ∧ (I 133 p).toInt ≤ 1440)
theorem sspk_cg {pg n p : Nat} {I J : sm_I} (h : chg pg I J) (k : sspk I n p) : sspk J n p := by
  unfold sspk at k ⊢
  rw [h 130 p (by omega), h 131 p (by omega), h 132 p (by omega), h 133 p (by omega)]; exact k
theorem spC_cg {pg : Nat} {I J : sm_I} (h : chg pg I J) (f : tC → tC) (p : Nat) (g : Int) : spC J f p g = spC I f p g := by
  unfold spC
  rw [h 130 p (by omega), h 131 p (by omega), h 132 p (by omega), h 133 p (by omega)]
theorem rx_holds {pg n l p : Nat} {x g : Int32} {C : List tC} (B : rB0 I pg n l) (hx : x.toInt = p) (k : sspk I n p) (g0 : 0 ≤ g.toInt) (g1 : g.toInt ≤ 5000) (T : ttop n C (mT I pg)) (h : ∀ r J, rR pg n (spC I (rhd I l) p g.toInt ++ C) I r J → Φ (some (.int r), (xLay, J, L, kM R))) : sm_wp sm_P S (d + 3) 139 0 [.ref 107, .int x, .int g] [] (xLay, I, L, kM R) (0, 0) Φ := by
  obtain ⟨k1, k2, k3, k4, k5⟩ := k
  have n12 := B.2.2.2.1
  have px := tk_nat hx
  have v : vp_in x 260 := kl_in (by omega) (by omega)
  refine p_X12_holdsSpan_0 ⟨v, v, v, v, ?_⟩
  rw [px]
  intro n1 e1 n2 e2 n3 e3 n4 e4
  have s1 : n1.toInt = ((nd (I 130 p) : Nat) : Int) := by rw [e1, ml_in1 (by omega)]; unfold nd; omega
  have s2 : n2.toInt = ((nd (I 131 p) : Nat) : Int) := by rw [e2, ml_in1 (by omega)]; unfold nd; omega
  have s3 : n3.toInt = (I 132 p).toInt - g.toInt := by rw [e3, Int32.toInt_sub]; exact en_bmod (by omega) (by omega) (Or.inl rfl)
  have s4 : n4.toInt = (I 133 p).toInt + g.toInt := by rw [e4]; exact ml_ad rfl rfl (by omega) (by omega)
  refine rx_between B s1 s2 (by unfold nd; omega) (by unfold nd; omega) (by omega) (by omega) (by omega) (by omega) T (fun r J q => ⟨r, J, L, rfl, ?_, h r J ?_⟩)
  · rcases q.2 with ⟨e, -⟩ | ⟨e, -⟩
    · exact Or.inl e
    · exact Or.inr e
  · rw [s3, s4] at q; exact q
/-- the spans of one choice -/
def spL (I : sm_I) (f : tC → tC) (g : Int) (p : Nat) : Nat → List tC
  | 0 => []
  | m + 1 => spC I f (p + m) g ++ spL I f g p m
theorem spL_cg {pg : Nat} {I J : sm_I} (h : chg pg I J) (f : tC → tC) (g : Int) (p : Nat) : ∀ m, spL J f g p m = spL I f g p m := by
  intro m
  induction m with
  | zero => rfl
  | succ m ih =>
    show spC J f (p + m) g ++ spL J f g p m = spC I f (p + m) g ++ spL I f g p m
    rw [ih, spC_cg h]
theorem spL_le {I : sm_I} {f : tC → tC} {g : Int} {p : Nat} {c : tC} : ∀ m m', m ≤ m' → c ∈ spL I f g p m → c ∈ spL I f g p m' := by
  intro m m' h hc
  obtain ⟨k, rfl⟩ : ∃ k, m' = m + k := ⟨m' - m, by omega⟩
  clear h
  induction k with
  | zero => exact hc
  | succ k ih => exact List.mem_append.mpr (Or.inr ih)
theorem rx_ch5 {I0 : sm_I} {pg n l q N : Nat} {x3 x4 : Int32} {C : List tC} (B : rB0 I0 pg n l) (h3 : x3.toInt = q) (q80 : q < 80) (hN : (I0 129 q).toInt = N) (N3 : N ≤ 3) (g0 : 0 ≤ x4.toInt) (g1 : x4.toInt ≤ 5000) (ok : ∀ i, i < N → sspk I0 n (3 * q + i)) (h : ∀ r J, rR pg n (spL I0 (rhd I0 l) x4.toInt (3 * q) N ++ C) I0 r J → Φ (some (.int r), (xLay, J, L, kM R))) : ∀ (m i : Nat) (x5 : Int32) (J : sm_I), x5.toInt = ((3 * q + i : Nat) : Int) → i + m = N → chg pg I0 J → ttop n (spL I0 (rhd I0 l) x4.toInt (3 * q) i ++ C) (mT J pg) → sm_wp sm_P S (d + 4) 115 5 [.ref 107, .int x3, .int x4, .int x5] [] (xLay, J, L, kM R) (0, 0) Φ := by
  have c3 : (3 : Int32).toInt = 3 := by decide
  have px := tk_nat h3
  have m3 : ((3 : Int32) * x3).toInt = 3 * (q : Int) := ml_mu c3 h3 (by omega) (by omega)
  intro m
  induction m with
  | zero =>
    intro i x5 J h5 hm cg T
    have e : i = N := by omega
    subst e
    have e129 : J 129 q = I0 129 q := cg 129 q (by omega)
    refine p_X12_chooses_5 ⟨kl_in (by omega) (by omega), ?_⟩
    rw [px, e129]
    refine ⟨fun _ => h 1 J ⟨cg, Or.inr ⟨rfl, T⟩⟩, fun a => ?_⟩
    have a := kl_nle a
    rw [ml_ad m3 hN (by omega) (by omega)] at a
    omega
  | succ m ih =>
    intro i x5 J h5 hm cg T
    have s5 := ml_in1 (x := x5) (by omega)
    have e129 : J 129 q = I0 129 q := cg 129 q (by omega)
    refine p_X12_chooses_5 ⟨kl_in (by omega) (by omega), ?_⟩
    rw [px, e129]
    refine ⟨fun a => ?_, fun _ => ?_⟩
    · have a := kl_le.mp a
      rw [ml_ad m3 hN (by omega) (by omega)] at a
      omega
    refine rx_holds (rB0_cg cg B) h5 (sspk_cg cg (ok i (by omega))) g0 g1 T (fun r J2 z => ⟨r, J2, L, rfl, ?_, ?_⟩)
    · intro r0
      obtain ⟨cg2, ⟨-, z⟩ | ⟨r1, -⟩⟩ := z
      · refine h 0 J2 ⟨chg_t cg cg2, Or.inl ⟨rfl, tno_cg (fun c hc => ?_) z⟩⟩
        rw [rhd_cg cg, spC_cg cg, ← List.append_assoc] at hc
        rcases List.mem_append.mp hc with hc | hc
        · exact List.mem_append.mpr (Or.inl (spL_le (i + 1) N (by omega) hc))
        · exact List.mem_append.mpr (Or.inr hc)
      · rw [r0] at r1; exact absurd r1 (by decide)
    · intro r0
      obtain ⟨cg2, ⟨r1, -⟩ | ⟨-, z⟩⟩ := z
      · exact absurd r1 r0
      · refine ih (i + 1) _ J2 (by omega) (by omega) (chg_t cg cg2) ?_
        rw [rhd_cg cg, spC_cg cg, ← List.append_assoc] at z
        exact z
end
end
