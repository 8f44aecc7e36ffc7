/-! the class's walk, move, breaks, pick, exact, told = 49 (wip/pe/mkb3.py) -/
section
variable {S : sm_C} {d : Nat} {Φ : sm_Z → Prop} {I : sm_I} {L : sm_L} {R : sm_R}
theorem b49_pl {x : Int32} (h0 : ¬ (0 ≤ x.toInt ∧ x.toInt < (I 49 1).toInt) → Φ (some (.int 0), (xLay, I, L, kD49 R))) (h1 : 0 ≤ x.toInt → x.toInt < (I 49 1).toInt → Φ (some (.int 1), (xLay, I, L, kD49 R))) : sm_wp sm_P S d 60 0 [.ref 0, .int x] [] (xLay, I, L, kD49 R) (0, 0) Φ := by
  refine pd49_X11_isPlace_0 ⟨fun a => h0 (fun c => ?_), fun a => ⟨fun b => h0 (fun c => ?_), fun b => h1 (kl_nlt0 a) (kl_nle b)⟩⟩
  · have a := kl_lt.mp a
    rw [kl_0] at a; omega
  · have b := kl_le.mp b
    omega
theorem b49_inS {x : Int32} (h0 : ¬ (0 ≤ x.toInt ∧ x.toInt < (I 49 3).toInt) → Φ (some (.int 0), (xLay, I, L, kD49 R))) (h1 : 0 ≤ x.toInt → x.toInt < (I 49 3).toInt → Φ (some (.int 1), (xLay, I, L, kD49 R))) : sm_wp sm_P S d 62 0 [.ref 0, .int x] [] (xLay, I, L, kD49 R) (0, 0) Φ := by
  have g := kp_inS (S := S) (d := d) (Φ := Φ) (I := I) (L := L) (R := kD49 R) (q := 49) (x := x) (by decide) (fun c => by rw [kD49_kP]; exact h0 c) (fun a b => by rw [kD49_kP]; exact h1 a b)
  rw [kD49_kP] at g
  exact g
theorem b49_wb {x y : Int32} (x0 : 0 ≤ x.toInt) (x1 : x.toInt < 6) (y0 : 0 ≤ y.toInt) (y1 : y.toInt < 6) (h : Φ (some (.int (I 50 (6 * x.toNatClampNeg + y.toNatClampNeg))), (xLay, I, L, kD49 R))) : sm_wp sm_P S d 27 0 [.ref 49, .int x, .int y] [] (xLay, I, L, kD49 R) (0, 0) Φ := by
  have c6 : (6 : Int32).toInt = 6 := by decide
  have nx := kl_nat x0
  have ny := kl_nat y0
  have m6 : (x * (6 : Int32)).toInt = x.toInt * 6 := ml_mu rfl c6 (by omega) (by omega)
  have s6 : ((x * (6 : Int32)) + y).toInt = ((6 * x.toNatClampNeg + y.toNatClampNeg : Nat) : Int) := (ml_ad m6 rfl (by omega) (by omega)).trans (by omega)
  have t6 := tk_nat s6
  refine pd49_X10_walkBetween_0 ⟨fun a => ?_, fun _ => ⟨fun a => ?_, fun _ => ⟨fun a => ?_, fun _ => ⟨fun _ => ⟨kl_in (by omega) (by omega), ?_⟩, fun a => ?_⟩⟩⟩⟩
  · have a := kl_lt.mp a
    rw [kl_0] at a; omega
  · have a := kl_le.mp a
    omega
  · have a := kl_lt.mp a
    rw [kl_0] at a; omega
  · rw [t6]; exact h
  · have a := kl_nlt a
    omega
theorem b49_walk {x y : Int32} (h6 : (I 49 1).toInt ≤ 6) (h0 : ¬ ((0 ≤ x.toInt ∧ x.toInt < (I 49 1).toInt) ∧ (0 ≤ y.toInt ∧ y.toInt < (I 49 1).toInt)) → Φ (some (.int (-1)), (xLay, I, L, kD49 R))) (h1 : 0 ≤ x.toInt → x.toInt < (I 49 1).toInt → 0 ≤ y.toInt → y.toInt < (I 49 1).toInt → Φ (some (.int (I 50 (6 * x.toNatClampNeg + y.toNatClampNeg))), (xLay, I, L, kD49 R))) : sm_wp sm_P S (d + 1) 90 0 [.ref 0, .int x, .int y] [] (xLay, I, L, kD49 R) (0, 0) Φ :=
  pd49_X11_walk_0 (b49_pl (fun c => ⟨_, I, L, rfl, fun _ => h0 (fun k => c k.1), fun z => absurd rfl z⟩) (fun a1 a2 => ⟨_, I, L, rfl, fun z => absurd z (by decide), fun _ => b49_pl (fun c => ⟨_, I, L, rfl, fun _ => h0 (fun k => c k.2), fun z => absurd rfl z⟩) (fun b1 b2 => ⟨_, I, L, rfl, fun z => absurd z (by decide), fun _ => b49_wb a1 (by omega) b1 (by omega) ⟨_, I, L, rfl, h1 a1 a2 b1 b2⟩⟩)⟩))
theorem b49_move {x y : Int32} (h45 : (I 49 5).toInt ≤ 45) (h0 : ¬ (0 ≤ x.toInt ∧ x.toInt < (I 49 5).toInt ∧ 0 ≤ y.toInt ∧ y.toInt ≤ 2) → Φ (some (.int (-1)), (xLay, I, L, kD49 R))) (h1 : 0 ≤ x.toInt → x.toInt < (I 49 5).toInt → y.toInt = 0 → Φ (some (.int (I 71 x.toNatClampNeg)), (xLay, I, L, kD49 R))) (h2 : 0 ≤ x.toInt → x.toInt < (I 49 5).toInt → y.toInt = 1 → Φ (some (.int (I 72 x.toNatClampNeg)), (xLay, I, L, kD49 R))) (h3 : 0 ≤ x.toInt → x.toInt < (I 49 5).toInt → y.toInt = 2 → Φ (some (.int (I 73 x.toNatClampNeg)), (xLay, I, L, kD49 R))) : sm_wp sm_P S d 70 0 [.ref 0, .int x, .int y] [] (xLay, I, L, kD49 R) (0, 0) Φ := by
  refine pd49_X11_move_0 ⟨fun a => h0 (fun c => ?_), fun a => ⟨fun b => ?_, fun b => h0 (fun c => ?_)⟩⟩
  · have a := kl_lt.mp a
    rw [kl_0] at a; omega
  · have a := kl_nlt0 a
    have b := kl_lt.mp b
    have v : vp_in x 45 := kl_in a (by omega)
    exact ⟨fun e => ⟨v, h1 a b e⟩, fun e0 => ⟨fun e => ⟨v, h2 a b e⟩, fun e1 => ⟨fun e => ⟨v, h3 a b e⟩, fun e2 => h0 (fun c => by omega)⟩⟩⟩
  · have b := kl_nlt b
    omega
def k49_bq (I : sm_I) : Nat → Prop := bq (I 38) (I 71) (I 72) (I 73) (fun w => w.toInt < 0)
theorem b49_br {n : Nat} (hn : (I 49 5).toInt = n) (n1 : n ≤ 45) (b34 : ∀ j, j < 45 → 0 ≤ (I 71 j).toInt ∧ (I 71 j).toInt ≤ 9) (b35 : ∀ j, j < 45 → 0 ≤ (I 72 j).toInt ∧ (I 72 j).toInt ≤ 9) (b38 : ∀ j, j < 10 → -1 ≤ (I 38 j).toInt ∧ (I 38 j).toInt ≤ 1440) (h : ∀ v : Int32, FS n (k49_bq I) v → Φ (some (.int v), (xLay, I, L, kD49 R))) : ∀ (m j : Nat) (x1 : Int32), x1.toInt = j → j + m = n → (∀ i, i < j → ¬ k49_bq I i) → sm_wp sm_P S (d + 1) 33 1 [.ref 0, .int x1] [] (xLay, I, L, kD49 R) (0, 0) Φ := by
  intro m
  induction m with
  | zero =>
    intro j x1 h1 hm hs
    refine pd49_X11_breaks_1 ⟨fun _ => h _ (Or.inr ⟨fun i hi => hs i (by omega), rfl⟩), fun a => ?_⟩
    have a := kl_nle a
    omega
  | succ m ih =>
    intro j x1 h1 hm hs
    have px := tk_nat h1
    have s1 := ml_in1 (x := x1) (by omega)
    have v : vp_in x1 45 := kl_in (by omega) (by omega)
    have ex : x1 = Int32.ofNat j := en_ofI (by rw [h1, Int32.toInt_ofNat_of_lt (by omega)])
    have next : ¬ k49_bq I j → sm_wp sm_P S (d + 1) 33 1 [.ref 0, .int (x1 + (1 : Int32))] [] (xLay, I, L, kD49 R) (0, 0) Φ := fun q => ih (j + 1) _ (by omega) (by omega) (fun i hi => by
      rcases Nat.lt_or_ge i j with u | u
      · exact hs i u
      · have : i = j := by omega
        subst this; exact q)
    have ans : k49_bq I j → Φ (some (.int x1), (xLay, I, L, kD49 R)) := fun q => h x1 (Or.inl ⟨j, by omega, q, hs, ex⟩)
    refine pd49_X11_breaks_1 ⟨fun a => ?_, fun _ => ⟨v, ?_⟩⟩
    · have a := kl_le.mp a
      omega
    rw [px]
    have f1 := b34 j (by omega)
    have t1 := b35 j (by omega)
    have nf := kl_nat f1.1
    have nt := kl_nat t1.1
    have bf := b38 (I 71 j).toNatClampNeg (by omega)
    have bt := b38 (I 72 j).toNatClampNeg (by omega)
    refine b49_val (fun c => by omega) (fun _ _ => ⟨_, I, L, rfl, v, ?_⟩)
    refine b49_val (fun c => by omega) (fun _ _ => ⟨_, I, L, rfl, v, fun e1 => next (fun q => q.1 e1), fun e1 => ⟨fun e2 => next (fun q => q.2.1 e2), fun e2 => ?_⟩⟩)
    have vf : (I 38 (I 71 j).toNatClampNeg).toInt ≠ -1 := fun q => e1 (en_ofI (by rw [q]; decide))
    have vt : (I 38 (I 72 j).toNatClampNeg).toInt ≠ -1 := fun q => e2 (en_ofI (by rw [q]; decide))
    have ab := ab_i (a := I 38 (I 72 j).toNatClampNeg) (b := I 38 (I 71 j).toNatClampNeg) (by omega) (by omega) (by omega) (by omega)
    refine ⟨fun e3 => ans ⟨e1, e2, Or.inl ?_⟩, fun e3 => ⟨fun e4 => next (fun q => ?_), fun e4 => ans ⟨e1, e2, Or.inr ?_⟩⟩⟩
    · have e3 := kl_lt.mp e3
      rw [kl_0] at e3; exact e3
    · have e4 := kl_le.mp e4
      rw [ab] at e4
      rcases q.2.2 with q | ⟨q1, q2⟩
      · exact e3 (kl_lt.mpr (by rw [kl_0]; exact q))
      · split at e4 <;> omega
    · have e4 := kl_nle e4
      rw [ab] at e4
      split at e4 <;> exact ⟨by omega, by omega⟩
theorem b49_breaks {n : Nat} (hn : (I 49 5).toInt = n) (n1 : n ≤ 45) (b34 : ∀ j, j < 45 → 0 ≤ (I 71 j).toInt ∧ (I 71 j).toInt ≤ 9) (b35 : ∀ j, j < 45 → 0 ≤ (I 72 j).toInt ∧ (I 72 j).toInt ≤ 9) (b38 : ∀ j, j < 10 → -1 ≤ (I 38 j).toInt ∧ (I 38 j).toInt ≤ 1440) (h : ∀ v : Int32, FS n (k49_bq I) v → Φ (some (.int v), (xLay, I, L, kD49 R))) : sm_wp sm_P S (d + 1) 33 0 [.ref 0] [] (xLay, I, L, kD49 R) (0, 0) Φ := pd49_X11_breaks_0 (b49_br hn n1 b34 b35 b38 h n 0 0 kl_0 (Nat.zero_add _) (fun i hi => absurd hi (Nat.not_lt_zero i)))
theorem b49_pick {x y : Int32} (h3 : (I 49 3).toInt ≤ 10) (h5 : (I 49 5).toInt ≤ 45) (b22 : ∀ j, j < 10 → 0 ≤ (I 59 j).toInt) (h0 : (∀ s ch, pks 49 I x s ch → ¬ (-1 ≤ y.toInt ∧ y.toInt < ch)) → Φ (some (.int 0), (xLay, I, L, kD49 R))) (h1 : ∀ s ch, s < 55 → pks 49 I x s ch → -1 ≤ y.toInt → y.toInt < ch → Φ (some (.int 1), (xLay, sm_up (sm_up I 39 s y) 98 9 0, L, kD49 R))) : sm_wp sm_P S (d + 1) 72 0 [.ref 0, .int x, .int y] [] (xLay, I, L, kD49 R) (0, 0) Φ := by
  have cm : (-1 : Int32).toInt = -1 := by decide
  have c100 : (100 : Int32).toInt = 100 := by decide
  have c10 : (10 : Int32).toInt = 10 := by decide
  have fin : ∀ (s : Nat) (c z3 : Int32), z3.toInt = s → s < 55 → pks 49 I x s c.toInt → sm_wp sm_P S (d + 1) 72 10 [.ref 0, .int y, .int z3, .int c] [] (xLay, I, L, kD49 R) (0, 0) Φ := fun s c z3 e3 s55 p => by
    refine pd49_X11_pick_10 ⟨fun a => h0 (fun s' ch' q b => ?_), fun a => ⟨fun b => ⟨kl_in (by omega) (by omega), fun I1 e1 => ?_⟩, fun b => h0 (fun s' ch' q bb => ?_)⟩⟩
    · have a := kl_lt.mp a
      omega
    · rw [e1, tk_nat e3]
      have a := kl_nlt a
      exact h1 s _ s55 p (by omega) (kl_lt.mp b)
    · have b := kl_nlt b
      have e := (pks_fun h3 p q).2
      omega
  have no : x.toInt < 100 → ¬ (0 ≤ x.toInt ∧ x.toInt < (I 49 3).toInt ∧ ((I 37 0) >>> (x &&& 31)) &&& (1 : Int32) = 0) → Φ (some (.int 0), (xLay, I, L, kD49 R)) := fun a b => h0 (fun s ch q => by
    rcases q with ⟨q1, q2, q3, -⟩ | ⟨q1, -⟩
    · exact absurd ⟨q1, q2, q3⟩ b
    · omega)
  refine pd49_X11_pick_0 (b49_inS (fun c => ⟨_, I, L, rfl, fun _ => ⟨fun a => ?_, fun a => ⟨fun b => h0 (fun s ch q => ?_), fun b n4 e4 => ?_⟩⟩, fun z => absurd rfl z⟩) (fun a1 a2 => ⟨_, I, L, rfl, fun z => absurd z (by decide), fun _ => pd49_X11_isDoubted_0 ⟨fun e => ⟨_, I, L, rfl, fun _ => ⟨kl_in a1 (by omega), ?_⟩, fun z => absurd rfl z⟩, fun e => ⟨_, I, L, rfl, fun z => absurd z (by decide), fun _ => ⟨fun _ => no (by omega) (fun k => e k.2.2), fun a => ?_⟩⟩⟩⟩))
  · have a := kl_lt.mp a
    exact no (by omega) (fun k => c ⟨k.1, k.2.1⟩)
  · have a := kl_nlt a
    have b := kl_le.mp b
    have s1 : (x - 100).toInt = x.toInt - 100 := by
      rcases sub100 (x := x) with u | u
      · exact u
      · omega
    rw [s1] at b
    rcases q with ⟨q1, q2, -⟩ | ⟨q1, q2, -⟩
    · exact absurd ⟨q1, q2⟩ c
    · omega
  · have a := kl_nlt a
    have b := kl_nle b
    have s1 : (x - 100).toInt = x.toInt - 100 := by
      rcases sub100 (x := x) with u | u
      · exact u
      · omega
    rw [s1] at b
    have x0 : 0 ≤ x.toInt := by omega
    have nx := kl_nat x0
    have t1 : (x - 100).toNatClampNeg = x.toNatClampNeg - 100 := tk_nat (by omega)
    have s2 : ((10 : Int32) + x).toInt = 10 + x.toInt := ml_ad c10 rfl (by omega) (by omega)
    have s3 : n4.toInt = ((x.toNatClampNeg - 90 : Nat) : Int) := by
      rw [e4, Int32.toInt_sub, s2, c100]
      exact en_bmod (by omega) (by omega) (Or.inl (by omega))
    rw [t1]
    refine ⟨kl_in (by omega) (by omega), fun w => fin _ _ _ s3 (by omega) (Or.inr ⟨by omega, by omega, by omega, ?_⟩), fun w => fin _ _ _ s3 (by omega) (Or.inr ⟨by omega, by omega, by omega, ?_⟩)⟩
    · have w := kl_le.mp w
      rw [kl_0] at w
      show (2 : Int32).toInt = if 0 ≤ (I 73 (x.toNatClampNeg - 90 - 10)).toInt then 2 else 0
      rw [show x.toNatClampNeg - 90 - 10 = x.toNatClampNeg - 100 by omega, if_pos w]
      decide
    · have w := kl_nle w
      rw [kl_0] at w
      show (0 : Int32).toInt = if 0 ≤ (I 73 (x.toNatClampNeg - 90 - 10)).toInt then 2 else 0
      rw [show x.toNatClampNeg - 90 - 10 = x.toNatClampNeg - 100 by omega, if_neg (by omega)]
      decide
  · have nx := kl_nat a1
    exact fin x.toNatClampNeg _ _ nx.symm (by omega) (Or.inl ⟨a1, a2, e, nx.symm, rfl⟩)
  · have a := kl_nlt a
    omega
end
