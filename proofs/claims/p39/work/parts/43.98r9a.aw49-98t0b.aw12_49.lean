section
/-! the class's net, as far as it is left; told = 49 (wip/pe/mka1.py) -/
section
variable {S : sm_C} {d : Nat} {Φ : sm_Z → Prop} {I : sm_I} {L : sm_L} {R : sm_R}
theorem cap49 {n lev : Nat} (n11 : n ≤ 11) (l : lev ≤ 55) : lev * (n * n) + n * n ≤ 7381 := by
  have nn : n * n ≤ 11 * 11 := Nat.mul_le_mul n11 n11
  have a : lev * (n * n) ≤ 55 * (11 * 11) := Nat.mul_le_mul (by omega) nn
  omega
theorem cpW49 {n lev : Nat} {x1 : Int32} (eG : kG49_74 R = R) (B : g49_74_B I n) (hl : (lev + 1) * (n * n) + n * n ≤ 7381) (l1 : lev ≤ 90) (h1 : x1.toInt = lev) (h : ∀ J, g49_74_c n (lev + 1) I J → (∀ i j, i < n → j < n → g49_74_T J n (lev + 1) i j = g49_74_T I n lev i j) → Φ (none, (xLay, J, L, R))) : sm_wp sm_P S (d + 1) 248 0 [.ref 75, .int x1] [] (xLay, I, L, R) (0, 0) Φ := by
  rw [← eG] at h ⊢
  exact g49_74_cp B hl l1 h1 h
theorem rowF49 {n r re : Nat} {x1 x2 x3 : Int32} {I0 : sm_I} (hn : (I0 75 4).toInt = n) (n11 : n ≤ 11) (h1 : x1.toInt = r) (h3 : x3.toInt = re) (r7 : r + n ≤ 7381) (re7 : re + n ≤ 7381) (h : ∀ J, (∀ p j, ¬ (p = 76 ∧ r ≤ j ∧ j < r + n) → J p j = I0 p j) → Φ (none, (xLay, J, L, kG49_74 R))) : sm_wp sm_P S d 257 0 [.ref 75, .int x1, .int x2, .int x3] [] (xLay, I0, L, kG49_74 R) (0, 0) Φ := by
  have lp : ∀ (k i : Nat) (x4 : Int32) (J : sm_I), x4.toInt = i → i + k = n → (∀ p j, ¬ (p = 76 ∧ r ≤ j ∧ j < r + n) → J p j = I0 p j) → sm_wp sm_P S d 257 1 [.ref 75, .int x1, .int x2, .int x3, .int x4] [] (xLay, J, L, kG49_74 R) (0, 0) Φ := by
    intro k
    induction k with
    | zero =>
      intro i x4 J h4 hk o
      have e4 : J 75 4 = I0 75 4 := o 75 4 (by omega)
      refine pg49_74_X5_tightenRow_1 ⟨fun _ => h J o, fun a => ?_⟩
      have a := kl_nle a
      rw [e4] at a
      omega
    | succ k ih =>
      intro i x4 J h4 hk o
      have e4 : J 75 4 = I0 75 4 := o 75 4 (by omega)
      have s4 := ml_in1 (x := x4) (by omega)
      have q1 : (x3 + x4).toInt = ((re + i : Nat) : Int) := (ml_ad h3 h4 (by omega) (by omega)).trans (by omega)
      have q2 : (x1 + x4).toInt = ((r + i : Nat) : Int) := (ml_ad h1 h4 (by omega) (by omega)).trans (by omega)
      refine pg49_74_X5_tightenRow_1 ⟨fun a => ?_, fun _ => ⟨kl_in (by omega) (by omega), fun n1 e1 => ⟨kl_in (by omega) (by omega), ?_⟩⟩⟩
      · have a := kl_le.mp a
        rw [e4] at a
        omega
      rw [tk_nat q2]
      exact ⟨fun _ => ih (i + 1) _ J (by omega) (by omega) o, fun _ => ⟨kl_in (by omega) (by omega), fun I2 e2 => ih (i + 1) _ I2 (by omega) (by omega) (fun p j hp => by rw [e2, en_up_ne _ _ _ _ (by omega)]; exact o p j hp)⟩⟩
  exact pg49_74_X5_tightenRow_0 (lp n 0 0 I0 (by decide) (by omega) (fun _ _ _ => rfl))
theorem t21F49 {n lev i j : Nat} {x6 x7 x8 x9 x10 : Int32} {I0 : sm_I} (B : g49_74_B I0 n) (hl : lev * (n * n) + n * n ≤ 7381) (h7 : x7.toInt = ((lev * (n * n) : Nat) : Int)) (h8 : x8.toInt = i) (h9 : x9.toInt = j) (h10 : x10.toInt = ((lev * (n * n) + j * n : Nat) : Int)) (in_ : i < n) (jn : j < n) (h : ∀ J, g49_74_c n lev I0 J → Φ (some (.int 1), (xLay, J, L, kG49_74 R))) : ∀ (m p : Nat) (x11 : Int32) (J : sm_I), x11.toInt = p → p + m = n → g49_74_c n lev I0 J → sm_wp sm_P S (d + 1) 256 21 [.ref 75, .int x6, .int x7, .int x8, .int x9, .int x10, .int x11] [] (xLay, J, L, kG49_74 R) (0, 0) Φ := by
  have lt := fun (a b : Nat) (ha : a < n) (hb : b < n) => tix_lt ha hb
  have n11 := B.2.2.1
  intro m
  induction m with
  | zero =>
    intro p x11 J h11 hm cg
    have e4 : J 75 4 = I0 75 4 := cg 75 4 (by omega)
    refine pg49_74_X5_tighten_21 ⟨fun _ => h J cg, fun a => ?_⟩
    have a := kl_nle a
    rw [e4, B.1] at a
    omega
  | succ m ih =>
    intro p x11 J h11 hm cg
    have pn : p < n := by omega
    have e4 : J 75 4 = I0 75 4 := cg 75 4 (by omega)
    have s11 := ml_in1 (x := x11) (by omega)
    have rowp : p * n + n ≤ n * n := by
      have := Nat.mul_le_mul_right n (show p + 1 ≤ n by omega)
      rw [Nat.succ_mul] at this
      exact this
    have rowj : j * n + n ≤ n * n := by
      have := Nat.mul_le_mul_right n (show j + 1 ≤ n by omega)
      rw [Nat.succ_mul] at this
      exact this
    have mp : (x11 * (J 75 4)).toInt = ((p * n : Nat) : Int) := by
      rw [e4]
      have := ml_mu h11 B.1 (by rw [← Int.natCast_mul]; omega) (by rw [← Int.natCast_mul]; omega)
      rw [this, Int.natCast_mul]
    have a7 : (x7 + x11 * (J 75 4)).toInt = ((lev * (n * n) + p * n : Nat) : Int) := (ml_ad h7 mp (by omega) (by omega)).trans (by omega)
    refine pg49_74_X5_tighten_21 ⟨fun a => ?_, fun _ n1 e1 => ?_⟩
    · have a := kl_le.mp a
      rw [e4, B.1] at a
      omega
    have q1 : n1.toInt = ((tix n lev p i : Nat) : Int) := by rw [e1]; unfold tix; exact (ml_ad a7 h8 (by omega) (by omega)).trans (by omega)
    have t1 := lt p i pn in_
    have t3 := lt p j pn jn
    refine ⟨kl_in (by omega) (by unfold tix at q1; omega), fun n2 e2 n3 e3 => ?_⟩
    have q3 : n3.toInt = ((tix n lev p j : Nat) : Int) := by rw [e3]; unfold tix; exact (ml_ad a7 h9 (by omega) (by omega)).trans (by omega)
    refine ⟨kl_in (by omega) (by unfold tix at q3; omega), fun _ => ih (p + 1) _ J (by omega) (by omega) cg, fun _ => rowF49 (n := n) (r := lev * (n * n) + p * n) (re := lev * (n * n) + j * n) (by rw [e4]; exact B.1) n11 a7 h10 (by omega) (by omega) (fun J2 f2 => ⟨J2, L, rfl, ih (p + 1) _ J2 (by omega) (by omega) (g49_74_ct cg (fun a b q => f2 a b (fun w => q ⟨w.1, by omega, by omega⟩)))⟩)⟩
theorem twW49 {n lev : Nat} {x1 x2 x3 x4 : Int32} (eG : kG49_74 R = R) (B : g49_74_B I n) (hl : lev * (n * n) + n * n ≤ 7381) (l1 : lev ≤ 100) (h1 : x1.toInt = lev) (h : ∀ r J, (r = 0 ∨ r = 1) → g49_74_c n lev I J → Φ (some (.int r), (xLay, J, L, R))) : sm_wp sm_P S (d + 1) 256 0 [.ref 75, .int x1, .int x2, .int x3, .int x4] [] (xLay, I, L, R) (0, 0) Φ := by
  rw [← eG] at h ⊢
  obtain ⟨b1, b2, b3, b4, b5⟩ := id B
  have nn : 1 ≤ n * n ∧ n * n ≤ 144 := ⟨Nat.mul_le_mul b2 b2, Nat.le_trans (Nat.mul_le_mul b3 b3) (by decide)⟩
  obtain ⟨m1, m2, m3⟩ := kl_lev (x := x1) (A := I 75 5) (by omega) (by omega) (by omega) (by omega)
  have k1 : (x1 * I 75 5).toInt = ((lev * (n * n) : Nat) : Int) := by rw [m1, h1, b4]; exact (Int.natCast_mul _ _).symm
  have z := h 0 I (Or.inl rfl) g49_74_c0
  have z1 := h 1 I (Or.inr rfl) g49_74_c0
  have f : ∀ s : Int32, sm_wp sm_P S (d + 1) 256 4 [.ref 75, .int x1, .int x2, .int x3, .int x4] [.int s] (xLay, I, L, kG49_74 R) (0, 0) Φ := fun s => by
    refine pg49_74_X5_tighten_4 ⟨fun _ => z, fun _ => ⟨fun _ => z, fun a1 => ⟨fun _ => z, fun a2 => ⟨fun _ => z, fun a3 => ⟨fun a4 => ⟨fun _ => ⟨fun _ => z, fun _ => z1⟩, fun _ => ?_⟩, fun _ => z⟩⟩⟩⟩⟩
    have a1 := kl_nlt0 a1
    have a2 := kl_nle a2
    have a3 := kl_nlt0 a3
    have a4 := kl_lt.mp a4
    have px := kl_nat a1
    have py := kl_nat a3
    obtain ⟨i, ei⟩ : ∃ i, i = x2.toNatClampNeg := ⟨_, rfl⟩
    obtain ⟨j, ej⟩ : ∃ j, j = x3.toNatClampNeg := ⟨_, rfl⟩
    have in_ : i < n := by omega
    have jn : j < n := by omega
    obtain ⟨si, ni, fi⟩ := b5 i in_
    obtain ⟨sj, nj, fj⟩ := b5 j jn
    have zi := kl_nat si.1
    have zj := kl_nat sj.1
    obtain ⟨i', ei'⟩ : ∃ i', i' = (I 77 i).toNatClampNeg := ⟨_, rfl⟩
    obtain ⟨j', ej'⟩ : ∃ j', j' = (I 77 j).toNatClampNeg := ⟨_, rfl⟩
    rw [← ei'] at zi
    rw [← ej'] at zj
    have in' : i' < n := by omega
    have jn' : j' < n := by omega
    have vx : vp_in x2 11 := kl_in (by omega) (by omega)
    have vy : vp_in x3 11 := kl_in (by omega) (by omega)
    rw [← ei, ← ej]
    refine ⟨vx, vy, fun n1 e1 => ⟨vx, vy, fun n2 e2 n3 e3 => ?_⟩⟩
    have rowj : j' * n + n ≤ n * n := by
      have := Nat.mul_le_mul_right n (show j' + 1 ≤ n by omega)
      rw [Nat.succ_mul] at this
      exact this
    have rowi : i' * n + n ≤ n * n := by
      have := Nat.mul_le_mul_right n (show i' + 1 ≤ n by omega)
      rw [Nat.succ_mul] at this
      exact this
    have mj : (I 77 j * I 75 4).toInt = ((j' * n : Nat) : Int) := by
      have := ml_mu (a := (j' : Int)) (b := (n : Int)) zj.symm b1 (by rw [← Int.natCast_mul]; omega) (by rw [← Int.natCast_mul]; omega)
      rw [this, Int.natCast_mul]
    have mi : (I 77 i * I 75 4).toInt = ((i' * n : Nat) : Int) := by
      have := ml_mu (a := (i' : Int)) (b := (n : Int)) zi.symm b1 (by rw [← Int.natCast_mul]; omega) (by rw [← Int.natCast_mul]; omega)
      rw [this, Int.natCast_mul]
    have q2 : n2.toInt = ((lev * (n * n) + j' * n : Nat) : Int) := by rw [e2]; exact (ml_ad k1 mj (by omega) (by omega)).trans (by omega)
    have q3 : n3.toInt = ((lev * (n * n) + j' * n + i' : Nat) : Int) := by rw [e3]; exact (ml_ad q2 zi.symm (by omega) (by omega)).trans (by omega)
    refine ⟨kl_in (by omega) (by omega), fun _ n4 e4 => ?_, fun _ => z⟩
    have q4 : n4.toInt = ((lev * (n * n) + i' * n + j' : Nat) : Int) := by rw [e4]; exact (ml_ad (ml_ad k1 mi (by omega) (by omega)) zj.symm (by omega) (by omega)).trans (by omega)
    exact ⟨kl_in (by omega) (by omega), fun _ => t21F49 B hl k1 zi.symm zj.symm q2 in' jn' (fun J c => h 1 J (Or.inr rfl) c) n 0 0 I (by decide) (by omega) g49_74_c0, fun _ => z1⟩
  exact pg49_74_X5_tighten_0 ⟨fun _ => f _, fun _ => ⟨fun _ => f _, fun _ => f _⟩⟩
theorem bwW49 {n lev : Nat} {x1 x2 x3 x4 x5 : Int32} (eG : kG49_74 R = R) (B : g49_74_B I n) (hl : lev * (n * n) + n * n ≤ 7381) (l1 : lev ≤ 100) (h1 : x1.toInt = lev) (h : ∀ r J, (r = 0 ∨ r = 1) → g49_74_c n lev I J → Φ (some (.int r), (xLay, J, L, R))) : sm_wp sm_P S (d + 2) 221 0 [.ref 74, .int x1, .int x2, .int x3, .int x4, .int x5] [] (xLay, I, L, R) (0, 0) Φ := by
  have g : sm_wp sm_P S (d + 2) 221 0 [.ref 74, .int x1, .int x2, .int x3, .int x4, .int x5] [] (xLay, I, L, kG49_74 R) (0, 0) Φ := by
    refine pg49_74_X2_bind_0 (d := d + 1) ?_
    rw [eG]
    exact twW49 (d := d) eG B hl l1 h1 (fun r J r01 c => ⟨r, J, L, rfl, fun _ => h 0 J (Or.inl rfl) c, fun r1 => twW49 (d := d) eG (g49_74_Bc c B).1 hl l1 h1 (fun r6 J2 r601 c2 => ⟨r6, J2, L, rfl, fun _ => h 0 J2 (Or.inl rfl) (g49_74_ct c c2), fun r61 => h 1 J2 (Or.inr rfl) (g49_74_ct c c2)⟩)⟩)
  rw [eG] at g
  exact g
theorem rcW49 {n lev : Nat} {x1 x2 x3 : Int32} (eG : kG49_74 R = R) (B : g49_74_B I n) (hl : lev * (n * n) + n * n ≤ 7381) (l1 : lev ≤ 100) (h1 : x1.toInt = lev) (h : ∀ r, Φ (some (.int r), (xLay, I, L, R))) : sm_wp sm_P S (d + 1) 255 0 [.ref 75, .int x1, .int x2, .int x3] [] (xLay, I, L, R) (0, 0) Φ := by
  rw [← eG] at h ⊢
  by_cases c : (0 ≤ x2.toInt ∧ x2.toInt < n) ∧ (0 ≤ x3.toInt ∧ x3.toInt < n)
  · obtain ⟨⟨a1, a2⟩, a3, a4⟩ := c
    have n2 := kl_nat a1
    have n3 := kl_nat a3
    exact g49_74_rc (i := x2.toNatClampNeg) (j := x3.toNatClampNeg) B hl l1 h1 n2.symm n3.symm (by omega) (by omega) (h _)
  · have b1 := B.1
    have hn : ∀ (y : Int32) (Ψ : sm_Z → Prop), (¬ (0 ≤ y.toInt ∧ y.toInt < n) → Ψ (some (.int 0), (xLay, I, L, kG49_74 R))) → ((0 ≤ y.toInt ∧ y.toInt < n) → Ψ (some (.int 1), (xLay, I, L, kG49_74 R))) → sm_wp sm_P S d 250 0 [.ref 75, .int y] [] (xLay, I, L, kG49_74 R) (0, 0) Ψ := fun y Ψ z0 z1 => pg49_74_X5_hasNode_0 ⟨fun a => z0 (fun q => by
      have a := kl_lt.mp a
      rw [kl_0] at a
      omega), fun a => ⟨fun b => z0 (fun q => by
      have b := kl_le.mp b
      omega), fun b => z1 ⟨kl_nlt0 a, by
      have b := kl_nle b
      omega⟩⟩⟩
    refine pg49_74_X5_reach_0 (g49_74_hl B hl l1 h1 ⟨_, I, L, rfl, fun _ => h _, fun _ => hn x2 _ (fun _ => ⟨_, I, L, rfl, fun _ => h _, fun q => absurd rfl q⟩) (fun q2 => ⟨_, I, L, rfl, fun _ => h _, fun _ => hn x3 _ (fun _ => ⟨_, I, L, rfl, fun _ => h _, fun q => absurd rfl q⟩) (fun q3 => absurd ⟨q2, q3⟩ c)⟩)⟩)
theorem dwW49 {n lev : Nat} {x1 x2 x3 x4 : Int32} (eG : kG49_74 R = R) (B : g49_74_B I n) (hl : lev * (n * n) + n * n ≤ 7381) (l1 : lev ≤ 100) (h1 : x1.toInt = lev) (h : ∀ r, Φ (some (.int r), (xLay, I, L, R))) : sm_wp sm_P S (d + 2 + 1) 224 0 [.ref 74, .int x1, .int x2, .int x3, .int x4] [] (xLay, I, L, R) (0, 0) Φ := by
  have g : sm_wp sm_P S (d + 2 + 1) 224 0 [.ref 74, .int x1, .int x2, .int x3, .int x4] [] (xLay, I, L, kG49_74 R) (0, 0) Φ := by
    refine pg49_74_X2_distance_0 (d := d + 2) ?_
    rw [eG]
    exact ⟨fun _ => rcW49 (d := d + 1) eG B hl l1 h1 (fun r => ⟨r, I, L, rfl, h _⟩), fun _ => rcW49 (d := d + 1) eG B hl l1 h1 (fun r => ⟨r, I, L, rfl, h _⟩)⟩
  rw [eG] at g
  exact g
end
end
section
/-! THE LAW: what its invariant says, and what each call keeps of it -/
def lkC (p j : Nat) : Prop := (p = 0 ∧ (j = 10 ∨ j = 11)) ∨ p = 1 ∨ (12 ≤ p ∧ p < 40) ∨ (41 ≤ p ∧ p ≤ 44) ∨ (49 ≤ p ∧ p < 74)
def lkM (p j : Nat) : Prop := (p = 107 ∧ (j = 2 ∨ j = 17 ∨ j = 18 ∨ j = 46 ∨ j = 54)) ∨ p = 108 ∨ (118 ≤ p ∧ p ≤ 142) ∨ (144 ≤ p ∧ p ≤ 147) ∨ p = 160
/-- walks and moves are the same -/
def wkr (x y : Int32) : Prop := (x = -2 ∧ y = -1) ∨ (0 ≤ y.toInt ∧ y.toInt ≤ 100000 ∧ x = y)
def wmE (qt l : Nat) (I : sm_I) : Prop := (∀ x y : Nat, (x : Int) < (I 119 l).toInt → (y : Int) < (I 119 l).toInt → wkr (I (qt + 1) (6 * x + y)) (I 139 (6 * x + y))) ∧ I qt 5 = I 107 46 ∧ ∀ j : Nat, (j : Int) < (I 107 46).toInt → I (qt + 22) j = I 140 j ∧ I (qt + 23) j = I 141 j ∧ wkr (I (qt + 24) j) (I 142 j) ∧ 0 ≤ (I 140 j).toInt ∧ (I 140 j).toInt < (I 141 j).toInt ∧ (I 141 j).toInt < (I 122 l).toInt
/-- what is told is the same -/
def tdE (qt l : Nat) (I : sm_I) : Prop := (∃ a : sg, (∀ c j, 12 ≤ c → c < 34 → c ≠ 13 → ¬ (c = 12 ∧ j = 5) → I (c + (qt - 12)) j = a.1 c j) ∧ TDw l a I) ∧ wmE qt l I
/-- what is DOUBTED, SET, MORE is the same -/
def hdE (I : sm_I) : Prop := (∀ k, k < 10 → (I 37 0).toBitVec.getLsbD k = !decide (I 137 k = 0)) ∧ (∀ k, k < 10 → I 38 k = I 138 k) ∧ I 37 1 = I 107 54 ∧ (∀ i : Nat, i < 6 → (i : Int) < (I 37 1).toInt → I 41 i = I 144 i ∧ I 42 i = I 145 i ∧ I 43 i = I 146 i ∧ I 44 i = I 147 i) ∧ ∀ k, k < 55 → I 39 k = I 160 k
def tpE (I : sm_I) : Prop := I 0 10 = I 107 2 ∧ (∀ j : Nat, (j : Int) < (I 0 10).toInt → I 1 j = I 108 j) ∧ I 0 11 = I 107 17
def rfE (qt qi l : Nat) (I : sm_I) (R : sm_R) : Prop := ((qt = 12 ∧ qi = 49) ∨ (qt = 49 ∧ qi = 12)) ∧ l ≤ 1 ∧ R 0 9 = some qt ∧ R 2 6 = some qi ∧ (I 107 18).toInt = l
def LJ (I : sm_I) (R : sm_R) : Prop := tpE I ∧ hdE I ∧ ∃ qt qi l : Nat, rfE qt qi l I R ∧ tdE qt l I
theorem tpE_cg {I I' : sm_I} (h : ∀ p j, (p = 0 ∧ (j = 10 ∨ j = 11)) ∨ p = 1 ∨ (p = 107 ∧ (j = 2 ∨ j = 17)) ∨ p = 108 → I' p j = I p j) (k : tpE I) : tpE I' := by
  obtain ⟨k1, k2, k3⟩ := k
  refine ⟨by rw [h 0 10 (by omega), h 107 2 (by omega)]; exact k1, fun j hj => ?_, by rw [h 0 11 (by omega), h 107 17 (by omega)]; exact k3⟩
  rw [h 0 10 (by omega)] at hj
  rw [h 1 j (by omega), h 108 j (by omega)]
  exact k2 j hj
theorem hdE_cg {I I' : sm_I} (h : ∀ p j, (p = 37 ∨ p = 38 ∨ p = 39 ∨ (41 ≤ p ∧ p ≤ 44)) ∨ (p = 107 ∧ j = 54) ∨ p = 137 ∨ p = 138 ∨ (144 ≤ p ∧ p ≤ 147) ∨ p = 160 → I' p j = I p j) (k : hdE I) : hdE I' := by
  obtain ⟨k1, k2, k3, k4, k5⟩ := k
  refine ⟨fun k hk => by rw [h 37 0 (by omega), h 137 k (by omega)]; exact k1 k hk, fun k hk => by rw [h 38 k (by omega), h 138 k (by omega)]; exact k2 k hk, by rw [h 37 1 (by omega), h 107 54 (by omega)]; exact k3, fun i hi hj => ?_, fun k hk => by rw [h 39 k (by omega), h 160 k (by omega)]; exact k5 k hk⟩
  rw [h 37 1 (by omega)] at hj
  rw [h 41 i (by omega), h 42 i (by omega), h 43 i (by omega), h 44 i (by omega), h 144 i (by omega), h 145 i (by omega), h 146 i (by omega), h 147 i (by omega)]
  exact k4 i hi hj
theorem wmE_cg {qt l : Nat} {I I' : sm_I} (h : ∀ p j, p = qt + 1 ∨ (p = qt ∧ j = 5) ∨ (qt + 22 ≤ p ∧ p ≤ qt + 24) ∨ ((p = 119 ∨ p = 122) ∧ j = l) ∨ (139 ≤ p ∧ p ≤ 142) ∨ (p = 107 ∧ j = 46) → I' p j = I p j) (k : wmE qt l I) : wmE qt l I' := by
  obtain ⟨k1, k2, k3⟩ := k
  refine ⟨fun x y hx hy => ?_, by rw [h qt 5 (by omega), h 107 46 (by omega)]; exact k2, fun j hj => ?_⟩
  · rw [h 119 l (by omega)] at hx hy
    rw [h (qt + 1) _ (by omega), h 139 _ (by omega)]; exact k1 x y hx hy
  · rw [h 107 46 (by omega)] at hj
    rw [h (qt + 22) j (by omega), h (qt + 23) j (by omega), h (qt + 24) j (by omega), h 140 j (by omega), h 141 j (by omega), h 142 j (by omega), h 122 l (by omega)]
    exact k3 j hj
theorem tdE_cg {qt l : Nat} {I I' : sm_I} (hq : qt = 12 ∨ qt = 49) (h : ∀ p j, (12 ≤ p ∧ p < 37) ∨ (49 ≤ p ∧ p < 74) ∨ (118 ≤ p ∧ p ≤ 136) ∨ (139 ≤ p ∧ p ≤ 142) ∨ (p = 107 ∧ j = 46) → I' p j = I p j) (k : tdE qt l I) : tdE qt l I' := by
  obtain ⟨⟨a, k1, k2⟩, k3⟩ := k
  exact ⟨⟨a, fun c j p1 p2 p3 p4 => by rw [h _ j (by omega)]; exact k1 c j p1 p2 p3 p4, TDw_cg (fun p j p1 p2 => h p j (by omega)) k2⟩, wmE_cg (fun p j q => h p j (by omega)) k3⟩
theorem LJ_cg {I I' : sm_I} {R R' : sm_R} (h : ∀ p j, lkC p j ∨ lkM p j → I' p j = I p j) (r1 : R' 0 9 = R 0 9) (r2 : R' 2 6 = R 2 6) (k : LJ I R) : LJ I' R' := by
  obtain ⟨k1, k2, qt, qi, l, ⟨e1, e2, e3, e4, e5⟩, k3⟩ := k
  refine ⟨tpE_cg (fun p j q => h p j (by unfold lkC lkM; omega)) k1, hdE_cg (fun p j q => h p j (by unfold lkC lkM; omega)) k2, qt, qi, l, ⟨e1, e2, r1.trans e3, r2.trans e4, by rw [h 107 18 (by unfold lkC lkM; omega)]; exact e5⟩, tdE_cg (by omega) (fun p j q => h p j (by unfold lkC lkM; omega)) k3⟩
end
section
/-! the same problem on both sides -/
/-- what is told of spans is of TIMES told and within a day; MORE spans too -/
def TW (l : Nat) (I : sm_I) : Prop := (∀ s c i : Nat, (s : Int) < (I 125 l).toInt → (c : Int) < (I 128 (10 * l + s)).toInt → (i : Int) < (I 129 (4 * (10 * l + s) + c)).toInt → sspk I ((I 122 l).toNatClampNeg + 1) (3 * (4 * (10 * l + s) + c) + i)) ∧ (∀ k : Nat, (k : Int) < (I 134 l).toInt → sspk I ((I 122 l).toNatClampNeg + 1) (240 + 4 * l + k)) ∧ (∀ q : Nat, (q : Int) < (I 136 l).toInt → sspk I ((I 122 l).toNatClampNeg + 1) (248 + 6 * l + q)) ∧ ∀ k : Nat, (k : Int) < (I 107 54).toInt → mook I ((I 122 l).toNatClampNeg + 1) k
section
variable {I : sm_I} {L : sm_L} {R : sm_R} {qt l : Nat}
theorem rwf_of (l1 : l ≤ 1) (hl : (I 107 18).toInt = l) (mm : en_mem ml_tb mlX (xLay, I, L, R)) (wm : wmE qt l I) (tw : TW l I) (yb : ∀ i : Nat, (i : Int) < (I 125 l).toInt → ∀ q : Nat, (q : Int) < (I 128 (10 * l + i)).toInt → 1 ≤ (I 129 (4 * (10 * l + i) + q)).toInt ∧ (I 129 (4 * (10 * l + i) + q)).toInt ≤ 3) : rwf I l := by
  obtain ⟨-, -, w3⟩ := wm
  obtain ⟨t1, t2, -, t4⟩ := tw
  have b := ml_cs l1 mm
  have b134 : 0 ≤ (I 134 l).toInt ∧ (I 134 l).toInt ≤ 4 := ml_row mm (p := 134) (n := 2) (q := (0, 4)) (fun _ => rfl) l (by omega)
  have b54 : 0 ≤ (I 107 54).toInt ∧ (I 107 54).toInt ≤ 6 := mm.2.1 107 54 (0, 6) (by decide +kernel)
  have b46 : 0 ≤ (I 107 46).toInt ∧ (I 107 46).toInt ≤ 45 := mm.2.1 107 46 (0, 45) (by decide +kernel)
  have b128 : ∀ j, j < 20 → 0 ≤ (I 128 j).toInt ∧ (I 128 j).toInt ≤ 4 := fun j hj => ml_row mm (p := 128) (n := 20) (q := (0, 4)) (fun _ => rfl) j hj
  have nt := kl_nat b.2.2.1.1
  have ns := kl_nat b.2.2.2.1.1
  have no := kl_nat b134.1
  have nm := kl_nat b54.1
  have nv := kl_nat b46.1
  refine ⟨⟨hl, l1⟩, b.2.2.1, b134, fun k hk => t2 k (by omega), b54, fun k hk => t4 k (by omega), b.2.2.2.1, b46, b128, fun s hs => ?_⟩
  rcases hs with hs | ⟨hs1, hs2⟩
  · refine Or.inl ⟨by omega, fun c hc => ?_⟩
    have nb := kl_nat (b128 (10 * l + s) (by omega)).1
    have y := yb s (by omega) c (by omega)
    have ny := kl_nat (i := I 129 (4 * (10 * l + s) + c)) (by omega)
    exact ⟨⟨by omega, by omega⟩, fun i hi => t1 s c i (by omega) (by omega) (by omega)⟩
  · refine Or.inr (Or.inl ⟨by omega, fun w => ?_⟩)
    obtain ⟨-, -, v3, v4, v5, v6⟩ := w3 (s - 10) (by omega)
    rcases v3 with ⟨-, e⟩ | ⟨e1, e2, -⟩
    · exact absurd e w
    · exact ⟨⟨v4, by omega⟩, ⟨by omega, by omega⟩, by omega, by omega⟩
/-- a reference's code as the class's -/
def cdm (x : Nat) : Nat := if x < 10 then x else x + 90
theorem sL_cg {a b : Int32} : ∀ k, (∀ j, j < k → isb a j = isb b j) → sL a k = sL b k := by
  intro k
  induction k with
  | zero => intro _; rfl
  | succ k ih =>
    intro h
    show sL a k ++ (if isb a k = true then [k] else []) = sL b k ++ (if isb b k = true then [k] else [])
    rw [ih (fun j hj => h j (by omega)), h k (by omega)]
theorem ab_bit : ∀ n : Nat, n ≤ 10 → ∀ k, k < n → (((1 : Int32) <<< ((Int32.ofNat n) &&& 31)) - (1 : Int32)).toBitVec.getLsbD k = true := by decide +kernel
theorem isb_t (x : Int32) {k : Nat} (hk : k < 10) : isb x k = x.toBitVec.getLsbD k := by
  have t := sb_test x (Int32.ofNat k) k hk (Int32.toInt_ofNat_of_lt (by omega))
  unfold isb
  cases c : x.toBitVec.getLsbD k with
  | false => rw [decide_eq_true (t.mpr c)]; rfl
  | true => rw [decide_eq_false (fun q => by rw [t.mp q] at c; cases c)]; rfl
theorem m1_bit : ∀ k : Nat, k < 10 → (-1 : Int32).toBitVec.getLsbD k = true := by decide +kernel
/-- the undoubted SAYINGS, by their bits -/
theorem set_eq (h3 : I qt 3 = I 125 l) (b : 0 ≤ (I 125 l).toInt ∧ (I 125 l).toInt ≤ 10) (hd : ∀ k, k < 10 → (I 37 0).toBitVec.getLsbD k = !decide (I 137 k = 0)) : ∀ k, k < (I 125 l).toNatClampNeg → isb (kdb qt I) k = isb (rdb I (I 125 l).toNatClampNeg) k := fun k hk => by
  have nb := kl_nat b.1
  rw [isb_t _ (by omega), isb_t _ (by omega)]
  unfold kdb rdb
  have e : I qt 3 = Int32.ofNat (I 125 l).toNatClampNeg := by rw [h3]; exact en_ofI (by rw [Int32.toInt_ofNat_of_lt (by omega)]; omega)
  rw [Int32.toBitVec_and, BitVec.getLsbD_and, Int32.toBitVec_xor, BitVec.getLsbD_xor, e, ab_bit _ (by omega) k hk, hd k (by omega), m1_bit k (by omega), sb_bit _ (by omega) k (by omega)]
  by_cases c : I 137 k = 0
  · rw [if_pos c]; simp [c, hk]
  · rw [if_neg c]; simp [c]
theorem items_eq (hd : ∀ k, k < 10 → (I 37 0).toBitVec.getLsbD k = !decide (I 137 k = 0)) (h3 : I qt 3 = I 125 l) (h5 : I qt 5 = I 107 46) (b : 0 ≤ (I 125 l).toInt ∧ (I 125 l).toInt ≤ 10) : (kys qt I).length = (rxs I l).length ∧ ∀ k, k < (rxs I l).length → (kys qt I).getD k 0 = cdm ((rxs I l).getD k 0) := by
  have e : sL (kdb qt I) (I 125 l).toNatClampNeg = sL (rdb I (I 125 l).toNatClampNeg) (I 125 l).toNatClampNeg := sL_cg _ (set_eq h3 b hd)
  have nb := kl_nat b.1
  unfold kys rxs kitL itL
  rw [h3, h5, e]
  have z : mL 60 0 = [] := rfl
  rw [z, List.append_nil]
  refine ⟨by rw [List.length_append, List.length_append, mL_len, mL_len], fun k hk => ?_⟩
  rw [List.length_append, mL_len] at hk
  by_cases c : k < (sL (rdb I (I 125 l).toNatClampNeg) (I 125 l).toNatClampNeg).length
  · rw [nG_l c, nG_l c]
    have g : (sL (rdb I (I 125 l).toNatClampNeg) (I 125 l).toNatClampNeg).getD k 0 = (sL (rdb I (I 125 l).toNatClampNeg) (I 125 l).toNatClampNeg)[k] := by rw [List.getD_eq_getElem?_getD, List.getElem?_eq_getElem c]; rfl
    have i := sL_in _ _ _ (List.getElem_mem c)
    rw [← g] at i
    exact (if_pos (by omega)).symm
  · obtain ⟨t, rfl⟩ : ∃ t, k = (sL (rdb I (I 125 l).toNatClampNeg) (I 125 l).toNatClampNeg).length + t := ⟨k - (sL (rdb I (I 125 l).toNatClampNeg) (I 125 l).toNatClampNeg).length, by omega⟩
    rw [nG_r, nG_r, mL_at 100 _ t (by omega), mL_at 10 _ t (by omega)]
    unfold cdm
    rw [if_neg (by omega)]
    omega
theorem rst_d (l : Nat) (c : tC) : rhd (rst I) l c = c := if_pos (Or.inl (if_pos ⟨rfl, Or.inl rfl⟩))
theorem rst_0 (p j : Nat) (h : p ≠ 107) : rst I p j = I p j := if_neg (fun q => h q.1)
theorem kst_0 (p j : Nat) (h : p ≠ 74) : kst I p j = I p j := if_neg (fun q => h q.1)
theorem kst_g (s : Nat) : kgv 74 (kst I) s = 0 := by
  unfold kgv
  have e : kst I 74 8 = 0 := if_pos ⟨rfl, Or.inr rfl⟩
  rw [e, Int32.mul_zero]; rfl
/-- what is told, row by row -/
def rwE (qt l : Nat) (I : sm_I) : Prop := (∀ s : Nat, (s : Int) < (I 125 l).toInt → I (qt + 10) s = I 128 (10 * l + s) ∧ ∀ c : Nat, (c : Int) < (I 128 (10 * l + s)).toInt → I (qt + 11) (4 * s + c) = I 129 (4 * (10 * l + s) + c) ∧ (1 ≤ (I 129 (4 * (10 * l + s) + c)).toInt ∧ (I 129 (4 * (10 * l + s) + c)).toInt ≤ 3) ∧ ∀ i : Nat, (i : Int) < (I 129 (4 * (10 * l + s) + c)).toInt → I (qt + 13) (3 * (4 * s + c) + i) = I 130 (3 * (4 * (10 * l + s) + c) + i) ∧ I (qt + 14) (3 * (4 * s + c) + i) = I 131 (3 * (4 * (10 * l + s) + c) + i) ∧ I (qt + 15) (3 * (4 * s + c) + i) = I 132 (3 * (4 * (10 * l + s) + c) + i) ∧ I (qt + 16) (3 * (4 * s + c) + i) = I 133 (3 * (4 * (10 * l + s) + c) + i)) ∧ (∀ i : Nat, (i : Int) < (I 122 l).toInt → I (qt + 6) i = -1 ∨ ∃ k : Nat, (k : Int) < (I 134 l).toInt ∧ I 130 (240 + 4 * l + k) = Int32.ofNat i ∧ I (qt + 6) i = I 131 (240 + 4 * l + k) ∧ I (qt + 6) i ≠ -1 ∧ I (qt + 7) i = I 132 (240 + 4 * l + k) ∧ I (qt + 8) i = I 133 (240 + 4 * l + k)) ∧ (∀ k : Nat, (k : Int) < (I 134 l).toInt → ∃ i : Nat, (i : Int) < (I 122 l).toInt ∧ I 130 (240 + 4 * l + k) = Int32.ofNat i ∧ I (qt + 6) i = I 131 (240 + 4 * l + k) ∧ I (qt + 6) i ≠ -1 ∧ I (qt + 7) i = I 132 (240 + 4 * l + k) ∧ I (qt + 8) i = I 133 (240 + 4 * l + k))
theorem rwE_of (hq : qt = 12 ∨ qt = 49) (l1 : l ≤ 1) (mm : en_mem ml_tb mlX (xLay, I, L, R)) (td : tdE qt l I) : rwE qt l I := by
  obtain ⟨⟨a, k1, -, -, ⟨o1, o2⟩, ⟨y1, -⟩, -⟩, -⟩ := td
  have b := ml_cs l1 mm
  have row : ∀ c j, 14 ≤ c → c < 34 → I (qt + (c - 12)) j = a.1 c j := fun c j p1 p2 => by
    have h := k1 c j (by omega) (by omega) (by omega) (by omega)
    rw [show qt + (c - 12) = c + (qt - 12) by omega]; exact h
  refine ⟨fun s hs => ?_, fun i hi => ?_, fun k hk => ?_⟩
  · obtain ⟨-, y2, y3, y4, y5⟩ := y1 s (by omega) hs
    refine ⟨(row 22 s (by decide) (by decide)).trans y2, fun c hc => ?_⟩
    obtain ⟨z1, z2, z3, z4⟩ := y5 c hc
    refine ⟨(row 23 _ (by decide) (by decide)).trans z1, ⟨z2, z3⟩, fun i hi => ?_⟩
    obtain ⟨s1, s2, s3, s4⟩ := z4 i hi
    have ix : 120 * l + 12 * s + 3 * c + i = 3 * (4 * (10 * l + s) + c) + i := by omega
    have iy : 12 * s + 3 * c + i = 3 * (4 * s + c) + i := by omega
    rw [ix, iy] at s1 s2 s3 s4
    exact ⟨(row 25 _ (by decide) (by decide)).trans s1, (row 26 _ (by decide) (by decide)).trans s2, (row 27 _ (by decide) (by decide)).trans s3, (row 28 _ (by decide) (by decide)).trans s4⟩
  · rcases o1 i (by omega) hi with ⟨-, e⟩ | ⟨k, q1, q2, q3, q4, q5, q6, q7, q8, q9⟩
    · exact Or.inl ((row 18 i (by decide) (by decide)).trans e)
    · have e18 := row 18 i (by decide) (by decide)
      exact Or.inr ⟨k, q1, q4, e18.trans q6, fun q => q7 (e18.symm.trans q), (row 19 i (by decide) (by decide)).trans q8, (row 20 i (by decide) (by decide)).trans q9⟩
  · obtain ⟨i, -, q1, q2, q3, q4, q5, q6, q7, q8, q9⟩ := o2 k hk
    have e18 := row 18 i (by decide) (by decide)
    exact ⟨i, q2, q4, e18.trans q6, fun q => q7 (e18.symm.trans q), (row 19 i (by decide) (by decide)).trans q8, (row 20 i (by decide) (by decide)).trans q9⟩
/-- the class's bounds -/
theorem kW_of (hq : qt = 12 ∨ qt = 49) (l1 : l ≤ 1) (mm : en_mem ml_tb mlX (xLay, I, L, R)) (td : tdE qt l I) (hd : hdE I) (tw : TW l I) : kW qt I := by
  have e := rwE_of hq l1 mm td
  obtain ⟨e1, e2, e3⟩ := e
  obtain ⟨-, c1, c2, c3, -, -⟩ := (⟨by
      obtain ⟨⟨a, k1, k2, -⟩, -⟩ := td
      have row : ∀ j, j < 5 → I qt j = a.1 12 j := fun j hj => by
        have h := k1 12 j (by omega) (by omega) (by omega) (by omega)
        rw [show 12 + (qt - 12) = qt by omega] at h; exact h
      exact ⟨trivial, (row 1 (by omega)).trans k2.2.1, (row 2 (by omega)).trans k2.2.2.1, (row 3 (by omega)).trans k2.2.2.2.1, trivial, trivial⟩⟩ : PLift (True ∧ I qt 1 = I 119 l ∧ I qt 2 = I 122 l ∧ I qt 3 = I 125 l ∧ True ∧ True)).down
  obtain ⟨-, c5, w3⟩ := td.2
  obtain ⟨t1, t2, -, t4⟩ := tw
  obtain ⟨-, -, h3, h4, -⟩ := hd
  have b := ml_cs l1 mm
  have b54 : 0 ≤ (I 107 54).toInt ∧ (I 107 54).toInt ≤ 6 := mm.2.1 107 54 (0, 6) (by decide +kernel)
  have b46 : 0 ≤ (I 107 46).toInt ∧ (I 107 46).toInt ≤ 45 := mm.2.1 107 46 (0, 45) (by decide +kernel)
  have b128 : ∀ j, j < 20 → 0 ≤ (I 128 j).toInt ∧ (I 128 j).toInt ≤ 4 := fun j hj => ml_row mm (p := 128) (n := 20) (q := (0, 4)) (fun _ => rfl) j hj
  have nt := kl_nat b.2.2.1.1
  have ns := kl_nat b.2.2.2.1.1
  have nm := kl_nat b54.1
  have nv := kl_nat b46.1
  unfold kW
  rw [c2, c3, c5, h3]
  refine ⟨b.2.2.1, b.2.2.2.1, b46, b54, fun k hk => ?_, fun k hk e => ?_, fun s hs => ?_⟩
  · have a := t4 k (by omega)
    obtain ⟨g1, g2, g3, g4⟩ := h4 k (by omega) (by rw [h3]; omega)
    unfold kmok
    rw [g1, g2, g3, g4]; exact a
  · rcases e2 k (by omega) with q | ⟨k', q1, q2, q3, q4, q5, q6⟩
    · exact absurd q e
    · obtain ⟨-, a1, a2, a3, a4⟩ := t2 k' q1
      rw [q3, q5, q6]
      refine ⟨⟨?_, a2.2⟩, a3, a4⟩
      rcases Int.lt_or_le (I 131 (240 + 4 * l + k')).toInt 0 with u | u
      · exfalso
        refine q4 (q3.trans (en_ofI ?_))
        rw [show (-1 : Int32).toInt = -1 from by decide]
        omega
      · exact u
  · rcases hs with hs | ⟨hs1, hs2⟩
    · obtain ⟨y1, y2⟩ := e1 s (by omega)
      have b4 := b128 (10 * l + s) (by omega)
      have nb := kl_nat b4.1
      refine Or.inl ⟨by omega, ?_, ?_, fun c hc => ?_⟩
      · rw [kst_0 _ _ (by omega), y1]; exact b128 _ (by omega)
      · rw [kst_g]; decide
      · rw [kst_0 _ _ (by omega), y1] at hc
        obtain ⟨z1, z2, z3⟩ := y2 c (by omega)
        have nz := kl_nat (i := I 129 (4 * (10 * l + s) + c)) (by omega)
        rw [kst_0 _ _ (by omega), z1]
        refine ⟨⟨by omega, z2.2⟩, fun i hi => ?_⟩
        obtain ⟨s1, s2, s3, s4⟩ := z3 i (by omega)
        obtain ⟨-, a1, a2, a3, a4⟩ := t1 s c i (by omega) (by omega) (by omega)
        refine ⟨by omega, ?_, ?_, ?_, ?_⟩
        · rw [kst_0 _ _ (by omega), s1]; exact a1
        · rw [kst_0 _ _ (by omega), s2]; exact a2
        · rw [kst_0 _ _ (by omega), s3]; exact a3
        · rw [kst_0 _ _ (by omega), s4]; exact a4
    · refine Or.inr ⟨by omega, fun w => ?_⟩
      obtain ⟨v1, v2, v3, v4, v5, v6⟩ := w3 (s - 100) (by omega)
      rw [kst_0 _ _ (by omega)] at w
      rw [kst_0 _ _ (by omega), kst_0 _ _ (by omega), kst_0 _ _ (by omega), v1, v2]
      refine ⟨⟨v4, by omega⟩, ⟨by omega, by omega⟩, ?_⟩
      rcases v3 with ⟨e, -⟩ | ⟨e1, e2, e3⟩
      · rw [e] at w; exact absurd w (by decide)
      · rw [e3]; exact e2
/-- the same constraints -/
theorem ba_eq (hq : qt = 12 ∨ qt = 49) (rw_ : rwE qt l I) (hd : hdE I) (c2 : I qt 2 = I 122 l) (b2 : 0 ≤ (I 122 l).toInt ∧ (I 122 l).toInt ≤ 10) (b134 : 0 ≤ (I 134 l).toInt ∧ (I 134 l).toInt ≤ 4) (b54 : 0 ≤ (I 107 54).toInt ∧ (I 107 54).toInt ≤ 6) (l1 : l ≤ 1) (c : tC) : c ∈ kbaC qt (kst I) id ↔ c ∈ baC (rst I) l := by
  obtain ⟨-, e2, e3⟩ := rw_
  obtain ⟨-, -, h3, h4, -⟩ := hd
  have n2 := kl_nat b2.1
  have n134 := kl_nat b134.1
  have n54 := kl_nat b54.1
  have f : rhd (rst I) l = id := funext (fun c => rst_d l c)
  have ml : ∀ m, m ≤ (I 107 54).toNatClampNeg → kmoL (kst I) id m = moL (rst I) id m := fun m => by
    induction m with
    | zero => intro _; rfl
    | succ m ih =>
      intro hm
      obtain ⟨g1, g2, g3, g4⟩ := h4 m (by omega) (by rw [h3]; omega)
      show bC id (nd (kst I 41 m)) (nd (kst I 42 m)) (kst I 43 m).toInt (kst I 44 m).toInt ++ kmoL (kst I) id m = bC id (nd (rst I 144 m)) (nd (rst I 145 m)) (rst I 146 m).toInt (rst I 147 m).toInt ++ moL (rst I) id m
      rw [ih (by omega), kst_0 _ _ (by omega), kst_0 _ _ (by omega), kst_0 _ _ (by omega), kst_0 _ _ (by omega), rst_0 _ _ (by omega), rst_0 _ _ (by omega), rst_0 _ _ (by omega), rst_0 _ _ (by omega), g1, g2, g3, g4]
  have e54 : rst I 107 54 = I 107 54 := if_neg (by omega)
  have e53 : rst I 107 53 = 0 := if_pos ⟨rfl, Or.inl rfl⟩
  -- one open TIME
  have one : ∀ i k : Nat, (i : Int) < (I 122 l).toInt → I 130 (240 + 4 * l + k) = Int32.ofNat i → I (qt + 6) i = I 131 (240 + 4 * l + k) → I (qt + 6) i ≠ -1 → I (qt + 7) i = I 132 (240 + 4 * l + k) → I (qt + 8) i = I 133 (240 + 4 * l + k) → kopC qt (kst I) id i = opC (rst I) l (240 + 4 * l + k) := fun i k q0 q1 q2 q3 q4 q5 => by
    unfold kopC opC spC
    rw [if_pos e53, f, kst_0 _ _ (by omega), if_neg q3, kst_0 _ _ (by omega), kst_0 _ _ (by omega), rst_0 _ _ (by omega), rst_0 _ _ (by omega), rst_0 _ _ (by omega), rst_0 _ _ (by omega), q1, q2, q4, q5]
    have z : nd (Int32.ofNat i) = i + 1 := by
      unfold nd
      rw [Int32.toInt_ofNat_of_lt (by omega)]
      omega
    rw [z, Int.sub_zero, Int.add_zero]
  have inK : ∀ m, c ∈ kopL qt (kst I) id m ↔ ∃ i, i < m ∧ c ∈ kopC qt (kst I) id i := fun m => by
    induction m with
    | zero => exact ⟨fun h => absurd h List.not_mem_nil, fun ⟨i, hi, _⟩ => absurd hi (Nat.not_lt_zero i)⟩
    | succ m ih =>
      show c ∈ kopC qt (kst I) id m ++ kopL qt (kst I) id m ↔ _
      rw [List.mem_append, ih]
      constructor
      · rintro (h | ⟨i, hi, h⟩)
        · exact ⟨m, by omega, h⟩
        · exact ⟨i, by omega, h⟩
      · rintro ⟨i, hi, h⟩
        by_cases e : i = m
        · rw [e] at h; exact Or.inl h
        · exact Or.inr ⟨i, by omega, h⟩
  have inR : ∀ p m, c ∈ opL (rst I) l p m ↔ ∃ k, k < m ∧ c ∈ opC (rst I) l (p + k) := fun p m => by
    induction m with
    | zero => exact ⟨fun h => absurd h List.not_mem_nil, fun ⟨i, hi, _⟩ => absurd hi (Nat.not_lt_zero i)⟩
    | succ m ih =>
      show c ∈ opC (rst I) l (p + m) ++ opL (rst I) l p m ↔ _
      rw [List.mem_append, ih]
      constructor
      · rintro (h | ⟨i, hi, h⟩)
        · exact ⟨m, by omega, h⟩
        · exact ⟨i, by omega, h⟩
      · rintro ⟨i, hi, h⟩
        by_cases e : i = m
        · rw [e] at h; exact Or.inl h
        · exact Or.inr ⟨i, by omega, h⟩
  unfold kbaC baC
  rw [List.mem_append, List.mem_append, f, e54, kst_0 _ _ (by omega), kst_0 _ _ (by omega), rst_0 _ _ (by omega), h3, c2, ml _ (Nat.le_refl _), inK, inR]
  refine or_congr Iff.rfl ⟨?_, ?_⟩
  · rintro ⟨i, hi, h⟩
    rcases e2 i (by omega) with q | ⟨k, q1, q2, q3, q4, q5, q6⟩
    · exfalso
      have z : kopC qt (kst I) id i = [] := if_pos (by rw [kst_0 _ _ (by omega)]; exact q)
      rw [z] at h
      exact absurd h List.not_mem_nil
    · exact ⟨k, by omega, by rw [← one i k (by omega) q2 q3 q4 q5 q6]; exact h⟩
  · rintro ⟨k, hk, h⟩
    obtain ⟨i, q1, q2, q3, q4, q5, q6⟩ := e3 k (by omega)
    exact ⟨i, by omega, by rw [one i k q1 q2 q3 q4 q5 q6]; exact h⟩
theorem kl_eq : ∀ {A B : List tC} {A' B' : List tC}, A = A' → B = B' → A ++ B = A' ++ B' := fun h g => by rw [h, g]
theorem ch_eq (hq : qt = 12 ∨ qt = 49) (rw_ : rwE qt l I) (wm : wmE qt l I) (b3 : 0 ≤ (I 125 l).toInt ∧ (I 125 l).toInt ≤ 10) (b46 : 0 ≤ (I 107 46).toInt ∧ (I 107 46).toInt ≤ 45) (b128 : ∀ j, j < 20 → 0 ≤ (I 128 j).toInt ∧ (I 128 j).toInt ≤ 4) (l1 : l ≤ 1) {x : Nat} (hx : x < (I 125 l).toNatClampNeg ∨ (10 ≤ x ∧ x < 10 + (I 107 46).toNatClampNeg)) : kcd qt (kst I) (cdm x) = icd (rst I) l x ∧ ∀ c, kcv qt 74 (kst I) id (cdm x) c = icv (rst I) l x c := by
  obtain ⟨e1, -, -⟩ := rw_
  obtain ⟨-, -, w3⟩ := wm
  have n3 := kl_nat b3.1
  have n46 := kl_nat b46.1
  have f : rhd (rst I) l = id := funext (fun c => rst_d l c)
  have z68 : rst I 107 68 = 0 := if_pos ⟨rfl, Or.inr rfl⟩
  unfold kcv icv
  rcases hx with hx | ⟨hx1, hx2⟩
  · have x10 : x < 10 := by omega
    have cx : cdm x = x := if_pos x10
    obtain ⟨y1, y2⟩ := e1 x (by omega)
    have ecd : kcd qt (kst I) (cdm x) = icd (rst I) l x := by
      unfold kcd icd
      rw [cx, if_pos x10, if_pos x10, kst_0 _ _ (by omega), rst_0 _ _ (by omega), y1]
    refine ⟨ecd, fun c => ?_⟩
    rw [ecd]
    by_cases q : c < icd (rst I) l x
    · rw [if_pos q, if_pos q]
      unfold icd at q
      rw [if_pos x10, rst_0 _ _ (by omega)] at q
      have nb := kl_nat (b128 (10 * l + x) (by omega)).1
      obtain ⟨z1, z2, z3⟩ := y2 c (by omega)
      have nz := kl_nat (i := I 129 (4 * (10 * l + x) + c)) (by omega)
      unfold kcc icc
      rw [cx, if_pos x10, if_pos x10, kst_g, gv_0 z68 x10, f, kst_0 _ _ (by omega), rst_0 _ _ (by omega), z1]
      have lp : ∀ m, m ≤ (I 129 (4 * (10 * l + x) + c)).toNatClampNeg → ksL qt (kst I) id 0 (3 * (4 * x + c)) m = spL (rst I) id 0 (3 * (4 * (10 * l + x) + c)) m := fun m => by
        induction m with
        | zero => intro _; rfl
        | succ m ih =>
          intro hm
          obtain ⟨s1, s2, s3, s4⟩ := z3 m (by omega)
          show ksC qt (kst I) id (3 * (4 * x + c) + m) 0 ++ ksL qt (kst I) id 0 (3 * (4 * x + c)) m = spC (rst I) id (3 * (4 * (10 * l + x) + c) + m) 0 ++ spL (rst I) id 0 (3 * (4 * (10 * l + x) + c)) m
          refine kl_eq ?_ (ih (by omega))
          unfold ksC spC
          rw [kst_0 _ _ (by omega), kst_0 _ _ (by omega), kst_0 _ _ (by omega), kst_0 _ _ (by omega), rst_0 _ _ (by omega), rst_0 _ _ (by omega), rst_0 _ _ (by omega), rst_0 _ _ (by omega), s1, s2, s3, s4]
      exact lp _ (Nat.le_refl _)
    · rw [if_neg q, if_neg q]
  · have x10 : ¬ x < 10 := by omega
    have cx : cdm x = x + 90 := if_neg x10
    obtain ⟨v1, v2, v3, -, -, -⟩ := w3 (x - 10) (by omega)
    have ix : x + 90 - 100 = x - 10 := by omega
    have wz : ((I (qt + 24) (x - 10)).toInt < 0) ↔ I 142 (x - 10) = -1 := by
      rcases v3 with ⟨e, e'⟩ | ⟨e, -, e'⟩
      · rw [e, e']; decide
      · rw [e']
        exact ⟨fun q => by omega, fun q => by rw [q] at e; exact absurd e (by decide)⟩
    have ecd : kcd qt (kst I) (cdm x) = icd (rst I) l x := by
      unfold kcd icd
      rw [cx, if_neg (show ¬ x + 90 < 10 by omega), if_neg x10, if_pos (show x < 60 by omega), ix, kst_0 _ _ (by omega), rst_0 _ _ (by omega)]
      by_cases q : I 142 (x - 10) = -1
      · rw [if_pos q, if_pos (wz.mpr q)]
      · rw [if_neg q, if_neg (fun u => q (wz.mp u))]
    refine ⟨ecd, fun c => ?_⟩
    rw [ecd]
    by_cases q : c < icd (rst I) l x
    · rw [if_pos q, if_pos q]
      unfold icd at q
      rw [if_neg x10, if_pos (show x < 60 by omega), rst_0 _ _ (by omega)] at q
      have nw : I 142 (x - 10) ≠ -1 := fun u => by rw [if_pos u] at q; exact absurd q (Nat.not_lt_zero c)
      have ew : I (qt + 24) (x - 10) = I 142 (x - 10) := by
        rcases v3 with ⟨-, e'⟩ | ⟨-, -, e'⟩
        · exact absurd e' nw
        · exact e'
      unfold kcc icc
      rw [cx, if_neg (show ¬ x + 90 < 10 by omega), if_neg x10, if_pos (show x < 60 by omega), ix, f, kst_0 _ _ (by omega), kst_0 _ _ (by omega), kst_0 _ _ (by omega), rst_0 _ _ (by omega), rst_0 _ _ (by omega), rst_0 _ _ (by omega), v1, v2, ew]
    · rw [if_neg q, if_neg q]
/-- GOING THROUGH all comes out alike -/
theorem KR (hq : qt = 12 ∨ qt = 49) (l1 : l ≤ 1) (mm : en_mem ml_tb mlX (xLay, I, L, R)) (td : tdE qt l I) (hd : hdE I) : KF qt I = RF I l := by
  have rw_ := rwE_of hq l1 mm td
  have wm := td.2
  obtain ⟨c2, c3⟩ : I qt 2 = I 122 l ∧ I qt 3 = I 125 l := by
    obtain ⟨⟨a, k1, k2, -⟩, -⟩ := td
    have row : ∀ j, j < 5 → I qt j = a.1 12 j := fun j hj => by
      have h := k1 12 j (by omega) (by omega) (by omega) (by omega)
      rw [show 12 + (qt - 12) = qt by omega] at h; exact h
    exact ⟨(row 2 (by omega)).trans k2.2.2.1, (row 3 (by omega)).trans k2.2.2.2.1⟩
  have c5 := wm.2.1
  have b := ml_cs l1 mm
  have b134 : 0 ≤ (I 134 l).toInt ∧ (I 134 l).toInt ≤ 4 := ml_row mm (p := 134) (n := 2) (q := (0, 4)) (fun _ => rfl) l (by omega)
  have b54 : 0 ≤ (I 107 54).toInt ∧ (I 107 54).toInt ≤ 6 := mm.2.1 107 54 (0, 6) (by decide +kernel)
  have b46 : 0 ≤ (I 107 46).toInt ∧ (I 107 46).toInt ≤ 45 := mm.2.1 107 46 (0, 45) (by decide +kernel)
  have b128 : ∀ j, j < 20 → 0 ≤ (I 128 j).toInt ∧ (I 128 j).toInt ≤ 4 := fun j hj => ml_row mm (p := 128) (n := 20) (q := (0, 4)) (fun _ => rfl) j hj
  obtain ⟨len, it⟩ := items_eq (qt := qt) hd.1 c3 c5 b.2.2.2.1
  have inx : ∀ k, k < (rxs I l).length → (rxs I l).getD k 0 < (I 125 l).toNatClampNeg ∨ (10 ≤ (rxs I l).getD k 0 ∧ (rxs I l).getD k 0 < 10 + (I 107 46).toNatClampNeg) := fun k hk => itL_in hk
  unfold KF RF
  rw [len, c2]
  refine GT_cg (ba_eq hq rw_ hd c2 b.2.2.1 b134 b54 l1) (fun k hk => ?_) (fun j hj c x => ?_)
  · rw [it k hk]
    exact (ch_eq hq rw_ wm b.2.2.2.1 b46 b128 l1 (inx k hk)).1
  · rw [it j hj, (ch_eq hq rw_ wm b.2.2.2.1 b46 b128 l1 (inx j hj)).2 c]
end
end
section
/-! the class's invariant with what was gone through; what may not be written beside isGoneThrough -/
def kEX : List (Nat × List Nat) := [(0, [9, 12]), (74, [4, 6, 7, 8, 10, 11, 13, 14, 15]), (75, [4, 5]), (76, []), (77, []), (78, []), (79, []), (81, []), (80, []), (46, []), (47, []), (48, []), (37, []), (41, []), (42, []), (43, []), (44, []), (12, []), (13, []), (14, []), (15, []), (16, []), (17, []), (18, []), (19, []), (20, []), (21, []), (22, []), (23, []), (24, []), (25, []), (26, []), (27, []), (28, []), (29, []), (30, []), (31, []), (32, []), (33, []), (34, []), (35, []), (36, []), (49, []), (50, []), (51, []), (52, []), (53, []), (54, []), (55, []), (56, []), (57, []), (58, []), (59, []), (60, []), (61, []), (62, []), (63, []), (64, []), (65, []), (66, []), (67, []), (68, []), (69, []), (70, []), (71, []), (72, []), (73, [])]
def kl_tb2 : en_Tb := (kl_tb.1, kl_tb.2.1, kEX ++ kl_tb.2.2)
def GC (qt : Nat) (I : sm_I) (L : sm_L) (R : sm_R) : Prop := I 0 12 = 0 ∨ (R 74 4 = some qt ∧ kall qt (kys qt I) (KF qt I) I L ∧ klv qt I)
def GK (I : sm_I) (L : sm_L) (R : sm_R) : Prop := ∃ qt, (qt = 12 ∨ qt = 49) ∧ R 0 9 = some qt ∧ kW qt I ∧ GC qt I L R
def klY (w : sm_W) : Prop := klX w ∧ GK w.2.1 w.2.2.1 w.2.2.2
theorem kall_cg {Q : Nat} {ys : List Nat} {F : ss} {I J : sm_I} {L L' : sm_L} (h : ∀ p j, (p = 74 ∧ (j = 11 ∨ j = 13 ∨ j = 14 ∨ j = 15)) ∨ p = 80 ∨ p = 46 ∨ p = 47 → J p j = I p j) (hL : ∀ j, L' 48 j = L 48 j) (k : kall Q ys F I L) : kall Q ys F J L' := by
  obtain ⟨⟨k1, k2⟩, ⟨k3, k4, k5⟩, k6, k7⟩ := k
  refine ⟨⟨by rw [h 74 11 (by omega)]; exact k1, fun k hk => by rw [h (74 + 6) k (by omega)]; exact k2 k hk⟩, ⟨by rw [h 74 13 (by omega)]; exact k3, by rw [h 74 14 (by omega)]; exact k4, by rw [h 74 15 (by omega)]; exact k5⟩, fun i hi h1 => by rw [h 46 i (by omega)]; exact k6 i hi h1, fun w hw => by rw [h 47 w (by omega), hL]; exact k7 w hw⟩
theorem kW_cg {Q : Nat} {I J : sm_I} (hQ : Q = 12 ∨ Q = 49) (h : ∀ p j, (Q ≤ p ∧ p < Q + 25) ∨ p = 37 ∨ (41 ≤ p ∧ p ≤ 44) → J p j = I p j) (k : kW Q I) : kW Q J := by
  have t := kst_t hQ h
  have t' : ∀ p j, (Q ≤ p ∧ p < Q + 25) ∨ p = 37 ∨ (41 ≤ p ∧ p ≤ 44) → J p j = I p j := h
  obtain ⟨k1, k2, k3, k4, k5, k6, k7⟩ := k
  unfold kW
  rw [h Q 2 (by omega), h Q 3 (by omega), h Q 5 (by omega), h 37 1 (by omega)]
  refine ⟨k1, k2, k3, k4, fun k hk => ?_, fun k hk => ?_, fun s hs => k_iok t (k7 s hs)⟩
  · have a := k5 k hk
    unfold kmok at a ⊢
    rw [h 41 k (by omega), h 42 k (by omega), h 43 k (by omega), h 44 k (by omega)]; exact a
  · have a := k6 k hk
    unfold kopk at a ⊢
    rw [h (Q + 6) k (by omega), h (Q + 7) k (by omega), h (Q + 8) k (by omega)]; exact a
theorem GK_cg {I J : sm_I} {L L' : sm_L} {R R' : sm_R} (h : ∀ p j, (12 ≤ p ∧ p < 37) ∨ (49 ≤ p ∧ p < 74) ∨ p = 37 ∨ (41 ≤ p ∧ p ≤ 44) ∨ (p = 74 ∧ (j = 6 ∨ j = 7 ∨ j = 8 ∨ j = 10 ∨ j = 11 ∨ j = 13 ∨ j = 14 ∨ j = 15)) ∨ (p = 75 ∧ (j = 4 ∨ j = 5)) ∨ (76 ≤ p ∧ p ≤ 79) ∨ p = 81 ∨ p = 80 ∨ p = 46 ∨ p = 47 ∨ (p = 0 ∧ j = 12) → J p j = I p j) (hL : ∀ j, L' 48 j = L 48 j) (r1 : R' 0 9 = R 0 9) (r2 : R' 74 4 = R 74 4) (k : GK I L R) : GK J L' R' := by
  obtain ⟨qt, hq, k1, k2, k3⟩ := k
  have t : ∀ p j, (qt ≤ p ∧ p < qt + 25) ∨ p = 37 ∨ (41 ≤ p ∧ p ≤ 44) → J p j = I p j := fun p j q => h p j (by omega)
  refine ⟨qt, hq, r1.trans k1, kW_cg hq t k2, ?_⟩
  rcases k3 with e | ⟨e, k3⟩
  · exact Or.inl (by rw [h 0 12 (by omega)]; exact e)
  · refine Or.inr ⟨r2.trans e, ?_, klv_cg hq t (fun p j q => h p j (by omega)) (fun j _ a b _ _ => by
      unfold nT
      rw [h 76 _ (by omega)]) k3.2⟩
    rw [kys_cg t, KF_cg hq t]
    exact kall_cg (fun p j q => h p j (by omega)) hL k3.1
theorem kEX_a : ∀ a, a < 82 → ((12 ≤ a ∧ a < 37) ∨ (49 ≤ a ∧ a < 74) ∨ a = 37 ∨ (41 ≤ a ∧ a ≤ 44) ∨ (76 ≤ a ∧ a ≤ 79) ∨ a = 81 ∨ a = 80 ∨ a = 46 ∨ a = 47 ∨ a = 48) → kEX.any (fun q => Nat.beq q.1 a && q.2.isEmpty) = true := by decide +kernel
theorem kEX_b : ∀ b, b < 16 → (b = 6 ∨ b = 7 ∨ b = 8 ∨ b = 10 ∨ b = 11 ∨ b = 13 ∨ b = 14 ∨ b = 15 ∨ b = 4) → en_wok kEX 74 b = true := by decide +kernel
theorem kEX_ok {a b : Nat} (h : (12 ≤ a ∧ a < 37) ∨ (49 ≤ a ∧ a < 74) ∨ a = 37 ∨ (41 ≤ a ∧ a ≤ 44) ∨ (a = 74 ∧ (b = 6 ∨ b = 7 ∨ b = 8 ∨ b = 10 ∨ b = 11 ∨ b = 13 ∨ b = 14 ∨ b = 15 ∨ b = 4)) ∨ (a = 75 ∧ (b = 4 ∨ b = 5)) ∨ (76 ≤ a ∧ a ≤ 79) ∨ a = 81 ∨ a = 80 ∨ a = 46 ∨ a = 47 ∨ a = 48 ∨ (a = 0 ∧ (b = 12 ∨ b = 9))) : en_wok kEX a b = true := by
  by_cases c : a = 74
  · subst c
    exact kEX_b b (by omega) (by omega)
  by_cases c75 : a = 75
  · subst c75
    have : b = 4 ∨ b = 5 := by omega
    rcases this with e | e <;> subst e <;> decide +kernel
  by_cases c0 : a = 0
  · subst c0
    have : b = 12 ∨ b = 9 := by omega
    rcases this with e | e <;> subst e <;> decide +kernel
  obtain ⟨q, q1, q2⟩ := List.any_eq_true.mp (kEX_a a (by omega) (by omega))
  obtain ⟨q2, q3⟩ := Bool.and_eq_true_iff.mp q2
  refine List.any_eq_true.mpr ⟨q, q1, Bool.and_eq_true_iff.mpr ⟨q2, ?_⟩⟩
  have e : q.2 = [] := List.isEmpty_iff.mp q3
  rw [e]
theorem kEX_no {p j : Nat} (h : en_fix kl_tb2 p j = false) : en_wok kEX p j = false ∧ en_fix kl_tb p j = false := by
  have h : (kEX ++ kl_tb.2.2).any (fun q => Nat.beq q.1 p && (match q.2 with
    | [] => true
    | l => l.any (fun i => Nat.beq i j))) = false := h
  rw [List.any_append] at h
  exact Bool.or_eq_false_iff.mp h
theorem kEX_ne {p j a b : Nat} (h : en_wok kEX p j = false) (g : en_wok kEX a b = true) : ¬ (a = p ∧ b = j) := by
  rintro ⟨e1, e2⟩
  subst e1
  subst e2
  rw [h] at g
  cases g
theorem klY_ok : en_Xok kl_tb2 klY := by
  refine ⟨fun lay m p j x h hX => ?_, fun lay m p j r h hX => ?_, fun lay m p j y h hX => ?_⟩
  · obtain ⟨h1, h2⟩ := kEX_no h
    refine ⟨klX_ok.1 lay m p j x h2 hX.1, GK_cg (I := m.1) (L := m.2.1) (R := m.2.2) (fun a b q => en_up_ne _ _ _ _ (kEX_ne h1 (kEX_ok (by omega)))) (fun _ => rfl) rfl rfl hX.2⟩
  · obtain ⟨h1, h2⟩ := kEX_no h
    refine ⟨klX_ok.2.1 lay m p j r h2 hX.1, GK_cg (I := m.1) (L := m.2.1) (R := m.2.2) (fun a b q => rfl) (fun _ => rfl) (en_up_ne _ _ _ _ (kEX_ne h1 (kEX_ok (by omega)))) (en_up_ne _ _ _ _ (kEX_ne h1 (kEX_ok (by omega)))) hX.2⟩
  · obtain ⟨h1, h2⟩ := kEX_no h
    refine ⟨klX_ok.2.2 lay m p j y h2 hX.1, GK_cg (I := m.1) (L := m.2.1) (R := m.2.2) (fun a b q => rfl) (fun i => en_up_ne _ _ _ _ (kEX_ne h1 (kEX_ok (by omega)))) rfl rfl hX.2⟩
theorem ky_dn {w : sm_W} (h : en_mem kl_tb2 klY w) : en_mem kl_tb klX w := ⟨h.1, h.2.1, h.2.2.1, h.2.2.2.1, h.2.2.2.2.1⟩
theorem ky_gk {w : sm_W} (h : en_mem kl_tb2 klY w) : GK w.2.1 w.2.2.1 w.2.2.2 := h.2.2.2.2.2
theorem ky_up {w : sm_W} (h : en_mem kl_tb klX w) (g : GK w.2.1 w.2.2.1 w.2.2.2) : en_mem kl_tb2 klY w := ⟨h.1, h.2.1, h.2.2.1, h.2.2.2.1, h.2.2.2.2, g⟩
/-- a contract by hand that writes none of it -/
def kEX_d (W : en_W) : Bool := W.all (fun q => !(kEX.any (fun e => Nat.beq e.1 q.1)))
theorem kEX_w {W : en_W} (h : kEX_d W = true) {a b : Nat} (g : en_wok kEX a b = true) : en_wok W a b = false := by
  cases c : en_wok W a b with
  | false => rfl
  | true =>
    obtain ⟨q, q1, q2⟩ := List.any_eq_true.mp c
    have e : q.1 = a := Nat.eq_of_beq_eq_true (Bool.and_eq_true_iff.mp q2).1
    have d := List.all_eq_true.mp h q q1
    obtain ⟨r, r1, r2⟩ := List.any_eq_true.mp g
    have e2 : r.1 = a := Nat.eq_of_beq_eq_true (Bool.and_eq_true_iff.mp r2).1
    have : kEX.any (fun e => Nat.beq e.1 q.1) = true := List.any_eq_true.mpr ⟨r, r1, by rw [e, e2]; exact Nat.beq_refl a⟩
    rw [this] at d
    cases d
theorem ky_lift {P : Nat → sm_M} {Sc : sm_C} {c : en_Ct} (h : en_hold kl_tb klX P Sc c) (hd : kEX_d c.2.2.2.2.1 = true) (hL : ∀ (d : Nat), c.2.2.2.2.2 ≤ d → ∀ (vs : List Value) (w : sm_W), en_pvs c.2.1 vs → en_mem kl_tb klX w → sm_wp P Sc d c.1 0 vs [] w (0, 0) (fun z => z.2.2.2.1 = w.2.2.1)) : en_hold kl_tb2 klY P Sc c := by
  intro d hdd vs w hv hm hp
  have m := ky_dn hm
  refine sm_wp_mono (sm_wp_and (h d hdd vs w hv m hp) (hL d hdd vs w hv m)) (fun z q => ?_)
  obtain ⟨⟨q1, q2, q3⟩, q4⟩ := q
  refine ⟨q1, ky_up q2 (GK_cg (fun a b k => (q3.2 a b (kEX_w hd (kEX_ok (by omega)))).1) (fun j => by rw [q4]) (q3.2 0 9 (kEX_w hd (kEX_ok (by omega)))).2 (q3.2 74 4 (kEX_w hd (kEX_ok (by omega)))).2 (ky_gk hm)), q3⟩
end
section
/-! the class's asking leaves the levels of a WAY; told = 12, asked = 12 (wip/pe/mka1.py) -/
theorem kGA12_12_l : ∀ t, t ∈ kG12_74l → kA12_12l.find? (fun s => Nat.beq s.1 t.1 && Nat.beq s.2.1 t.2.1) = some t := by decide +kernel
theorem kGA12_12 (R : sm_R) : kG12_74 (kA12_12 R) = kA12_12 R := by
  funext x j
  unfold kG12_74
  split
  · next t ht =>
    have mem := List.mem_of_find?_eq_some ht
    have pr := List.find?_some ht
    obtain ⟨p1, p2⟩ := Bool.and_eq_true_iff.mp pr
    have e1 : t.1 = x := Nat.eq_of_beq_eq_true p1
    have e2 : t.2.1 = j := Nat.eq_of_beq_eq_true p2
    rw [← e1, ← e2]
    unfold kA12_12
    rw [kGA12_12_l t mem]
  · rfl
theorem kA12_12_r : ∀ t, t ∈ kA12_12l → (t.1 = 0 ∧ t.2.1 = 9 ∧ t.2.2 = 12) ∨ (t.1 = 74 ∧ t.2.1 = 4 ∧ t.2.2 = 12) ∨ en_refs kl_tb t.1 t.2.1 = [t.2.2] := by decide +kernel
theorem kA12_12_eq {w : sm_W} (hm : en_mem kl_tb klX w) (h : w.2.2.2 0 9 = some 12) (h2 : w.2.2.2 74 4 = some 12) : kA12_12 w.2.2.2 = w.2.2.2 := by
  funext x j
  unfold kA12_12
  split
  · next t ht =>
    have mem := List.mem_of_find?_eq_some ht
    have pr := List.find?_some ht
    obtain ⟨p1, p2⟩ := Bool.and_eq_true_iff.mp pr
    have e1 : t.1 = x := Nat.eq_of_beq_eq_true p1
    have e2 : t.2.1 = j := Nat.eq_of_beq_eq_true p2
    rcases kA12_12_r t mem with ⟨q1, q2, q3⟩ | ⟨q1, q2, q3⟩ | q
    · rw [← e1, ← e2, q1, q2, q3]; exact h.symm
    · rw [← e1, ← e2, q1, q2, q3]; exact h2.symm
    · obtain ⟨a, g1, g2⟩ := hm.2.2.1 t.1 t.2.1 (by rw [q]; exact List.cons_ne_nil _ _)
      rw [q] at g1
      rw [← e1, ← e2, g2, List.mem_singleton.mp g1]
  · rfl
section
variable {S : sm_C} {d : Nat} {Φ : sm_Z → Prop} {I : sm_I} {L : sm_L} {R : sm_R}
theorem aw12_12 {n lev D : Nat} {x2 x3 x4 : Int32} (eA : kA12_12 R = R) (D3 : 3 ≤ D) (B : g12_74_B I n) (hl : (lev + 1) * (n * n) + n * n ≤ 7381) (l1 : lev ≤ 80) (h3 : x3.toInt = lev) (q0 : 0 ≤ x2.toInt) (q5 : x2.toInt < 5) (h : ∀ r J, (r = 0 ∨ r = 1) → g12_74_c n (lev + 1) I J → Φ (some (.int r), (xLay, J, L, R))) : sm_wp sm_P S D 0 0 [.ref 103, .ref 12, .int x2, .int x3, .int x4] [] (xLay, I, L, R) (0, 0) Φ := by
  have eG : kG12_74 R = R := by rw [← eA, kGA12_12]
  obtain ⟨d, rfl⟩ : ∃ d, D = d + 3 := ⟨D - 3, by omega⟩
  have v : vp_in x2 5 := kl_in q0 q5
  have s3 : (x3 + 1).toInt = ((lev + 1 : Nat) : Int) := by rw [ml_in1 (by omega), h3]; omega
  refine pw12_12_X0_answer_0 (d := d + 2) eA ⟨v, v, cpW12 (d := d + 1) eG B hl (by omega) h3 (fun J c e => ⟨J, L, rfl, ?_⟩)⟩
  obtain ⟨B2, -⟩ := g12_74_Bc c B
  exact ⟨fun _ => ⟨v, v, bwW12 (d := d) eG B2 hl (by omega) s3 (fun r J2 r01 c2 => ⟨r, J2, L, rfl, r01, h r J2 r01 (g12_74_ct c c2)⟩)⟩, fun _ => ⟨fun _ => ⟨v, fun n11 e11 n12 e12 n13 e13 => twW12 (d := d + 1) eG B2 hl (by omega) s3 (fun r J2 r01 c2 => ⟨r, J2, L, rfl, r01, h r J2 r01 (g12_74_ct c c2)⟩)⟩, fun _ => ⟨v, fun n4 e4 n5 e5 n6 e6 => twW12 (d := d + 1) eG B2 hl (by omega) s3 (fun r J2 r01 c2 => ⟨r, J2, L, rfl, r01, h r J2 r01 (g12_74_ct c c2)⟩)⟩⟩⟩
/-- what is above a level may change -/
def lf12_12 (n lev : Nat) (I J : sm_I) : Prop := ∀ p q, ¬ (p = 76 ∧ (lev + 1) * (n * n) ≤ q) → J p q = I p q
theorem lf12_12_c {n lev : Nat} {I J : sm_I} (h : g12_74_c n (lev + 1) I J) : lf12_12 n lev I J := fun p q a => h p q (fun w => a ⟨w.1, w.2.1⟩)
theorem lf12_12_s {n lev : Nat} {I J : sm_I} (h : lf12_12 n (lev + 1) I J) : lf12_12 n lev I J := fun p q a => h p q (fun w => a ⟨w.1, by
  have := w.2
  rw [Nat.succ_mul] at this
  omega⟩)
theorem lf12_12_t {n lev : Nat} {I J K : sm_I} (a : lf12_12 n lev I J) (b : lf12_12 n lev J K) : lf12_12 n lev I K := fun p q h => (b p q h).trans (a p q h)
theorem lf12_12_T {n lev j : Nat} {I J : sm_I} (a : lf12_12 n lev I J) (hj : j ≤ lev) : ∀ u v, u < n → v < n → g12_74_T J n j u v = g12_74_T I n j u v := fun u v hu hv => by
  have tl := tix_lt hu hv
  unfold g12_74_T
  rw [a 76 _ (fun q => ?_)]
  have q := q.2
  unfold tix at q
  have := Nat.mul_le_mul_right (n * n) (show j + 1 ≤ lev + 1 by omega)
  rw [Nat.succ_mul] at this
  omega
theorem lf12_12_B {n lev : Nat} {I J : sm_I} (a : lf12_12 n lev I J) (B : g12_74_B I n) : g12_74_B J n := by
  obtain ⟨b1, b2, b3, b4, b5⟩ := B
  exact ⟨by rw [a 75 4 (by omega)]; exact b1, b2, b3, by rw [a 75 5 (by omega)]; exact b4, fun i hi => by rw [a 77 i (by omega), a 78 i (by omega), a 79 i (by omega)]; exact b5 i hi⟩
theorem isL12_12 {n : Nat} {x4 x5 : Int32} (eA : kA12_12 R = R) (n11 : n ≤ 11) : ∀ (m q lev D : Nat) (x2 x3 : Int32) (I : sm_I) (Φ : sm_Z → Prop), q + m = 5 → m + 4 ≤ D → x2.toInt = q → x3.toInt = lev → lev + m ≤ 60 → g12_74_B I n → (∀ r J, (r = 0 ∨ r = 1) → lf12_12 n lev I J → Φ (some (.int r), (xLay, J, L, R))) → sm_wp sm_P S D 7 0 [.ref 103, .ref 12, .int x2, .int x3, .int x4, .int x5] [] (xLay, I, L, R) (0, 0) Φ := by
  have h5 : (5 : Int32).toInt = 5 := by decide
  intro m
  induction m with
  | zero =>
    intro q lev D x2 x3 I Φ hq hD h2 h3 hl B h
    obtain ⟨d, rfl⟩ : ∃ d, D = d + 1 := ⟨D - 1, by omega⟩
    have e : Φ (some (.int 1), (xLay, I, L, R)) := h 1 I (Or.inr rfl) (fun _ _ _ => rfl)
    exact pw12_12_X0_isLeft_0 eA ⟨fun _ => e, fun _ => ⟨fun c => absurd (Int32.lt_iff_toInt_lt.mp c) (by rw [h5]; omega), fun _ => e⟩⟩
  | succ m ih =>
    intro q lev D x2 x3 I Φ hq hD h2 h3 hl B h
    obtain ⟨d, rfl⟩ : ∃ d, D = d + 1 := ⟨D - 1, by omega⟩
    have e : Φ (some (.int 1), (xLay, I, L, R)) := h 1 I (Or.inr rfl) (fun _ _ _ => rfl)
    have s2 : (x2 + 1).toInt = ((q + 1 : Nat) : Int) := by rw [ml_in1 (by omega), h2]; omega
    have s3 : (x3 + 1).toInt = ((lev + 1 : Nat) : Int) := by rw [ml_in1 (by omega), h3]; omega
    have cap : (lev + 1) * (n * n) + n * n ≤ 7381 := by
      have nn : n * n ≤ 11 * 11 := Nat.mul_le_mul n11 n11
      have a : (lev + 1) * (n * n) ≤ 60 * (11 * 11) := Nat.mul_le_mul (by omega) nn
      omega
    -- the last block
    have b18 : ∀ (J : sm_I) (s : Int32), (s = 0 ∨ s = 1) → lf12_12 n lev I J → sm_wp sm_P S (d + 1) 7 18 [] [.int s] (xLay, J, L, R) (0, 0) Φ := fun J s s01 f => pw12_12_X0_isLeft_18 eA ⟨s01, h s J s01 f⟩
    have b14 : ∀ J : sm_I, lf12_12 n lev I J → sm_wp sm_P S (d + 1) 7 14 [.ref 103, .ref 12, .int x2, .int x3, .int x4, .int x5] [] (xLay, J, L, R) (0, 0) Φ := fun J f => by
      refine pw12_12_X0_isLeft_14 eA (aw12_12 eA (by omega) (lf12_12_B f B) cap (by omega) h3 (by omega) (by omega) (fun r J2 r01 c => ⟨r, J2, L, rfl, fun _ => b18 J2 0 (Or.inl rfl) (lf12_12_t f (lf12_12_c c)), fun r1 => ?_⟩))
      have f2 := lf12_12_t f (lf12_12_c c)
      exact ih (q + 1) (lev + 1) d _ _ J2 _ (by omega) (by omega) s2 s3 (by omega) (lf12_12_B f2 B) (fun r3 J3 r301 f3 => ⟨r3, J3, L, rfl, fun _ => b18 J3 0 (Or.inl rfl) (lf12_12_t f2 (lf12_12_s f3)), fun _ => b18 J3 1 (Or.inr rfl) (lf12_12_t f2 (lf12_12_s f3))⟩)
    refine pw12_12_X0_isLeft_0 eA ⟨fun _ => e, fun _ => ⟨fun _ => ⟨fun _ => ⟨fun _ => ?_, fun _ => ?_⟩, fun _ => ?_⟩, fun _ => e⟩⟩
    · exact ih (q + 1) lev d _ _ I _ (by omega) (by omega) s2 h3 (by omega) B (fun r J r01 f => ⟨r, J, L, rfl, r01, h r J r01 f⟩)
    · refine aw12_12 eA (by omega) B cap (by omega) h3 (by omega) (by omega) (fun r J r01 c => ⟨r, J, L, rfl, fun _ => b14 J (lf12_12_c c), fun r1 => ?_⟩)
      have f2 := lf12_12_c c
      exact ih (q + 1) (lev + 1) d _ _ J _ (by omega) (by omega) s2 s3 (by omega) (lf12_12_B f2 B) (fun r3 J3 r301 f3 => ⟨r3, J3, L, rfl, fun _ => b14 J3 (lf12_12_t f2 (lf12_12_s f3)), fun _ => h 1 J3 (Or.inr rfl) (lf12_12_t f2 (lf12_12_s f3))⟩)
    · refine aw12_12 eA (by omega) B cap (by omega) h3 (by omega) (by omega) (fun r J r01 c => ⟨r, J, L, rfl, fun _ => h 0 J (Or.inl rfl) (lf12_12_c c), fun r1 => ?_⟩)
      have f2 := lf12_12_c c
      exact ih (q + 1) (lev + 1) d _ _ J _ (by omega) (by omega) s2 s3 (by omega) (lf12_12_B f2 B) (fun r3 J3 r301 f3 => ⟨r3, J3, L, rfl, fun _ => h 0 J3 (Or.inl rfl) (lf12_12_t f2 (lf12_12_s f3)), fun _ => h 1 J3 (Or.inr rfl) (lf12_12_t f2 (lf12_12_s f3))⟩)
/-- what the asking may change of a state that was gone through -/
def af12_12 (I J : sm_I) : Prop := ∀ p q, p ≠ 76 → p ≠ 81 → ¬ (p = 74 ∧ q = 6) → p ≠ 104 → p ≠ 105 → ¬ (p = 103 ∧ q = 5) → J p q = I p q
def as12_12 (I : sm_I) (L : sm_L) : Prop := kW 12 I ∧ kall 12 (kys 12 I) (KF 12 I) I L ∧ klv 12 I
theorem as12_12_t {I J : sm_I} (f : af12_12 I J) : ∀ p j, (12 ≤ p ∧ p < 12 + 25) ∨ p = 37 ∨ (41 ≤ p ∧ p ≤ 44) → J p j = I p j := fun p j q => f p j (by omega) (by omega) (by omega) (by omega) (by omega) (by omega)
theorem as12_12_k {I J : sm_I} {L : sm_L} (f : af12_12 I J) (k : klv 12 J) (s : as12_12 I L) : as12_12 J L := by
  obtain ⟨s1, s2, -⟩ := s
  have t := as12_12_t f
  refine ⟨kW_cg (by decide) t s1, ?_, k⟩
  rw [kys_cg t, KF_cg (by decide) t]
  exact kall_cg (fun p j q => f p j (by omega) (by omega) (by omega) (by omega) (by omega) (by omega)) (fun _ => rfl) s2
theorem as12_12_l {I : sm_I} {L : sm_L} (s : as12_12 I L) : (kys 12 I).length ≤ 55 ∧ kn 12 I ≤ 11 ∧ (I 74 11).toInt = (kys 12 I).length ∧ (I 74 14).toInt = (KF 12 I).2.2.2.1 ∧ (KF 12 I).2.2.2.1 ≤ 1000 := by
  obtain ⟨hk, ka, lv⟩ := s
  have := kitL_len (set := kdb 12 I) (s := (I 12 3).toNatClampNeg) (m := (I 12 5).toNatClampNeg)
  have := kl_nat hk.2.1.1
  have := kl_nat hk.2.2.1.1
  have := hk.2.1.2
  have := hk.2.2.1.2
  refine ⟨by unfold kys; omega, lv.1.2.2.1, ka.1.1, ka.2.1.2.1, GT_wf.2.2.2.2.1.1⟩
/-- a WAY brought -/
theorem bw12_12 {D w : Nat} {x : Int32} (eA : kA12_12 R = R) (D4 : 4 ≤ D) (s : as12_12 I L) (wf : w < (KF 12 I).2.2.2.1) (hx : x.toInt = w) (h : ∀ J, af12_12 I J → as12_12 J L → Φ (some (.int 1), (xLay, J, L, R))) : sm_wp sm_P S D 222 0 [.ref 74, .ref 45, .int x] [] (xLay, I, L, R) (0, 0) Φ := by
  have eG : kG12_74 R = R := by rw [← eA, kGA12_12]
  obtain ⟨d, rfl⟩ : ∃ d, D = d + 4 := ⟨D - 4, by omega⟩
  rw [← eG] at h ⊢
  refine br12 s.1 s.2.1 s.2.2 wf hx (fun J f b => ?_)
  have af : af12_12 I J := fun p q a1 a2 a3 _ _ _ => f p q a1 a2 a3
  exact h J af (as12_12_k af (klv_br (by decide) f b s.2.2) s)
/-- levels above a WAY's are of no account -/
theorem al12_12 {I J : sm_I} {L : sm_L} (s : as12_12 I L) (f : lf12_12 (kn 12 I) (kys 12 I).length I J) : af12_12 I J ∧ as12_12 J L := by
  have af : af12_12 I J := fun p q a1 a2 a3 _ _ _ => f p q (by omega)
  refine ⟨af, as12_12_k af (klv_cg (by decide) (as12_12_t af) (fun p j q => f p j (by omega)) (fun j hj a b ha hb => lf12_12_T f hj a b ha hb) s.2.2) s⟩
theorem af12_12_tr {I J K : sm_I} (a : af12_12 I J) (b : af12_12 J K) : af12_12 I K := fun p q a1 a2 a3 a4 a5 a6 => (b p q a1 a2 a3 a4 a5 a6).trans (a p q a1 a2 a3 a4 a5 a6)
/-- leftWith -/
theorem lw12_12 {D : Nat} {I0 : sm_I} {x2 x3 : Int32} (eA : kA12_12 R = R) (D9 : 9 ≤ D) (h : ∀ r J, af12_12 I0 J → as12_12 J L → Φ (some (.int r), (xLay, J, L, R))) : ∀ (m w : Nat) (x4 x5 : Int32) (J : sm_I), x5.toInt = w → w + m = (KF 12 I0).2.2.2.1 → af12_12 I0 J → as12_12 J L → sm_wp sm_P S (D + 1) 8 1 [.ref 103, .ref 12, .int x2, .int x3, .int x4, .int x5] [] (xLay, J, L, R) (0, 0) Φ := by
  intro m
  induction m with
  | zero =>
    intro w x4 x5 J h5 hm f s
    obtain ⟨-, -, -, l4, -⟩ := as12_12_l s
    rw [KF_cg (by decide) (as12_12_t f)] at l4
    refine pw12_12_X0_leftWith_1 eA ⟨fun _ => h _ J f s, fun c => ?_⟩
    have c := kl_nle c
    rw [l4] at c
    omega
  | succ m ih =>
    intro w x4 x5 J h5 hm f s
    obtain ⟨-, -, -, l4, l5⟩ := as12_12_l s
    have eK := KF_cg (Q := 12) (by decide) (as12_12_t f)
    rw [eK] at l4 l5
    have s5 := ml_in1 (x := x5) (by omega)
    refine pw12_12_X0_leftWith_1 eA ⟨fun c => ?_, fun _ => bw12_12 (w := w) eA (by omega) s (by rw [eK]; omega) h5 (fun J2 f2 s2 => ⟨_, J2, L, rfl, ?_⟩)⟩
    · have c := kl_le.mp c
      rw [l4] at c
      omega
    obtain ⟨l1, l2, l3, -, -⟩ := as12_12_l s2
    refine isL12_12 (n := kn 12 J2) eA l2 5 0 (kys 12 J2).length D 0 _ J2 _ (by omega) (by omega) kl_0 l3 (by omega) s2.2.2.1 (fun r J3 r01 f3 => ?_)
    obtain ⟨a3, s3⟩ := al12_12 s2 f3
    have f' := af12_12_tr f (af12_12_tr f2 a3)
    exact ⟨r, J3, L, rfl, fun _ => ih (w + 1) _ _ J3 (by omega) (by omega) f' s3, fun _ => ih (w + 1) _ _ J3 (by omega) (by omega) f' s3⟩
/-- answered -/
theorem ad12_12 {D : Nat} {I0 : sm_I} {x2 x3 : Int32} (eA : kA12_12 R = R) (D9 : 5 ≤ D) (q0 : 0 ≤ x2.toInt) (q5 : x2.toInt < 5) (h : ∀ r J, af12_12 I0 J → as12_12 J L → Φ (some (.int r), (xLay, J, L, R))) : ∀ (m w : Nat) (x4 x5 : Int32) (J : sm_I), x5.toInt = w → w + m = (KF 12 I0).2.2.2.1 → af12_12 I0 J → as12_12 J L → sm_wp sm_P S (D + 1) 1 1 [.ref 103, .ref 12, .int x2, .int x3, .int x4, .int x5] [] (xLay, J, L, R) (0, 0) Φ := by
  have eG : kG12_74 R = R := by rw [← eA, kGA12_12]
  have v : vp_in x2 5 := kl_in q0 q5
  intro m
  induction m with
  | zero =>
    intro w x4 x5 J h5 hm f s
    obtain ⟨-, -, -, l4, -⟩ := as12_12_l s
    rw [KF_cg (by decide) (as12_12_t f)] at l4
    refine pw12_12_X0_answered_1 eA ⟨fun _ => h _ J f s, fun c => ?_⟩
    have c := kl_nle c
    rw [l4] at c
    omega
  | succ m ih =>
    intro w x4 x5 J h5 hm f s
    obtain ⟨-, -, -, l4, l5⟩ := as12_12_l s
    have eK := KF_cg (Q := 12) (by decide) (as12_12_t f)
    rw [eK] at l4 l5
    have s5 := ml_in1 (x := x5) (by omega)
    refine pw12_12_X0_answered_1 eA ⟨fun c => ?_, fun _ => bw12_12 (w := w) eA (by omega) s (by rw [eK]; omega) h5 (fun J2 f2 s2 => ⟨_, J2, L, rfl, v, v, ?_⟩)⟩
    · have c := kl_le.mp c
      rw [l4] at c
      omega
    obtain ⟨l1, l2, l3, -, -⟩ := as12_12_l s2
    have f' := af12_12_tr f f2
    have nx : ∀ a : Int32, sm_wp sm_P S (D + 1) 1 17 [.ref 103, .ref 12, .int x2, .int x3, .int a, .int x5] [] (xLay, J2, L, R) (0, 0) Φ := fun a => pw12_12_X0_answered_17 eA (ih (w + 1) _ _ J2 (by omega) (by omega) f' s2)
    have b12 : ∀ a b : Int32, sm_wp sm_P S (D + 1) 1 12 [.ref 103, .ref 12, .int x2, .int x3, .int x4, .int x5, .int a] [.int b] (xLay, J2, L, R) (0, 0) Φ := fun a b => pw12_12_X0_answered_12 eA ⟨fun _ => ⟨fun _ => nx _, fun _ => nx _⟩, fun _ => ⟨fun _ => nx _, fun _ => nx _⟩⟩
    have b8 : ∀ a b c e f : Int32, sm_wp sm_P S (D + 1) 1 8 [.ref 103, .ref 12, .int x2, .int x3, .int x4, .int x5, .int a, .int b, .int c, .int e] [.int f] (xLay, J2, L, R) (0, 0) Φ := fun a b c e f => pw12_12_X0_answered_8 eA ⟨fun _ => b12 _ _, fun _ => ⟨fun _ => b12 _ _, fun _ => b12 _ _⟩⟩
    obtain ⟨D', rfl⟩ : ∃ D', D = D' + 3 := ⟨D - 3, by omega⟩
    refine dwW12 (d := D') (lev := (kys 12 J2).length) eG s2.2.2.1 (cap12 l2 l1) (by omega) l3 (fun r => ⟨r, J2, L, rfl, v, v, dwW12 (d := D') (lev := (kys 12 J2).length) eG s2.2.2.1 (cap12 l2 l1) (by omega) l3 (fun r9 => ⟨r9, J2, L, rfl, v, v, fun _ => b8 _ _ _ _ _, fun _ => ⟨fun _ => b8 _ _ _ _ _, fun _ => ⟨fun _ => b8 _ _ _ _ _, fun _ => b8 _ _ _ _ _⟩⟩⟩)⟩)
/-- spread -/
def sf12_12 (n lev : Nat) (I J : sm_I) : Prop := ∀ p q, ¬ (p = 76 ∧ (lev + 1) * (n * n) ≤ q) → p ≠ 104 → J p q = I p q
theorem sf12_12_l {n lev : Nat} {I J : sm_I} (h : lf12_12 n lev I J) : sf12_12 n lev I J := fun p q a _ => h p q a
theorem sf12_12_t {n lev : Nat} {I J K : sm_I} (a : sf12_12 n lev I J) (b : sf12_12 n lev J K) : sf12_12 n lev I K := fun p q h g => (b p q h g).trans (a p q h g)
theorem sf12_12_s {n lev : Nat} {I J : sm_I} (h : sf12_12 n (lev + 1) I J) : sf12_12 n lev I J := fun p q a b => h p q (fun w => a ⟨w.1, by
  have := w.2
  rw [Nat.succ_mul] at this
  omega⟩) b
theorem sf12_12_T {n lev j : Nat} {I J : sm_I} (a : sf12_12 n lev I J) (hj : j ≤ lev) : ∀ u v, u < n → v < n → g12_74_T J n j u v = g12_74_T I n j u v := fun u v hu hv => by
  have tl := tix_lt hu hv
  unfold g12_74_T
  rw [a 76 _ (fun q => ?_) (by omega)]
  have q := q.2
  unfold tix at q
  have := Nat.mul_le_mul_right (n * n) (show j + 1 ≤ lev + 1 by omega)
  rw [Nat.succ_mul] at this
  omega
theorem sf12_12_B {n lev : Nat} {I J : sm_I} (a : sf12_12 n lev I J) (B : g12_74_B I n) : g12_74_B J n := by
  obtain ⟨b1, b2, b3, b4, b5⟩ := B
  exact ⟨by rw [a 75 4 (by omega) (by omega)]; exact b1, b2, b3, by rw [a 75 5 (by omega) (by omega)]; exact b4, fun i hi => by rw [a 77 i (by omega) (by omega), a 78 i (by omega) (by omega), a 79 i (by omega) (by omega)]; exact b5 i hi⟩
theorem wy5 : sm_withyes.length = 5 := by decide +kernel
theorem spr12_12 {n : Nat} {x2 : Int32} (eA : kA12_12 R = R) (n11 : n ≤ 11) (v2 : vp_in x2 64) : ∀ (m q lev D : Nat) (x3 x4 x5 : Int32) (I : sm_I) (Φ : sm_Z → Prop), q + m = 5 → m + 4 ≤ D → x3.toInt = q → x4.toInt = lev → lev + m ≤ 60 → g12_74_B I n → (∀ J, sf12_12 n lev I J → Φ (none, (xLay, J, L, R))) → sm_wp sm_P S D 10 0 [.ref 103, .ref 12, .int x2, .int x3, .int x4, .int x5] [] (xLay, I, L, R) (0, 0) Φ := by
  have h5 : (5 : Int32).toInt = 5 := by decide
  have h3' : (3 : Int32).toInt = 3 := by decide
  have o104 : ∀ (n lev : Nat) (I J : sm_I) (i : Nat) (x : Int32), J = sm_up I 104 i x → sf12_12 n lev I J := fun n lev I J i x e p q a b => by rw [e, en_up_ne _ _ _ _ (by omega)]
  intro m
  induction m with
  | zero =>
    intro q lev D x3 x4 x5 I Φ hq hD h3 h4 hl B h
    obtain ⟨d, rfl⟩ : ∃ d, D = d + 1 := ⟨D - 1, by omega⟩
    exact pw12_12_X0_spread_0 eA ⟨v2, fun _ => h I (fun _ _ _ _ => rfl), fun _ => ⟨fun _ => ⟨v2, fun n1 e1 => ⟨v2, fun I2 e2 => h I2 (o104 _ _ _ _ _ _ e2)⟩⟩, fun _ => ⟨fun c => absurd (Int32.lt_iff_toInt_lt.mp c) (by rw [h5]; omega), fun _ => ⟨v2, fun n1 e1 => ⟨v2, fun I2 e2 => h I2 (o104 _ _ _ _ _ _ e2)⟩⟩⟩⟩⟩
  | succ m ih =>
    intro q lev D x3 x4 x5 I Φ hq hD h3 h4 hl B h
    obtain ⟨d, rfl⟩ : ∃ d, D = d + 1 := ⟨D - 1, by omega⟩
    have s3 : (x3 + 1).toInt = ((q + 1 : Nat) : Int) := by rw [ml_in1 (by omega), h3]; omega
    have s4 : (x4 + 1).toInt = ((lev + 1 : Nat) : Int) := by rw [ml_in1 (by omega), h4]; omega
    have cap : (lev + 1) * (n * n) + n * n ≤ 7381 := by
      have nn : n * n ≤ 11 * 11 := Nat.mul_le_mul n11 n11
      have a : (lev + 1) * (n * n) ≤ 60 * (11 * 11) := Nat.mul_le_mul (by omega) nn
      omega
    have v3 : vp_in x3 sm_withyes.length := by rw [wy5]; exact kl_in (by omega) (by omega)
    have lp : ∀ (k i : Nat) (x6 : Int32) (J : sm_I), x6.toInt = i → i + k = 3 → sf12_12 n lev I J → sm_wp sm_P S (d + 1) 10 6 [.ref 103, .ref 12, .int x2, .int x3, .int x4, .int x5, .int x6] [] (xLay, J, L, R) (0, 0) Φ := by
      intro k
      induction k with
      | zero =>
        intro i x6 J h6 hk f
        refine pw12_12_X0_spread_6 eA ⟨fun _ => h J f, fun c => ?_⟩
        have c := kl_nle c
        rw [h3'] at c
        omega
      | succ k ihk =>
        intro i x6 J h6 hk f
        have s6 := ml_in1 (x := x6) (by omega)
        refine pw12_12_X0_spread_6 eA ⟨fun c => ?_, fun _ => aw12_12 eA (by omega) (sf12_12_B f B) cap (by omega) h4 (by omega) (by omega) (fun r J2 r01 c => ⟨r, J2, L, rfl, fun _ => ihk (i + 1) _ J2 (by omega) (by omega) (sf12_12_t f (sf12_12_l (lf12_12_c c))), fun r1 => ?_⟩)⟩
        · have c := kl_le.mp c
          rw [h3'] at c
          omega
        have f2 := sf12_12_t f (sf12_12_l (lf12_12_c c))
        refine ⟨fun _ => ⟨v3, fun n9 _ => ?_⟩, fun _ => ⟨v3, fun n9 _ => ?_⟩⟩
        · exact ih (q + 1) (lev + 1) d _ _ _ J2 _ (by omega) (by omega) s3 s4 (by omega) (sf12_12_B f2 B) (fun J3 f3 => ⟨J3, L, rfl, ihk (i + 1) _ J3 (by omega) (by omega) (sf12_12_t f2 (sf12_12_s f3))⟩)
        · exact ih (q + 1) (lev + 1) d _ _ _ J2 _ (by omega) (by omega) s3 s4 (by omega) (sf12_12_B f2 B) (fun J3 f3 => ⟨J3, L, rfl, ihk (i + 1) _ J3 (by omega) (by omega) (sf12_12_t f2 (sf12_12_s f3))⟩)
    exact pw12_12_X0_spread_0 eA ⟨v2, fun _ => h I (fun _ _ _ _ => rfl), fun _ => ⟨fun _ => ⟨v2, fun n1 e1 => ⟨v2, fun I2 e2 => h I2 (o104 _ _ _ _ _ _ e2)⟩⟩, fun _ => ⟨fun _ => lp 3 0 0 I kl_0 (by omega) (fun _ _ _ _ => rfl), fun _ => ⟨v2, fun n1 e1 => ⟨v2, fun I2 e2 => h I2 (o104 _ _ _ _ _ _ e2)⟩⟩⟩⟩⟩
/-- countStates -/
theorem ao12_12 {x1 : Int32} (eA : kA12_12 R = R) (b4 : 0 ≤ (I 12 4).toInt ∧ (I 12 4).toInt ≤ 5) (h : ∀ r, Φ (some (.int r), (xLay, I, L, R))) : sm_wp sm_P S d 2 0 [.ref 12, .int x1] [] (xLay, I, L, R) (0, 0) Φ := by
  have lp : ∀ (k i : Nat) (x2 x3 : Int32), x3.toInt = i → i + k = 5 → sm_wp sm_P S d 2 1 [.ref 12, .int x1, .int x2, .int x3] [] (xLay, I, L, R) (0, 0) Φ := by
    intro k
    induction k with
    | zero =>
      intro i x2 x3 h3 hk
      refine pw12_12_X0_answersOf_1 eA ⟨fun _ => h _, fun c => ?_⟩
      have c := kl_nle c
      omega
    | succ k ih =>
      intro i x2 x3 h3 hk
      have s3 := ml_in1 (x := x3) (by omega)
      have v3 : vp_in x3 sm_withyes.length := by rw [wy5]; exact kl_in (by omega) (by omega)
      exact pw12_12_X0_answersOf_1 eA ⟨fun _ => h _, fun _ => ⟨fun _ => ⟨fun _ => ih (i + 1) _ _ (by omega) (by omega), fun _ => ⟨v3, fun n1 _ => ih (i + 1) _ _ (by omega) (by omega)⟩⟩, fun _ => ⟨v3, fun n3 _ => ⟨fun _ => ih (i + 1) _ _ (by omega) (by omega), fun _ => ⟨v3, fun n4 _ => ih (i + 1) _ _ (by omega) (by omega)⟩⟩⟩⟩⟩
  exact pw12_12_X0_answersOf_0 eA (lp 5 0 _ 0 kl_0 (by omega))
theorem cl12_12 {x1 x2 : Int32} (eA : kA12_12 R = R) (b1 : 0 ≤ x1.toInt ∧ x1.toInt ≤ 64) (h : ∀ r, Φ (some (.int r), (xLay, I, L, R))) : sm_wp sm_P S d 3 0 [.ref 103, .int x1, .int x2] [] (xLay, I, L, R) (0, 0) Φ := by
  have lp : ∀ (k i : Nat) (x3 x4 : Int32), x4.toInt = i → i + k = 64 → sm_wp sm_P S d 3 1 [.ref 103, .int x1, .int x2, .int x3, .int x4] [] (xLay, I, L, R) (0, 0) Φ := by
    intro k
    induction k with
    | zero =>
      intro i x3 x4 h4 hk
      refine pw12_12_X0_countLeft_1 eA ⟨fun _ => h _, fun c => ?_⟩
      have c := kl_nle c
      omega
    | succ k ih =>
      intro i x3 x4 h4 hk
      have s4 := ml_in1 (x := x4) (by omega)
      have v4 : vp_in x4 64 := kl_in (by omega) (by omega)
      exact pw12_12_X0_countLeft_1 eA ⟨fun _ => h _, fun _ => ⟨fun _ => h _, fun _ => ⟨v4, fun _ => ih (i + 1) _ _ (by omega) (by omega), fun _ => ih (i + 1) _ _ (by omega) (by omega)⟩⟩⟩
  exact pw12_12_X0_countLeft_0 eA (lp 64 0 _ 0 kl_0 (by omega))
theorem af12_12_B {I J : sm_I} {L : sm_L} (k : as12_12 I L) (h : ∀ p q, p ≠ 104 → p ≠ 105 → ¬ (p = 103 ∧ q = 5) → J p q = I p q) : af12_12 I J ∧ as12_12 J L := by
  have af : af12_12 I J := fun p q _ _ _ a4 a5 a6 => h p q a4 a5 a6
  refine ⟨af, as12_12_k af (klv_cg (by decide) (as12_12_t af) (fun p j q => h p j (by omega) (by omega) (by omega)) (fun j _ a b _ _ => ?_) k.2.2) k⟩
  unfold nT
  rw [h 76 _ (by omega) (by omega) (by omega)]
theorem cs12_12 {D : Nat} (eA : kA12_12 R = R) (D9 : 9 ≤ D) (b4 : 0 ≤ (I 12 4).toInt ∧ (I 12 4).toInt ≤ 5) (s0 : as12_12 I L) (h : ∀ J, af12_12 I J → as12_12 J L → Φ (none, (xLay, J, L, R))) : sm_wp sm_P S (D + 1) 4 0 [.ref 103, .ref 12] [] (xLay, I, L, R) (0, 0) Φ := by
  have h64 : (64 : Int32).toInt = 64 := by decide
  have h1024 : (1024 : Int32).toInt = 1024 := by decide
  -- the states
  have lp6 : ∀ (k i : Nat) (x2 x3 : Int32) (J : sm_I), x3.toInt = i → i + k = 1024 → 0 ≤ x2.toInt ∧ x2.toInt ≤ 64 → af12_12 I J → as12_12 J L → sm_wp sm_P S (D + 1) 4 6 [.ref 103, .ref 12, .int x2, .int x3] [] (xLay, J, L, R) (0, 0) Φ := by
    intro k
    induction k with
    | zero =>
      intro i x2 x3 J h3 hk b2 f s
      refine pw12_12_X0_countStates_6 eA ⟨fun _ => h J f s, fun c => ?_⟩
      have c := kl_nle c
      rw [h1024] at c
      omega
    | succ k ih =>
      intro i x2 x3 J h3 hk b2 f s
      have s3 := ml_in1 (x := x3) (by omega)
      refine pw12_12_X0_countStates_6 eA ⟨fun c => ?_, fun _ => ao12_12 eA (by rw [f 12 4 (by omega) (by omega) (by omega) (by omega) (by omega) (by omega)]; exact b4) (fun r => ⟨r, J, L, rfl, cl12_12 eA b2 (fun r6 => ⟨r6, J, L, rfl, kl_in (by omega) (by omega), fun I7 e7 => ?_⟩)⟩)⟩
      · have c := kl_le.mp c
        rw [h1024] at c
        omega
      obtain ⟨a1, a2⟩ := af12_12_B (J := I7) s (fun p q q1 q2 q3 => by rw [e7, en_up_ne _ _ _ _ (by omega)])
      exact ih (i + 1) _ _ I7 (by omega) (by omega) b2 (af12_12_tr f a1) a2
  -- the WAYS
  have lp3 : ∀ (k i : Nat) (x2 x3 : Int32) (J : sm_I), x3.toInt = i → (i + k : Nat) = x2.toInt → x2.toInt ≤ 64 → x2.toInt ≤ (KF 12 I).2.2.2.1 → af12_12 I J → as12_12 J L → sm_wp sm_P S (D + 1) 4 3 [.ref 103, .ref 12, .int x2, .int x3] [] (xLay, J, L, R) (0, 0) Φ := by
    intro k
    induction k with
    | zero =>
      intro i x2 x3 J h3 hk b2 bf f s
      refine pw12_12_X0_countStates_3 eA ⟨fun _ => lp6 1024 0 _ 0 J kl_0 (by omega) ⟨by omega, b2⟩ f s, fun c => ?_⟩
      have c := kl_nle c
      omega
    | succ k ih =>
      intro i x2 x3 J h3 hk b2 bf f s
      have s3 := ml_in1 (x := x3) (by omega)
      have eK := KF_cg (Q := 12) (by decide) (as12_12_t f)
      have v3 : vp_in x3 64 := kl_in (by omega) (by omega)
      refine pw12_12_X0_countStates_3 eA ⟨fun c => ?_, fun _ => bw12_12 (w := i) eA (by omega) s (by rw [eK]; omega) h3 (fun J2 f2 s2 => ⟨_, J2, L, rfl, v3, fun I4 e4 => ?_⟩)⟩
      · have c := kl_le.mp c
        omega
      have o4 : ∀ p q, p ≠ 104 → I4 p q = J2 p q := fun p q a => by rw [e4, en_up_ne _ _ _ _ (by omega)]
      obtain ⟨a4, s4⟩ := af12_12_B (J := I4) s2 (fun p q q1 _ _ => o4 p q q1)
      obtain ⟨l1, l2, l3, -, -⟩ := as12_12_l s4
      refine spr12_12 (n := kn 12 I4) eA l2 v3 5 0 (kys 12 I4).length D 0 _ _ I4 _ (by omega) (by omega) kl_0 l3 (by omega) s4.2.2.1 (fun J5 f5 => ⟨J5, L, rfl, ?_⟩)
      have a5 : af12_12 I4 J5 := fun p q q1 q2 q3 q4 q5 q6 => f5 p q (by omega) q4
      have s5 : as12_12 J5 L := as12_12_k a5 (klv_cg (by decide) (as12_12_t a5) (fun p j q => f5 p j (by omega) (by omega)) (fun j hj a b ha hb => sf12_12_T f5 hj a b ha hb) s4.2.2) s4
      exact ih (i + 1) _ _ J5 (by omega) (by omega) b2 bf (af12_12_tr f (af12_12_tr f2 (af12_12_tr a4 a5))) s5
  obtain ⟨-, -, -, l4, l5⟩ := as12_12_l s0
  refine pw12_12_X0_countStates_0 eA ⟨fun _ n1 e1 n2 e2 => ?_, fun _ => h I (fun _ _ _ _ _ _ _ _ => rfl) s0⟩
  have q1 : n1 = I 74 14 := by rw [e1, en_up_ne _ _ _ _ (by omega)]
  obtain ⟨a1, s1⟩ := af12_12_B (J := sm_up I 103 5 (1 : Int32)) s0 (fun p q _ _ q3 => en_up_ne _ _ _ _ q3)
  have b2 : 0 ≤ n2.toInt ∧ n2.toInt ≤ 64 ∧ n2.toInt ≤ (KF 12 I).2.2.2.1 := by
    rw [e2, q1]
    by_cases c : (64 : Int32) < I 74 14
    · have c' := Int32.lt_iff_toInt_lt.mp c
      rw [h64] at c'
      rw [if_pos c, h64]
      omega
    · have c' : ¬ (64 : Int) < (I 74 14).toInt := fun q => c (Int32.lt_iff_toInt_lt.mpr (by rw [h64]; exact q))
      rw [if_neg c]
      omega
  exact lp3 n2.toInt.toNat 0 n2 0 _ kl_0 (by omega) b2.2.1 b2.2.2 a1 s1
end
end
section
/-! the class's asking leaves the levels of a WAY; told = 12, asked = 49 (wip/pe/mka1.py) -/
theorem kGA12_49_l : ∀ t, t ∈ kG12_74l → kA12_49l.find? (fun s => Nat.beq s.1 t.1 && Nat.beq s.2.1 t.2.1) = some t := by decide +kernel
theorem kGA12_49 (R : sm_R) : kG12_74 (kA12_49 R) = kA12_49 R := by
  funext x j
  unfold kG12_74
  split
  · next t ht =>
    have mem := List.mem_of_find?_eq_some ht
    have pr := List.find?_some ht
    obtain ⟨p1, p2⟩ := Bool.and_eq_true_iff.mp pr
    have e1 : t.1 = x := Nat.eq_of_beq_eq_true p1
    have e2 : t.2.1 = j := Nat.eq_of_beq_eq_true p2
    rw [← e1, ← e2]
    unfold kA12_49
    rw [kGA12_49_l t mem]
  · rfl
theorem kA12_49_r : ∀ t, t ∈ kA12_49l → (t.1 = 0 ∧ t.2.1 = 9 ∧ t.2.2 = 12) ∨ (t.1 = 74 ∧ t.2.1 = 4 ∧ t.2.2 = 12) ∨ en_refs kl_tb t.1 t.2.1 = [t.2.2] := by decide +kernel
theorem kA12_49_eq {w : sm_W} (hm : en_mem kl_tb klX w) (h : w.2.2.2 0 9 = some 12) (h2 : w.2.2.2 74 4 = some 12) : kA12_49 w.2.2.2 = w.2.2.2 := by
  funext x j
  unfold kA12_49
  split
  · next t ht =>
    have mem := List.mem_of_find?_eq_some ht
    have pr := List.find?_some ht
    obtain ⟨p1, p2⟩ := Bool.and_eq_true_iff.mp pr
    have e1 : t.1 = x := Nat.eq_of_beq_eq_true p1
    have e2 : t.2.1 = j := Nat.eq_of_beq_eq_true p2
    rcases kA12_49_r t mem with ⟨q1, q2, q3⟩ | ⟨q1, q2, q3⟩ | q
    · rw [← e1, ← e2, q1, q2, q3]; exact h.symm
    · rw [← e1, ← e2, q1, q2, q3]; exact h2.symm
    · obtain ⟨a, g1, g2⟩ := hm.2.2.1 t.1 t.2.1 (by rw [q]; exact List.cons_ne_nil _ _)
      rw [q] at g1
      rw [← e1, ← e2, g2, List.mem_singleton.mp g1]
  · rfl
section
variable {S : sm_C} {d : Nat} {Φ : sm_Z → Prop} {I : sm_I} {L : sm_L} {R : sm_R}
theorem aw12_49 {n lev D : Nat} {x2 x3 x4 : Int32} (eA : kA12_49 R = R) (D3 : 3 ≤ D) (B : g12_74_B I n) (hl : (lev + 1) * (n * n) + n * n ≤ 7381) (l1 : lev ≤ 80) (h3 : x3.toInt = lev) (q0 : 0 ≤ x2.toInt) (q5 : x2.toInt < 5) (h : ∀ r J, (r = 0 ∨ r = 1) → g12_74_c n (lev + 1) I J → Φ (some (.int r), (xLay, J, L, R))) : sm_wp sm_P S D 0 0 [.ref 103, .ref 49, .int x2, .int x3, .int x4] [] (xLay, I, L, R) (0, 0) Φ := by
  have eG : kG12_74 R = R := by rw [← eA, kGA12_49]
  obtain ⟨d, rfl⟩ : ∃ d, D = d + 3 := ⟨D - 3, by omega⟩
  have v : vp_in x2 5 := kl_in q0 q5
  have s3 : (x3 + 1).toInt = ((lev + 1 : Nat) : Int) := by rw [ml_in1 (by omega), h3]; omega
  refine pw12_49_X0_answer_0 (d := d + 2) eA ⟨v, v, cpW12 (d := d + 1) eG B hl (by omega) h3 (fun J c e => ⟨J, L, rfl, ?_⟩)⟩
  obtain ⟨B2, -⟩ := g12_74_Bc c B
  exact ⟨fun _ => ⟨v, v, bwW12 (d := d) eG B2 hl (by omega) s3 (fun r J2 r01 c2 => ⟨r, J2, L, rfl, r01, h r J2 r01 (g12_74_ct c c2)⟩)⟩, fun _ => ⟨fun _ => ⟨v, fun n11 e11 n12 e12 n13 e13 => twW12 (d := d + 1) eG B2 hl (by omega) s3 (fun r J2 r01 c2 => ⟨r, J2, L, rfl, r01, h r J2 r01 (g12_74_ct c c2)⟩)⟩, fun _ => ⟨v, fun n4 e4 n5 e5 n6 e6 => twW12 (d := d + 1) eG B2 hl (by omega) s3 (fun r J2 r01 c2 => ⟨r, J2, L, rfl, r01, h r J2 r01 (g12_74_ct c c2)⟩)⟩⟩⟩
/-- what is above a level may change -/
def lf12_49 (n lev : Nat) (I J : sm_I) : Prop := ∀ p q, ¬ (p = 76 ∧ (lev + 1) * (n * n) ≤ q) → J p q = I p q
theorem lf12_49_c {n lev : Nat} {I J : sm_I} (h : g12_74_c n (lev + 1) I J) : lf12_49 n lev I J := fun p q a => h p q (fun w => a ⟨w.1, w.2.1⟩)
theorem lf12_49_s {n lev : Nat} {I J : sm_I} (h : lf12_49 n (lev + 1) I J) : lf12_49 n lev I J := fun p q a => h p q (fun w => a ⟨w.1, by
  have := w.2
  rw [Nat.succ_mul] at this
  omega⟩)
theorem lf12_49_t {n lev : Nat} {I J K : sm_I} (a : lf12_49 n lev I J) (b : lf12_49 n lev J K) : lf12_49 n lev I K := fun p q h => (b p q h).trans (a p q h)
theorem lf12_49_T {n lev j : Nat} {I J : sm_I} (a : lf12_49 n lev I J) (hj : j ≤ lev) : ∀ u v, u < n → v < n → g12_74_T J n j u v = g12_74_T I n j u v := fun u v hu hv => by
  have tl := tix_lt hu hv
  unfold g12_74_T
  rw [a 76 _ (fun q => ?_)]
  have q := q.2
  unfold tix at q
  have := Nat.mul_le_mul_right (n * n) (show j + 1 ≤ lev + 1 by omega)
  rw [Nat.succ_mul] at this
  omega
theorem lf12_49_B {n lev : Nat} {I J : sm_I} (a : lf12_49 n lev I J) (B : g12_74_B I n) : g12_74_B J n := by
  obtain ⟨b1, b2, b3, b4, b5⟩ := B
  exact ⟨by rw [a 75 4 (by omega)]; exact b1, b2, b3, by rw [a 75 5 (by omega)]; exact b4, fun i hi => by rw [a 77 i (by omega), a 78 i (by omega), a 79 i (by omega)]; exact b5 i hi⟩
theorem isL12_49 {n : Nat} {x4 x5 : Int32} (eA : kA12_49 R = R) (n11 : n ≤ 11) : ∀ (m q lev D : Nat) (x2 x3 : Int32) (I : sm_I) (Φ : sm_Z → Prop), q + m = 5 → m + 4 ≤ D → x2.toInt = q → x3.toInt = lev → lev + m ≤ 60 → g12_74_B I n → (∀ r J, (r = 0 ∨ r = 1) → lf12_49 n lev I J → Φ (some (.int r), (xLay, J, L, R))) → sm_wp sm_P S D 7 0 [.ref 103, .ref 49, .int x2, .int x3, .int x4, .int x5] [] (xLay, I, L, R) (0, 0) Φ := by
  have h5 : (5 : Int32).toInt = 5 := by decide
  intro m
  induction m with
  | zero =>
    intro q lev D x2 x3 I Φ hq hD h2 h3 hl B h
    obtain ⟨d, rfl⟩ : ∃ d, D = d + 1 := ⟨D - 1, by omega⟩
    have e : Φ (some (.int 1), (xLay, I, L, R)) := h 1 I (Or.inr rfl) (fun _ _ _ => rfl)
    exact pw12_49_X0_isLeft_0 eA ⟨fun _ => e, fun _ => ⟨fun c => absurd (Int32.lt_iff_toInt_lt.mp c) (by rw [h5]; omega), fun _ => e⟩⟩
  | succ m ih =>
    intro q lev D x2 x3 I Φ hq hD h2 h3 hl B h
    obtain ⟨d, rfl⟩ : ∃ d, D = d + 1 := ⟨D - 1, by omega⟩
    have e : Φ (some (.int 1), (xLay, I, L, R)) := h 1 I (Or.inr rfl) (fun _ _ _ => rfl)
    have s2 : (x2 + 1).toInt = ((q + 1 : Nat) : Int) := by rw [ml_in1 (by omega), h2]; omega
    have s3 : (x3 + 1).toInt = ((lev + 1 : Nat) : Int) := by rw [ml_in1 (by omega), h3]; omega
    have cap : (lev + 1) * (n * n) + n * n ≤ 7381 := by
      have nn : n * n ≤ 11 * 11 := Nat.mul_le_mul n11 n11
      have a : (lev + 1) * (n * n) ≤ 60 * (11 * 11) := Nat.mul_le_mul (by omega) nn
      omega
    -- the last block
    have b18 : ∀ (J : sm_I) (s : Int32), (s = 0 ∨ s = 1) → lf12_49 n lev I J → sm_wp sm_P S (d + 1) 7 18 [] [.int s] (xLay, J, L, R) (0, 0) Φ := fun J s s01 f => pw12_49_X0_isLeft_18 eA ⟨s01, h s J s01 f⟩
    have b14 : ∀ J : sm_I, lf12_49 n lev I J → sm_wp sm_P S (d + 1) 7 14 [.ref 103, .ref 49, .int x2, .int x3, .int x4, .int x5] [] (xLay, J, L, R) (0, 0) Φ := fun J f => by
      refine pw12_49_X0_isLeft_14 eA (aw12_49 eA (by omega) (lf12_49_B f B) cap (by omega) h3 (by omega) (by omega) (fun r J2 r01 c => ⟨r, J2, L, rfl, fun _ => b18 J2 0 (Or.inl rfl) (lf12_49_t f (lf12_49_c c)), fun r1 => ?_⟩))
      have f2 := lf12_49_t f (lf12_49_c c)
      exact ih (q + 1) (lev + 1) d _ _ J2 _ (by omega) (by omega) s2 s3 (by omega) (lf12_49_B f2 B) (fun r3 J3 r301 f3 => ⟨r3, J3, L, rfl, fun _ => b18 J3 0 (Or.inl rfl) (lf12_49_t f2 (lf12_49_s f3)), fun _ => b18 J3 1 (Or.inr rfl) (lf12_49_t f2 (lf12_49_s f3))⟩)
    refine pw12_49_X0_isLeft_0 eA ⟨fun _ => e, fun _ => ⟨fun _ => ⟨fun _ => ⟨fun _ => ?_, fun _ => ?_⟩, fun _ => ?_⟩, fun _ => e⟩⟩
    · exact ih (q + 1) lev d _ _ I _ (by omega) (by omega) s2 h3 (by omega) B (fun r J r01 f => ⟨r, J, L, rfl, r01, h r J r01 f⟩)
    · refine aw12_49 eA (by omega) B cap (by omega) h3 (by omega) (by omega) (fun r J r01 c => ⟨r, J, L, rfl, fun _ => b14 J (lf12_49_c c), fun r1 => ?_⟩)
      have f2 := lf12_49_c c
      exact ih (q + 1) (lev + 1) d _ _ J _ (by omega) (by omega) s2 s3 (by omega) (lf12_49_B f2 B) (fun r3 J3 r301 f3 => ⟨r3, J3, L, rfl, fun _ => b14 J3 (lf12_49_t f2 (lf12_49_s f3)), fun _ => h 1 J3 (Or.inr rfl) (lf12_49_t f2 (lf12_49_s f3))⟩)
    · refine aw12_49 eA (by omega) B cap (by omega) h3 (by omega) (by omega) (fun r J r01 c => ⟨r, J, L, rfl, fun _ => h 0 J (Or.inl rfl) (lf12_49_c c), fun r1 => ?_⟩)
      have f2 := lf12_49_c c
      exact ih (q + 1) (lev + 1) d _ _ J _ (by omega) (by omega) s2 s3 (by omega) (lf12_49_B f2 B) (fun r3 J3 r301 f3 => ⟨r3, J3, L, rfl, fun _ => h 0 J3 (Or.inl rfl) (lf12_49_t f2 (lf12_49_s f3)), fun _ => h 1 J3 (Or.inr rfl) (lf12_49_t f2 (lf12_49_s f3))⟩)
/-- what the asking may change of a state that was gone through -/
def af12_49 (I J : sm_I) : Prop := ∀ p q, p ≠ 76 → p ≠ 81 → ¬ (p = 74 ∧ q = 6) → p ≠ 104 → p ≠ 105 → ¬ (p = 103 ∧ q = 5) → J p q = I p q
def as12_49 (I : sm_I) (L : sm_L) : Prop := kW 12 I ∧ kall 12 (kys 12 I) (KF 12 I) I L ∧ klv 12 I
theorem as12_49_t {I J : sm_I} (f : af12_49 I J) : ∀ p j, (12 ≤ p ∧ p < 12 + 25) ∨ p = 37 ∨ (41 ≤ p ∧ p ≤ 44) → J p j = I p j := fun p j q => f p j (by omega) (by omega) (by omega) (by omega) (by omega) (by omega)
theorem as12_49_k {I J : sm_I} {L : sm_L} (f : af12_49 I J) (k : klv 12 J) (s : as12_49 I L) : as12_49 J L := by
  obtain ⟨s1, s2, -⟩ := s
  have t := as12_49_t f
  refine ⟨kW_cg (by decide) t s1, ?_, k⟩
  rw [kys_cg t, KF_cg (by decide) t]
  exact kall_cg (fun p j q => f p j (by omega) (by omega) (by omega) (by omega) (by omega) (by omega)) (fun _ => rfl) s2
theorem as12_49_l {I : sm_I} {L : sm_L} (s : as12_49 I L) : (kys 12 I).length ≤ 55 ∧ kn 12 I ≤ 11 ∧ (I 74 11).toInt = (kys 12 I).length ∧ (I 74 14).toInt = (KF 12 I).2.2.2.1 ∧ (KF 12 I).2.2.2.1 ≤ 1000 := by
  obtain ⟨hk, ka, lv⟩ := s
  have := kitL_len (set := kdb 12 I) (s := (I 12 3).toNatClampNeg) (m := (I 12 5).toNatClampNeg)
  have := kl_nat hk.2.1.1
  have := kl_nat hk.2.2.1.1
  have := hk.2.1.2
  have := hk.2.2.1.2
  refine ⟨by unfold kys; omega, lv.1.2.2.1, ka.1.1, ka.2.1.2.1, GT_wf.2.2.2.2.1.1⟩
/-- a WAY brought -/
theorem bw12_49 {D w : Nat} {x : Int32} (eA : kA12_49 R = R) (D4 : 4 ≤ D) (s : as12_49 I L) (wf : w < (KF 12 I).2.2.2.1) (hx : x.toInt = w) (h : ∀ J, af12_49 I J → as12_49 J L → Φ (some (.int 1), (xLay, J, L, R))) : sm_wp sm_P S D 222 0 [.ref 74, .ref 45, .int x] [] (xLay, I, L, R) (0, 0) Φ := by
  have eG : kG12_74 R = R := by rw [← eA, kGA12_49]
  obtain ⟨d, rfl⟩ : ∃ d, D = d + 4 := ⟨D - 4, by omega⟩
  rw [← eG] at h ⊢
  refine br12 s.1 s.2.1 s.2.2 wf hx (fun J f b => ?_)
  have af : af12_49 I J := fun p q a1 a2 a3 _ _ _ => f p q a1 a2 a3
  exact h J af (as12_49_k af (klv_br (by decide) f b s.2.2) s)
/-- levels above a WAY's are of no account -/
theorem al12_49 {I J : sm_I} {L : sm_L} (s : as12_49 I L) (f : lf12_49 (kn 12 I) (kys 12 I).length I J) : af12_49 I J ∧ as12_49 J L := by
  have af : af12_49 I J := fun p q a1 a2 a3 _ _ _ => f p q (by omega)
  refine ⟨af, as12_49_k af (klv_cg (by decide) (as12_49_t af) (fun p j q => f p j (by omega)) (fun j hj a b ha hb => lf12_49_T f hj a b ha hb) s.2.2) s⟩
theorem af12_49_tr {I J K : sm_I} (a : af12_49 I J) (b : af12_49 J K) : af12_49 I K := fun p q a1 a2 a3 a4 a5 a6 => (b p q a1 a2 a3 a4 a5 a6).trans (a p q a1 a2 a3 a4 a5 a6)
/-- leftWith -/
theorem lw12_49 {D : Nat} {I0 : sm_I} {x2 x3 : Int32} (eA : kA12_49 R = R) (D9 : 9 ≤ D) (h : ∀ r J, af12_49 I0 J → as12_49 J L → Φ (some (.int r), (xLay, J, L, R))) : ∀ (m w : Nat) (x4 x5 : Int32) (J : sm_I), x5.toInt = w → w + m = (KF 12 I0).2.2.2.1 → af12_49 I0 J → as12_49 J L → sm_wp sm_P S (D + 1) 8 1 [.ref 103, .ref 49, .int x2, .int x3, .int x4, .int x5] [] (xLay, J, L, R) (0, 0) Φ := by
  intro m
  induction m with
  | zero =>
    intro w x4 x5 J h5 hm f s
    obtain ⟨-, -, -, l4, -⟩ := as12_49_l s
    rw [KF_cg (by decide) (as12_49_t f)] at l4
    refine pw12_49_X0_leftWith_1 eA ⟨fun _ => h _ J f s, fun c => ?_⟩
    have c := kl_nle c
    rw [l4] at c
    omega
  | succ m ih =>
    intro w x4 x5 J h5 hm f s
    obtain ⟨-, -, -, l4, l5⟩ := as12_49_l s
    have eK := KF_cg (Q := 12) (by decide) (as12_49_t f)
    rw [eK] at l4 l5
    have s5 := ml_in1 (x := x5) (by omega)
    refine pw12_49_X0_leftWith_1 eA ⟨fun c => ?_, fun _ => bw12_49 (w := w) eA (by omega) s (by rw [eK]; omega) h5 (fun J2 f2 s2 => ⟨_, J2, L, rfl, ?_⟩)⟩
    · have c := kl_le.mp c
      rw [l4] at c
      omega
    obtain ⟨l1, l2, l3, -, -⟩ := as12_49_l s2
    refine isL12_49 (n := kn 12 J2) eA l2 5 0 (kys 12 J2).length D 0 _ J2 _ (by omega) (by omega) kl_0 l3 (by omega) s2.2.2.1 (fun r J3 r01 f3 => ?_)
    obtain ⟨a3, s3⟩ := al12_49 s2 f3
    have f' := af12_49_tr f (af12_49_tr f2 a3)
    exact ⟨r, J3, L, rfl, fun _ => ih (w + 1) _ _ J3 (by omega) (by omega) f' s3, fun _ => ih (w + 1) _ _ J3 (by omega) (by omega) f' s3⟩
/-- answered -/
theorem ad12_49 {D : Nat} {I0 : sm_I} {x2 x3 : Int32} (eA : kA12_49 R = R) (D9 : 5 ≤ D) (q0 : 0 ≤ x2.toInt) (q5 : x2.toInt < 5) (h : ∀ r J, af12_49 I0 J → as12_49 J L → Φ (some (.int r), (xLay, J, L, R))) : ∀ (m w : Nat) (x4 x5 : Int32) (J : sm_I), x5.toInt = w → w + m = (KF 12 I0).2.2.2.1 → af12_49 I0 J → as12_49 J L → sm_wp sm_P S (D + 1) 1 1 [.ref 103, .ref 49, .int x2, .int x3, .int x4, .int x5] [] (xLay, J, L, R) (0, 0) Φ := by
  have eG : kG12_74 R = R := by rw [← eA, kGA12_49]
  have v : vp_in x2 5 := kl_in q0 q5
  intro m
  induction m with
  | zero =>
    intro w x4 x5 J h5 hm f s
    obtain ⟨-, -, -, l4, -⟩ := as12_49_l s
    rw [KF_cg (by decide) (as12_49_t f)] at l4
    refine pw12_49_X0_answered_1 eA ⟨fun _ => h _ J f s, fun c => ?_⟩
    have c := kl_nle c
    rw [l4] at c
    omega
  | succ m ih =>
    intro w x4 x5 J h5 hm f s
    obtain ⟨-, -, -, l4, l5⟩ := as12_49_l s
    have eK := KF_cg (Q := 12) (by decide) (as12_49_t f)
    rw [eK] at l4 l5
    have s5 := ml_in1 (x := x5) (by omega)
    refine pw12_49_X0_answered_1 eA ⟨fun c => ?_, fun _ => bw12_49 (w := w) eA (by omega) s (by rw [eK]; omega) h5 (fun J2 f2 s2 => ⟨_, J2, L, rfl, v, v, ?_⟩)⟩
    · have c := kl_le.mp c
      rw [l4] at c
      omega
    obtain ⟨l1, l2, l3, -, -⟩ := as12_49_l s2
    have f' := af12_49_tr f f2
    have nx : ∀ a : Int32, sm_wp sm_P S (D + 1) 1 17 [.ref 103, .ref 49, .int x2, .int x3, .int a, .int x5] [] (xLay, J2, L, R) (0, 0) Φ := fun a => pw12_49_X0_answered_17 eA (ih (w + 1) _ _ J2 (by omega) (by omega) f' s2)
    have b12 : ∀ a b : Int32, sm_wp sm_P S (D + 1) 1 12 [.ref 103, .ref 49, .int x2, .int x3, .int x4, .int x5, .int a] [.int b] (xLay, J2, L, R) (0, 0) Φ := fun a b => pw12_49_X0_answered_12 eA ⟨fun _ => ⟨fun _ => nx _, fun _ => nx _⟩, fun _ => ⟨fun _ => nx _, fun _ => nx _⟩⟩
    have b8 : ∀ a b c e f : Int32, sm_wp sm_P S (D + 1) 1 8 [.ref 103, .ref 49, .int x2, .int x3, .int x4, .int x5, .int a, .int b, .int c, .int e] [.int f] (xLay, J2, L, R) (0, 0) Φ := fun a b c e f => pw12_49_X0_answered_8 eA ⟨fun _ => b12 _ _, fun _ => ⟨fun _ => b12 _ _, fun _ => b12 _ _⟩⟩
    obtain ⟨D', rfl⟩ : ∃ D', D = D' + 3 := ⟨D - 3, by omega⟩
    refine dwW12 (d := D') (lev := (kys 12 J2).length) eG s2.2.2.1 (cap12 l2 l1) (by omega) l3 (fun r => ⟨r, J2, L, rfl, v, v, dwW12 (d := D') (lev := (kys 12 J2).length) eG s2.2.2.1 (cap12 l2 l1) (by omega) l3 (fun r9 => ⟨r9, J2, L, rfl, v, v, fun _ => b8 _ _ _ _ _, fun _ => ⟨fun _ => b8 _ _ _ _ _, fun _ => ⟨fun _ => b8 _ _ _ _ _, fun _ => b8 _ _ _ _ _⟩⟩⟩)⟩)
/-- spread -/
def sf12_49 (n lev : Nat) (I J : sm_I) : Prop := ∀ p q, ¬ (p = 76 ∧ (lev + 1) * (n * n) ≤ q) → p ≠ 104 → J p q = I p q
theorem sf12_49_l {n lev : Nat} {I J : sm_I} (h : lf12_49 n lev I J) : sf12_49 n lev I J := fun p q a _ => h p q a
theorem sf12_49_t {n lev : Nat} {I J K : sm_I} (a : sf12_49 n lev I J) (b : sf12_49 n lev J K) : sf12_49 n lev I K := fun p q h g => (b p q h g).trans (a p q h g)
theorem sf12_49_s {n lev : Nat} {I J : sm_I} (h : sf12_49 n (lev + 1) I J) : sf12_49 n lev I J := fun p q a b => h p q (fun w => a ⟨w.1, by
  have := w.2
  rw [Nat.succ_mul] at this
  omega⟩) b
theorem sf12_49_T {n lev j : Nat} {I J : sm_I} (a : sf12_49 n lev I J) (hj : j ≤ lev) : ∀ u v, u < n → v < n → g12_74_T J n j u v = g12_74_T I n j u v := fun u v hu hv => by
  have tl := tix_lt hu hv
  unfold g12_74_T
  rw [a 76 _ (fun q => ?_) (by omega)]
  have q := q.2
  unfold tix at q
  have := Nat.mul_le_mul_right (n * n) (show j + 1 ≤ lev + 1 by omega)
  rw [Nat.succ_mul] at this
  omega
theorem sf12_49_B {n lev : Nat} {I J : sm_I} (a : sf12_49 n lev I J) (B : g12_74_B I n) : g12_74_B J n := by
  obtain ⟨b1, b2, b3, b4, b5⟩ := B
  exact ⟨by rw [a 75 4 (by omega) (by omega)]; exact b1, b2, b3, by rw [a 75 5 (by omega) (by omega)]; exact b4, fun i hi => by rw [a 77 i (by omega) (by omega), a 78 i (by omega) (by omega), a 79 i (by omega) (by omega)]; exact b5 i hi⟩
theorem spr12_49 {n : Nat} {x2 : Int32} (eA : kA12_49 R = R) (n11 : n ≤ 11) (v2 : vp_in x2 64) : ∀ (m q lev D : Nat) (x3 x4 x5 : Int32) (I : sm_I) (Φ : sm_Z → Prop), q + m = 5 → m + 4 ≤ D → x3.toInt = q → x4.toInt = lev → lev + m ≤ 60 → g12_74_B I n → (∀ J, sf12_49 n lev I J → Φ (none, (xLay, J, L, R))) → sm_wp sm_P S D 10 0 [.ref 103, .ref 49, .int x2, .int x3, .int x4, .int x5] [] (xLay, I, L, R) (0, 0) Φ := by
  have h5 : (5 : Int32).toInt = 5 := by decide
  have h3' : (3 : Int32).toInt = 3 := by decide
  have o104 : ∀ (n lev : Nat) (I J : sm_I) (i : Nat) (x : Int32), J = sm_up I 104 i x → sf12_49 n lev I J := fun n lev I J i x e p q a b => by rw [e, en_up_ne _ _ _ _ (by omega)]
  intro m
  induction m with
  | zero =>
    intro q lev D x3 x4 x5 I Φ hq hD h3 h4 hl B h
    obtain ⟨d, rfl⟩ : ∃ d, D = d + 1 := ⟨D - 1, by omega⟩
    exact pw12_49_X0_spread_0 eA ⟨v2, fun _ => h I (fun _ _ _ _ => rfl), fun _ => ⟨fun _ => ⟨v2, fun n1 e1 => ⟨v2, fun I2 e2 => h I2 (o104 _ _ _ _ _ _ e2)⟩⟩, fun _ => ⟨fun c => absurd (Int32.lt_iff_toInt_lt.mp c) (by rw [h5]; omega), fun _ => ⟨v2, fun n1 e1 => ⟨v2, fun I2 e2 => h I2 (o104 _ _ _ _ _ _ e2)⟩⟩⟩⟩⟩
  | succ m ih =>
    intro q lev D x3 x4 x5 I Φ hq hD h3 h4 hl B h
    obtain ⟨d, rfl⟩ : ∃ d, D = d + 1 := ⟨D - 1, by omega⟩
    have s3 : (x3 + 1).toInt = ((q + 1 : Nat) : Int) := by rw [ml_in1 (by omega), h3]; omega
    have s4 : (x4 + 1).toInt = ((lev + 1 : Nat) : Int) := by rw [ml_in1 (by omega), h4]; omega
    have cap : (lev + 1) * (n * n) + n * n ≤ 7381 := by
      have nn : n * n ≤ 11 * 11 := Nat.mul_le_mul n11 n11
      have a : (lev + 1) * (n * n) ≤ 60 * (11 * 11) := Nat.mul_le_mul (by omega) nn
      omega
    have v3 : vp_in x3 sm_withyes.length := by rw [wy5]; exact kl_in (by omega) (by omega)
    have lp : ∀ (k i : Nat) (x6 : Int32) (J : sm_I), x6.toInt = i → i + k = 3 → sf12_49 n lev I J → sm_wp sm_P S (d + 1) 10 6 [.ref 103, .ref 49, .int x2, .int x3, .int x4, .int x5, .int x6] [] (xLay, J, L, R) (0, 0) Φ := by
      intro k
      induction k with
      | zero =>
        intro i x6 J h6 hk f
        refine pw12_49_X0_spread_6 eA ⟨fun _ => h J f, fun c => ?_⟩
        have c := kl_nle c
        rw [h3'] at c
        omega
      | succ k ihk =>
        intro i x6 J h6 hk f
        have s6 := ml_in1 (x := x6) (by omega)
        refine pw12_49_X0_spread_6 eA ⟨fun c => ?_, fun _ => aw12_49 eA (by omega) (sf12_49_B f B) cap (by omega) h4 (by omega) (by omega) (fun r J2 r01 c => ⟨r, J2, L, rfl, fun _ => ihk (i + 1) _ J2 (by omega) (by omega) (sf12_49_t f (sf12_49_l (lf12_49_c c))), fun r1 => ?_⟩)⟩
        · have c := kl_le.mp c
          rw [h3'] at c
          omega
        have f2 := sf12_49_t f (sf12_49_l (lf12_49_c c))
        refine ⟨fun _ => ⟨v3, fun n9 _ => ?_⟩, fun _ => ⟨v3, fun n9 _ => ?_⟩⟩
        · exact ih (q + 1) (lev + 1) d _ _ _ J2 _ (by omega) (by omega) s3 s4 (by omega) (sf12_49_B f2 B) (fun J3 f3 => ⟨J3, L, rfl, ihk (i + 1) _ J3 (by omega) (by omega) (sf12_49_t f2 (sf12_49_s f3))⟩)
        · exact ih (q + 1) (lev + 1) d _ _ _ J2 _ (by omega) (by omega) s3 s4 (by omega) (sf12_49_B f2 B) (fun J3 f3 => ⟨J3, L, rfl, ihk (i + 1) _ J3 (by omega) (by omega) (sf12_49_t f2 (sf12_49_s f3))⟩)
    exact pw12_49_X0_spread_0 eA ⟨v2, fun _ => h I (fun _ _ _ _ => rfl), fun _ => ⟨fun _ => ⟨v2, fun n1 e1 => ⟨v2, fun I2 e2 => h I2 (o104 _ _ _ _ _ _ e2)⟩⟩, fun _ => ⟨fun _ => lp 3 0 0 I kl_0 (by omega) (fun _ _ _ _ => rfl), fun _ => ⟨v2, fun n1 e1 => ⟨v2, fun I2 e2 => h I2 (o104 _ _ _ _ _ _ e2)⟩⟩⟩⟩⟩
/-- countStates -/
theorem ao12_49 {x1 : Int32} (eA : kA12_49 R = R) (b4 : 0 ≤ (I 49 4).toInt ∧ (I 49 4).toInt ≤ 5) (h : ∀ r, Φ (some (.int r), (xLay, I, L, R))) : sm_wp sm_P S d 2 0 [.ref 49, .int x1] [] (xLay, I, L, R) (0, 0) Φ := by
  have lp : ∀ (k i : Nat) (x2 x3 : Int32), x3.toInt = i → i + k = 5 → sm_wp sm_P S d 2 1 [.ref 49, .int x1, .int x2, .int x3] [] (xLay, I, L, R) (0, 0) Φ := by
    intro k
    induction k with
    | zero =>
      intro i x2 x3 h3 hk
      refine pw12_49_X0_answersOf_1 eA ⟨fun _ => h _, fun c => ?_⟩
      have c := kl_nle c
      omega
    | succ k ih =>
      intro i x2 x3 h3 hk
      have s3 := ml_in1 (x := x3) (by omega)
      have v3 : vp_in x3 sm_withyes.length := by rw [wy5]; exact kl_in (by omega) (by omega)
      exact pw12_49_X0_answersOf_1 eA ⟨fun _ => h _, fun _ => ⟨fun _ => ⟨fun _ => ih (i + 1) _ _ (by omega) (by omega), fun _ => ⟨v3, fun n1 _ => ih (i + 1) _ _ (by omega) (by omega)⟩⟩, fun _ => ⟨v3, fun n3 _ => ⟨fun _ => ih (i + 1) _ _ (by omega) (by omega), fun _ => ⟨v3, fun n4 _ => ih (i + 1) _ _ (by omega) (by omega)⟩⟩⟩⟩⟩
  exact pw12_49_X0_answersOf_0 eA (lp 5 0 _ 0 kl_0 (by omega))
theorem cl12_49 {x1 x2 : Int32} (eA : kA12_49 R = R) (b1 : 0 ≤ x1.toInt ∧ x1.toInt ≤ 64) (h : ∀ r, Φ (some (.int r), (xLay, I, L, R))) : sm_wp sm_P S d 3 0 [.ref 103, .int x1, .int x2] [] (xLay, I, L, R) (0, 0) Φ := by
  have lp : ∀ (k i : Nat) (x3 x4 : Int32), x4.toInt = i → i + k = 64 → sm_wp sm_P S d 3 1 [.ref 103, .int x1, .int x2, .int x3, .int x4] [] (xLay, I, L, R) (0, 0) Φ := by
    intro k
    induction k with
    | zero =>
      intro i x3 x4 h4 hk
      refine pw12_49_X0_countLeft_1 eA ⟨fun _ => h _, fun c => ?_⟩
      have c := kl_nle c
      omega
    | succ k ih =>
      intro i x3 x4 h4 hk
      have s4 := ml_in1 (x := x4) (by omega)
      have v4 : vp_in x4 64 := kl_in (by omega) (by omega)
      exact pw12_49_X0_countLeft_1 eA ⟨fun _ => h _, fun _ => ⟨fun _ => h _, fun _ => ⟨v4, fun _ => ih (i + 1) _ _ (by omega) (by omega), fun _ => ih (i + 1) _ _ (by omega) (by omega)⟩⟩⟩
  exact pw12_49_X0_countLeft_0 eA (lp 64 0 _ 0 kl_0 (by omega))
theorem af12_49_B {I J : sm_I} {L : sm_L} (k : as12_49 I L) (h : ∀ p q, p ≠ 104 → p ≠ 105 → ¬ (p = 103 ∧ q = 5) → J p q = I p q) : af12_49 I J ∧ as12_49 J L := by
  have af : af12_49 I J := fun p q _ _ _ a4 a5 a6 => h p q a4 a5 a6
  refine ⟨af, as12_49_k af (klv_cg (by decide) (as12_49_t af) (fun p j q => h p j (by omega) (by omega) (by omega)) (fun j _ a b _ _ => ?_) k.2.2) k⟩
  unfold nT
  rw [h 76 _ (by omega) (by omega) (by omega)]
theorem cs12_49 {D : Nat} (eA : kA12_49 R = R) (D9 : 9 ≤ D) (b4 : 0 ≤ (I 49 4).toInt ∧ (I 49 4).toInt ≤ 5) (s0 : as12_49 I L) (h : ∀ J, af12_49 I J → as12_49 J L → Φ (none, (xLay, J, L, R))) : sm_wp sm_P S (D + 1) 4 0 [.ref 103, .ref 49] [] (xLay, I, L, R) (0, 0) Φ := by
  have h64 : (64 : Int32).toInt = 64 := by decide
  have h1024 : (1024 : Int32).toInt = 1024 := by decide
  -- the states
  have lp6 : ∀ (k i : Nat) (x2 x3 : Int32) (J : sm_I), x3.toInt = i → i + k = 1024 → 0 ≤ x2.toInt ∧ x2.toInt ≤ 64 → af12_49 I J → as12_49 J L → sm_wp sm_P S (D + 1) 4 6 [.ref 103, .ref 49, .int x2, .int x3] [] (xLay, J, L, R) (0, 0) Φ := by
    intro k
    induction k with
    | zero =>
      intro i x2 x3 J h3 hk b2 f s
      refine pw12_49_X0_countStates_6 eA ⟨fun _ => h J f s, fun c => ?_⟩
      have c := kl_nle c
      rw [h1024] at c
      omega
    | succ k ih =>
      intro i x2 x3 J h3 hk b2 f s
      have s3 := ml_in1 (x := x3) (by omega)
      refine pw12_49_X0_countStates_6 eA ⟨fun c => ?_, fun _ => ao12_49 eA (by rw [f 49 4 (by omega) (by omega) (by omega) (by omega) (by omega) (by omega)]; exact b4) (fun r => ⟨r, J, L, rfl, cl12_49 eA b2 (fun r6 => ⟨r6, J, L, rfl, kl_in (by omega) (by omega), fun I7 e7 => ?_⟩)⟩)⟩
      · have c := kl_le.mp c
        rw [h1024] at c
        omega
      obtain ⟨a1, a2⟩ := af12_49_B (J := I7) s (fun p q q1 q2 q3 => by rw [e7, en_up_ne _ _ _ _ (by omega)])
      exact ih (i + 1) _ _ I7 (by omega) (by omega) b2 (af12_49_tr f a1) a2
  -- the WAYS
  have lp3 : ∀ (k i : Nat) (x2 x3 : Int32) (J : sm_I), x3.toInt = i → (i + k : Nat) = x2.toInt → x2.toInt ≤ 64 → x2.toInt ≤ (KF 12 I).2.2.2.1 → af12_49 I J → as12_49 J L → sm_wp sm_P S (D + 1) 4 3 [.ref 103, .ref 49, .int x2, .int x3] [] (xLay, J, L, R) (0, 0) Φ := by
    intro k
    induction k with
    | zero =>
      intro i x2 x3 J h3 hk b2 bf f s
      refine pw12_49_X0_countStates_3 eA ⟨fun _ => lp6 1024 0 _ 0 J kl_0 (by omega) ⟨by omega, b2⟩ f s, fun c => ?_⟩
      have c := kl_nle c
      omega
    | succ k ih =>
      intro i x2 x3 J h3 hk b2 bf f s
      have s3 := ml_in1 (x := x3) (by omega)
      have eK := KF_cg (Q := 12) (by decide) (as12_49_t f)
      have v3 : vp_in x3 64 := kl_in (by omega) (by omega)
      refine pw12_49_X0_countStates_3 eA ⟨fun c => ?_, fun _ => bw12_49 (w := i) eA (by omega) s (by rw [eK]; omega) h3 (fun J2 f2 s2 => ⟨_, J2, L, rfl, v3, fun I4 e4 => ?_⟩)⟩
      · have c := kl_le.mp c
        omega
      have o4 : ∀ p q, p ≠ 104 → I4 p q = J2 p q := fun p q a => by rw [e4, en_up_ne _ _ _ _ (by omega)]
      obtain ⟨a4, s4⟩ := af12_49_B (J := I4) s2 (fun p q q1 _ _ => o4 p q q1)
      obtain ⟨l1, l2, l3, -, -⟩ := as12_49_l s4
      refine spr12_49 (n := kn 12 I4) eA l2 v3 5 0 (kys 12 I4).length D 0 _ _ I4 _ (by omega) (by omega) kl_0 l3 (by omega) s4.2.2.1 (fun J5 f5 => ⟨J5, L, rfl, ?_⟩)
      have a5 : af12_49 I4 J5 := fun p q q1 q2 q3 q4 q5 q6 => f5 p q (by omega) q4
      have s5 : as12_49 J5 L := as12_49_k a5 (klv_cg (by decide) (as12_49_t a5) (fun p j q => f5 p j (by omega) (by omega)) (fun j hj a b ha hb => sf12_49_T f5 hj a b ha hb) s4.2.2) s4
      exact ih (i + 1) _ _ J5 (by omega) (by omega) b2 bf (af12_49_tr f (af12_49_tr f2 (af12_49_tr a4 a5))) s5
  obtain ⟨-, -, -, l4, l5⟩ := as12_49_l s0
  refine pw12_49_X0_countStates_0 eA ⟨fun _ n1 e1 n2 e2 => ?_, fun _ => h I (fun _ _ _ _ _ _ _ _ => rfl) s0⟩
  have q1 : n1 = I 74 14 := by rw [e1, en_up_ne _ _ _ _ (by omega)]
  obtain ⟨a1, s1⟩ := af12_49_B (J := sm_up I 103 5 (1 : Int32)) s0 (fun p q _ _ q3 => en_up_ne _ _ _ _ q3)
  have b2 : 0 ≤ n2.toInt ∧ n2.toInt ≤ 64 ∧ n2.toInt ≤ (KF 12 I).2.2.2.1 := by
    rw [e2, q1]
    by_cases c : (64 : Int32) < I 74 14
    · have c' := Int32.lt_iff_toInt_lt.mp c
      rw [h64] at c'
      rw [if_pos c, h64]
      omega
    · have c' : ¬ (64 : Int) < (I 74 14).toInt := fun q => c (Int32.lt_iff_toInt_lt.mpr (by rw [h64]; exact q))
      rw [if_neg c]
      omega
  exact lp3 n2.toInt.toNat 0 n2 0 _ kl_0 (by omega) b2.2.1 b2.2.2 a1 s1
end
end
