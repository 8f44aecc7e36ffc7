/-! THE LAW: bears, walk, move, breaks, pick on both sides (wip/pe/mky1b.py) -/
section
variable {S : sm_C} {I : sm_I} {L : sm_L} {R : sm_R} {r : Int32}
theorem kl_rw {w : sm_W} (hm : en_mem kl_tb klX w) {p n : Nat} {q : Int × Int} (e : ∀ j, en_int kl_tb p j = bif Nat.blt j n then some q else none) (j : Nat) (hj : j < n) : q.1 ≤ (w.2.1 p j).toInt ∧ (w.2.1 p j).toInt ≤ q.2 := hm.2.1 p j q (by rw [e j, show Nat.blt j n = true from Nat.ble_eq_true_of_le hj]; rfl)
theorem wkr_v {a b : Int32} (h : wkr a b) : a = if b = -1 then -2 else b := by
  rcases h with ⟨h1, h2⟩ | ⟨h1, -, h3⟩
  · rw [if_pos h2]; exact h1
  · rw [if_neg (fun q => by rw [q] at h1; exact absurd h1 (by decide))]; exact h3
theorem bq_cg {h h' f f' t t' w w' : Nat → Int32} {j : Nat} (ef : f j = f' j) (et : t j = t' j) (e1 : h (f' j).toNatClampNeg = h' (f' j).toNatClampNeg) (e2 : h (t' j).toNatClampNeg = h' (t' j).toNatClampNeg) (hw : wkr (w j) (w' j)) : bq h f t w (fun w => w.toInt < 0) j ↔ bq h' f' t' w' (fun w => w = -1) j := by
  unfold bq
  rw [ef, et, e1, e2]
  rcases hw with ⟨h1, h2⟩ | ⟨h1, h2, h3⟩
  · exact ⟨fun q => ⟨q.1, q.2.1, Or.inl h2⟩, fun q => ⟨q.1, q.2.1, Or.inl (by show (w j).toInt < 0; rw [h1]; decide)⟩⟩
  · have n1 : ¬ (w j).toInt < 0 := by rw [h3]; omega
    have n2 : ¬ w' j = -1 := fun q => by rw [q] at h1; exact absurd h1 (by decide)
    constructor
    · rintro ⟨q1, q2, q3 | q3⟩
      · exact absurd q3 n1
      · exact ⟨q1, q2, Or.inr (by rw [← h3]; exact q3)⟩
    · rintro ⟨q1, q2, q3 | q3⟩
      · exact absurd q3 n2
      · exact ⟨q1, q2, Or.inr (by rw [h3]; exact q3)⟩
theorem q_un {qt : Nat} (h : R 0 9 = some qt) : ∀ q, R 0 9 = some q → q = qt := fun q g => Option.some.inj (g.symm.trans h)
theorem q_c46 (m : en_mem ml_tb mlX (xLay, I, L, R)) : 0 ≤ (I 107 46).toInt ∧ (I 107 46).toInt ≤ 45 := m.2.1 107 46 (0, 45) (by decide +kernel)
/-- bears -/
def bsK (qt : Nat) (I : sm_I) (n : Nat) (v : Int32) : Prop := BS (I (qt + 10) n).toNatClampNeg (fun c => (I (qt + 11) (4 * n + c)).toNatClampNeg) (fun c i => bst (I 38) (I (qt + 13) (12 * n + 3 * c + i)) (I (qt + 14) (12 * n + 3 * c + i))) (fun c i => bhd (I 38) (I (qt + 13) (12 * n + 3 * c + i)) (I (qt + 14) (12 * n + 3 * c + i)) (I (qt + 15) (12 * n + 3 * c + i)) (I (qt + 16) (12 * n + 3 * c + i))) v
def XbearsK (x : Int32) (I : sm_I) (L : sm_L) (R : sm_R) (r : Int32) (I1 : sm_I) (L1 : sm_L) (R1 : sm_R) : Prop := I1 = I ∧ L1 = L ∧ R1 = R ∧ ∀ qt, R 0 9 = some qt → (¬ (0 ≤ x.toInt ∧ x.toInt < (I qt 3).toInt) ∧ r = -1) ∨ (∃ n : Nat, x.toInt = n ∧ x.toInt < (I qt 3).toInt ∧ bsK qt I n r)
theorem bk_bears {x : Int32} (hI : lw_I I L R) : sm_wp sm_P S (57 + 2) 31 0 [.ref 0, .int x] [] (xLay, I, L, R) (0, 0) (fun z => ∃ (r : Int32) (I2 : sm_I) (L2 : sm_L) (R2 : sm_R), z = (some (.int r), (xLay, I2, L2, R2)) ∧ XbearsK x I L R r I2 L2 R2) := by
  obtain ⟨m, -, -, -, qt, qi, l, hrf, -⟩ := hI
  have un := q_un hrf.2.2.1
  have b := q_k3 m (qt := qt) (by have := hrf.1; omega)
  have hq : qt = 12 ∨ qt = 49 := by have := hrf.1; omega
  rcases hq with e | e <;> subst e
  · have e : kD12 R = R := kD12_eq (w := (xLay, I, L, R)) m hrf.2.2.1
    have g := b12_bears (S := S) (d := 57) (L := L) (R := R) (I := I) (x1 := x) (Φ := fun z => ∃ (r : Int32) (I2 : sm_I) (L2 : sm_L) (R2 : sm_R), z = (some (.int r), (xLay, I2, L2, R2)) ∧ XbearsK x I L R r I2 L2 R2) b.2 (kl_rw m (p := 22) (n := 10) (q := (0, 4)) (fun _ => rfl)) (kl_rw m (p := 23) (n := 40) (q := (0, 3)) (fun _ => rfl)) (kl_rw m (p := 25) (n := 120) (q := (0, 9)) (fun _ => rfl)) (kl_rw m (p := 26) (n := 120) (q := (-1, 9)) (fun _ => rfl)) (fun c => ⟨_, I, L, _, rfl, rfl, rfl, e, fun q h => Or.inl ⟨by rw [un q h]; exact c, rfl⟩⟩) (fun n hn c v hv => ⟨_, I, L, _, rfl, rfl, rfl, e, fun q h => Or.inr ⟨n, hn, by rw [un q h]; exact c, by rw [un q h]; exact hv⟩⟩)
    rw [e] at g
    exact g
  · have e : kD49 R = R := kD49_eq (w := (xLay, I, L, R)) m hrf.2.2.1
    have g := b49_bears (S := S) (d := 57) (L := L) (R := R) (I := I) (x1 := x) (Φ := fun z => ∃ (r : Int32) (I2 : sm_I) (L2 : sm_L) (R2 : sm_R), z = (some (.int r), (xLay, I2, L2, R2)) ∧ XbearsK x I L R r I2 L2 R2) b.2 (kl_rw m (p := 59) (n := 10) (q := (0, 4)) (fun _ => rfl)) (kl_rw m (p := 60) (n := 40) (q := (0, 3)) (fun _ => rfl)) (kl_rw m (p := 62) (n := 120) (q := (0, 9)) (fun _ => rfl)) (kl_rw m (p := 63) (n := 120) (q := (-1, 9)) (fun _ => rfl)) (fun c => ⟨_, I, L, _, rfl, rfl, rfl, e, fun q h => Or.inl ⟨by rw [un q h]; exact c, rfl⟩⟩) (fun n hn c v hv => ⟨_, I, L, _, rfl, rfl, rfl, e, fun q h => Or.inr ⟨n, hn, by rw [un q h]; exact c, by rw [un q h]; exact hv⟩⟩)
    rw [e] at g
    exact g
theorem bm_bears {x : Int32} (hI : MD (XbearsK x) r I L R) : sm_wp sm_P S (57 + 2) 100 0 [.ref 107, .int x] [] (xLay, I, L, R) (0, 0) (fun z => ∃ (r' : Int32) (I2 : sm_I) (L2 : sm_L) (R2 : sm_R), z = (some (.int r'), (xLay, I2, L2, R2)) ∧ r = r' ∧ ((∀ p j, p < 107 → I2 p j = I p j ∧ R2 p j = R p j) → LJ I2 R2)) := by
  obtain ⟨I0, L0, R0, hI0, mk, o, eI, eL, eR, X⟩ := hI
  subst eI
  subst eL
  subst eR
  obtain ⟨m0, mm, K⟩ := hI0
  have K' := K
  obtain ⟨tp, hd, qt, qi, l, hrf, htd⟩ := K'
  have X := X qt hrf.2.2.1
  have hq : qt = 12 ∨ qt = 49 := by have := hrf.1; omega
  obtain ⟨-, -, -, c3, -, -⟩ := q_cnt hq htd
  have l1 := hrf.2.1
  have e : kM R = R := ml_R mm
  have bb := (q_b l1 mm).2
  have g := bm_bears0 (S := S) (d := 57) (L := L) (R := R) (I := I) (x1 := x) (l := l) (Φ := fun z => ∃ (r' : Int32) (I2 : sm_I) (L2 : sm_L) (R2 : sm_R), z = (some (.int r'), (xLay, I2, L2, R2)) ∧ r = r' ∧ ((∀ p j, p < 107 → I2 p j = I p j ∧ R2 p j = R p j) → LJ I2 R2)) hrf.2.2.2.2 l1 mm (fun c => ?_) (fun n hn c v hv => ?_)
  · rw [e] at g
    exact g
  · rcases X with ⟨-, er⟩ | ⟨n, hn, c2, -⟩
    · exact ⟨_, I, L, _, rfl, er, fun _ => by rw [e]; exact K⟩
    · exact absurd ⟨by omega, by rw [← c3]; exact c2⟩ c
  · rcases X with ⟨x1, -⟩ | ⟨n', hn', c2, hb⟩
    · exact absurd ⟨by omega, by rw [c3]; exact c⟩ x1
    · have en : n' = n := by omega
      subst en
      refine ⟨_, I, L, _, rfl, ?_, fun _ => by rw [e]; exact K⟩
      obtain ⟨⟨a, k1, -, -, -, ⟨hY, -⟩, -⟩, -⟩ := htd
      obtain ⟨-, y2, y3, y4, y5⟩ := hY n' (by omega) (by omega)
      have row : ∀ c j, 22 ≤ c → c < 34 → I (qt + (c - 12)) j = a.1 c j := fun c j p1 p2 => by
        have h := k1 c j (by omega) (by omega) (by omega) (by omega)
        rw [show qt + (c - 12) = c + (qt - 12) by omega]; exact h
      have r22 : I (qt + 10) n' = I 128 (10 * l + n') := (row 22 n' (by decide) (by decide)).trans y2
      have nch := kl_nat (i := I 128 (10 * l + n')) (by omega)
      have V : mlV I l := mm.2.2.2.2.2.2.1 l hrf.2.2.2.2.symm
      have r23 : ∀ c, c < (I 128 (10 * l + n')).toNatClampNeg → I (qt + 11) (4 * n' + c) = I 129 (4 * (10 * l + n') + c) := fun c hc => (row 23 _ (by decide) (by decide)).trans (y5 c (by omega)).1
      have sp : ∀ c, c < (I 128 (10 * l + n')).toNatClampNeg → ∀ i, i < (I (qt + 11) (4 * n' + c)).toNatClampNeg → (I (qt + 13) (12 * n' + 3 * c + i) = I 130 (3 * (4 * (10 * l + n') + c) + i) ∧ I (qt + 14) (12 * n' + 3 * c + i) = I 131 (3 * (4 * (10 * l + n') + c) + i) ∧ I (qt + 15) (12 * n' + 3 * c + i) = I 132 (3 * (4 * (10 * l + n') + c) + i) ∧ I (qt + 16) (12 * n' + 3 * c + i) = I 133 (3 * (4 * (10 * l + n') + c) + i)) ∧ (0 ≤ (I 130 (3 * (4 * (10 * l + n') + c) + i)).toInt ∧ (I 130 (3 * (4 * (10 * l + n') + c) + i)).toInt ≤ 9) ∧ (-1 ≤ (I 131 (3 * (4 * (10 * l + n') + c) + i)).toInt ∧ (I 131 (3 * (4 * (10 * l + n') + c) + i)).toInt ≤ 9) := fun c hc i hi => by
        rw [r23 c hc] at hi
        obtain ⟨-, z2, z3, z4⟩ := y5 c (by omega)
        have n3 := kl_nat (i := I 129 (4 * (10 * l + n') + c)) (by omega)
        obtain ⟨s1, s2, s3, s4⟩ := z4 i (by omega)
        have ix : 120 * l + 12 * n' + 3 * c + i = 3 * (4 * (10 * l + n') + c) + i := by omega
        rw [ix] at s1 s2 s3 s4
        have i2 : 3 * (4 * (10 * l + n') + c) + i < 260 := by omega
        exact ⟨⟨(row 25 _ (by decide) (by decide)).trans s1, (row 26 _ (by decide) (by decide)).trans s2, (row 27 _ (by decide) (by decide)).trans s3, (row 28 _ (by decide) (by decide)).trans s4⟩, ⟨V.2 n' c i (by omega) (by omega) (by omega), (ml_row mm (p := 130) (n := 260) (q := (-1, 9)) (fun _ => rfl) _ i2).2⟩, ml_row mm (p := 131) (n := 260) (q := (-1, 9)) (fun _ => rfl) _ i2⟩
      unfold bsK at hb
      rw [r22] at hb
      refine BS_fun (BS_cg (fun c hc => ?_) (fun c hc i hi => ?_) (fun c hc i hi => ?_) hb) hv
      · show (I (qt + 11) (4 * n' + c)).toNatClampNeg = (I 129 (4 * (10 * l + n') + c)).toNatClampNeg
        rw [r23 c hc]
      · obtain ⟨⟨s1, s2, -, -⟩, b1, b2⟩ := sp c hc i hi
        show bst (I 38) (I (qt + 13) (12 * n' + 3 * c + i)) (I (qt + 14) (12 * n' + 3 * c + i)) ↔ bst (I 138) (I 130 (3 * (4 * (10 * l + n') + c) + i)) (I 131 (3 * (4 * (10 * l + n') + c) + i))
        rw [s1, s2]
        exact (bst_cg hd.2.1 b1 b2).1
      · obtain ⟨⟨s1, s2, s3, s4⟩, b1, b2⟩ := sp c hc i hi
        show bhd (I 38) (I (qt + 13) (12 * n' + 3 * c + i)) (I (qt + 14) (12 * n' + 3 * c + i)) (I (qt + 15) (12 * n' + 3 * c + i)) (I (qt + 16) (12 * n' + 3 * c + i)) ↔ bhd (I 138) (I 130 (3 * (4 * (10 * l + n') + c) + i)) (I 131 (3 * (4 * (10 * l + n') + c) + i)) (I 132 (3 * (4 * (10 * l + n') + c) + i)) (I 133 (3 * (4 * (10 * l + n') + c) + i))
        rw [s1, s2, s3, s4]
        exact (bst_cg hd.2.1 b1 b2).2 _ _
/-- walk -/
def XwalkK (x y : Int32) (I : sm_I) (L : sm_L) (R : sm_R) (r : Int32) (I1 : sm_I) (L1 : sm_L) (R1 : sm_R) : Prop := I1 = I ∧ L1 = L ∧ R1 = R ∧ ∀ qt, R 0 9 = some qt → (¬ ((0 ≤ x.toInt ∧ x.toInt < (I qt 1).toInt) ∧ (0 ≤ y.toInt ∧ y.toInt < (I qt 1).toInt)) ∧ r = -1) ∨ (((0 ≤ x.toInt ∧ x.toInt < (I qt 1).toInt) ∧ (0 ≤ y.toInt ∧ y.toInt < (I qt 1).toInt)) ∧ r = I (qt + 1) (6 * x.toNatClampNeg + y.toNatClampNeg))
theorem bk_walk {x y : Int32} (hI : lw_I I L R) : sm_wp sm_P S (58 + 1) 90 0 [.ref 0, .int x, .int y] [] (xLay, I, L, R) (0, 0) (fun z => ∃ (r : Int32) (I2 : sm_I) (L2 : sm_L) (R2 : sm_R), z = (some (.int r), (xLay, I2, L2, R2)) ∧ XwalkK x y I L R r I2 L2 R2) := by
  obtain ⟨m, -, -, -, qt, qi, l, hrf, -⟩ := hI
  have un := q_un hrf.2.2.1
  have hq : qt = 12 ∨ qt = 49 := by have := hrf.1; omega
  rcases hq with e | e <;> subst e
  · have e : kD12 R = R := kD12_eq (w := (xLay, I, L, R)) m hrf.2.2.1
    have b1 := (m.2.1 12 1 (0, 6) (by decide +kernel)).2
    have g := b12_walk (S := S) (d := 58) (L := L) (R := R) (I := I) (x := x) (y := y) (Φ := fun z => ∃ (r : Int32) (I2 : sm_I) (L2 : sm_L) (R2 : sm_R), z = (some (.int r), (xLay, I2, L2, R2)) ∧ XwalkK x y I L R r I2 L2 R2) b1 (fun c => ⟨_, I, L, _, rfl, rfl, rfl, e, fun q h => Or.inl ⟨by rw [un q h]; exact c, rfl⟩⟩) (fun a1 a2 a3 a4 => ⟨_, I, L, _, rfl, rfl, rfl, e, fun q h => Or.inr ⟨by rw [un q h]; exact ⟨⟨a1, a2⟩, a3, a4⟩, by rw [un q h]⟩⟩)
    rw [e] at g
    exact g
  · have e : kD49 R = R := kD49_eq (w := (xLay, I, L, R)) m hrf.2.2.1
    have b1 := (m.2.1 49 1 (0, 6) (by decide +kernel)).2
    have g := b49_walk (S := S) (d := 58) (L := L) (R := R) (I := I) (x := x) (y := y) (Φ := fun z => ∃ (r : Int32) (I2 : sm_I) (L2 : sm_L) (R2 : sm_R), z = (some (.int r), (xLay, I2, L2, R2)) ∧ XwalkK x y I L R r I2 L2 R2) b1 (fun c => ⟨_, I, L, _, rfl, rfl, rfl, e, fun q h => Or.inl ⟨by rw [un q h]; exact c, rfl⟩⟩) (fun a1 a2 a3 a4 => ⟨_, I, L, _, rfl, rfl, rfl, e, fun q h => Or.inr ⟨by rw [un q h]; exact ⟨⟨a1, a2⟩, a3, a4⟩, by rw [un q h]⟩⟩)
    rw [e] at g
    exact g
theorem bm_walk {x y : Int32} (hI : MD (XwalkK x y) r I L R) : sm_wp sm_P S (58 + 1) 209 0 [.ref 107, .int x, .int y] [] (xLay, I, L, R) (0, 0) (fun z => ∃ (r' : Int32) (I2 : sm_I) (L2 : sm_L) (R2 : sm_R), z = (some (.int r'), (xLay, I2, L2, R2)) ∧ r = r' ∧ ((∀ p j, p < 107 → I2 p j = I p j ∧ R2 p j = R p j) → LJ I2 R2)) := by
  obtain ⟨I0, L0, R0, hI0, mk, o, eI, eL, eR, X⟩ := hI
  subst eI
  subst eL
  subst eR
  obtain ⟨m0, mm, K⟩ := hI0
  have K' := K
  obtain ⟨tp, hd, qt, qi, l, hrf, htd⟩ := K'
  have X := X qt hrf.2.2.1
  have hq : qt = 12 ∨ qt = 49 := by have := hrf.1; omega
  obtain ⟨-, c1, -, -, -, -⟩ := q_cnt hq htd
  obtain ⟨w1, -, -⟩ := htd.2
  have e : kM R = R := ml_R mm
  have g := bx_walk (S := S) (d := 58) (L := L) (R := R) (I := I) (x := x) (y := y) (Φ := fun z => ∃ (r' : Int32) (I2 : sm_I) (L2 : sm_L) (R2 : sm_R), z = (some (.int r'), (xLay, I2, L2, R2)) ∧ r = r' ∧ ((∀ p j, p < 107 → I2 p j = I p j ∧ R2 p j = R p j) → LJ I2 R2)) hrf.2.2.2.2 hrf.2.1 (ml_cs hrf.2.1 mm).2.1 (fun c => ?_) (fun a1 a2 b1 b2 => ?_)
  · rw [e] at g
    exact g
  · rcases X with ⟨-, er⟩ | ⟨c2, -⟩
    · exact ⟨_, I, L, _, rfl, er, fun _ => by rw [e]; exact K⟩
    · rw [c1] at c2
      exact absurd c2 c
  · rcases X with ⟨c2, -⟩ | ⟨-, er⟩
    · rw [c1] at c2
      exact absurd ⟨⟨a1, a2⟩, b1, b2⟩ c2
    · refine ⟨_, I, L, _, rfl, ?_, fun _ => by rw [e]; exact K⟩
      have nx := kl_nat a1
      have ny := kl_nat b1
      rw [er]
      exact wkr_v (w1 x.toNatClampNeg y.toNatClampNeg (by omega) (by omega))
/-- move -/
def XmoveK (x y : Int32) (I : sm_I) (L : sm_L) (R : sm_R) (r : Int32) (I1 : sm_I) (L1 : sm_L) (R1 : sm_R) : Prop := I1 = I ∧ L1 = L ∧ R1 = R ∧ ∀ qt, R 0 9 = some qt → (¬ (0 ≤ x.toInt ∧ x.toInt < (I qt 5).toInt ∧ 0 ≤ y.toInt ∧ y.toInt ≤ 2) ∧ r = -1) ∨ (0 ≤ x.toInt ∧ x.toInt < (I qt 5).toInt ∧ ((y.toInt = 0 ∧ r = I (qt + 22) x.toNatClampNeg) ∨ (y.toInt = 1 ∧ r = I (qt + 23) x.toNatClampNeg) ∨ (y.toInt = 2 ∧ r = I (qt + 24) x.toNatClampNeg)))
theorem bk_move {x y : Int32} (hI : lw_I I L R) : sm_wp sm_P S 59 70 0 [.ref 0, .int x, .int y] [] (xLay, I, L, R) (0, 0) (fun z => ∃ (r : Int32) (I2 : sm_I) (L2 : sm_L) (R2 : sm_R), z = (some (.int r), (xLay, I2, L2, R2)) ∧ XmoveK x y I L R r I2 L2 R2) := by
  obtain ⟨m, -, -, -, qt, qi, l, hrf, -⟩ := hI
  have un := q_un hrf.2.2.1
  have hq : qt = 12 ∨ qt = 49 := by have := hrf.1; omega
  rcases hq with e | e <;> subst e
  · have e : kD12 R = R := kD12_eq (w := (xLay, I, L, R)) m hrf.2.2.1
    have b5 := (m.2.1 12 5 (0, 45) (by decide +kernel)).2
    have g := b12_move (S := S) (d := 59) (L := L) (R := R) (I := I) (x := x) (y := y) (Φ := fun z => ∃ (r : Int32) (I2 : sm_I) (L2 : sm_L) (R2 : sm_R), z = (some (.int r), (xLay, I2, L2, R2)) ∧ XmoveK x y I L R r I2 L2 R2) b5 (fun c => ⟨_, I, L, _, rfl, rfl, rfl, e, fun q h => Or.inl ⟨by rw [un q h]; exact c, rfl⟩⟩) (fun a1 a2 a3 => ⟨_, I, L, _, rfl, rfl, rfl, e, fun q h => Or.inr (by rw [un q h]; exact ⟨a1, a2, Or.inl ⟨a3, rfl⟩⟩)⟩) (fun a1 a2 a3 => ⟨_, I, L, _, rfl, rfl, rfl, e, fun q h => Or.inr (by rw [un q h]; exact ⟨a1, a2, Or.inr (Or.inl ⟨a3, rfl⟩)⟩)⟩) (fun a1 a2 a3 => ⟨_, I, L, _, rfl, rfl, rfl, e, fun q h => Or.inr (by rw [un q h]; exact ⟨a1, a2, Or.inr (Or.inr ⟨a3, rfl⟩)⟩)⟩)
    rw [e] at g
    exact g
  · have e : kD49 R = R := kD49_eq (w := (xLay, I, L, R)) m hrf.2.2.1
    have b5 := (m.2.1 49 5 (0, 45) (by decide +kernel)).2
    have g := b49_move (S := S) (d := 59) (L := L) (R := R) (I := I) (x := x) (y := y) (Φ := fun z => ∃ (r : Int32) (I2 : sm_I) (L2 : sm_L) (R2 : sm_R), z = (some (.int r), (xLay, I2, L2, R2)) ∧ XmoveK x y I L R r I2 L2 R2) b5 (fun c => ⟨_, I, L, _, rfl, rfl, rfl, e, fun q h => Or.inl ⟨by rw [un q h]; exact c, rfl⟩⟩) (fun a1 a2 a3 => ⟨_, I, L, _, rfl, rfl, rfl, e, fun q h => Or.inr (by rw [un q h]; exact ⟨a1, a2, Or.inl ⟨a3, rfl⟩⟩)⟩) (fun a1 a2 a3 => ⟨_, I, L, _, rfl, rfl, rfl, e, fun q h => Or.inr (by rw [un q h]; exact ⟨a1, a2, Or.inr (Or.inl ⟨a3, rfl⟩)⟩)⟩) (fun a1 a2 a3 => ⟨_, I, L, _, rfl, rfl, rfl, e, fun q h => Or.inr (by rw [un q h]; exact ⟨a1, a2, Or.inr (Or.inr ⟨a3, rfl⟩)⟩)⟩)
    rw [e] at g
    exact g
theorem bm_move {x y : Int32} (hI : MD (XmoveK x y) r I L R) : sm_wp sm_P S (58 + 1) 164 0 [.ref 107, .int x, .int y] [] (xLay, I, L, R) (0, 0) (fun z => ∃ (r' : Int32) (I2 : sm_I) (L2 : sm_L) (R2 : sm_R), z = (some (.int r'), (xLay, I2, L2, R2)) ∧ r = r' ∧ ((∀ p j, p < 107 → I2 p j = I p j ∧ R2 p j = R p j) → LJ I2 R2)) := by
  obtain ⟨I0, L0, R0, hI0, mk, o, eI, eL, eR, X⟩ := hI
  subst eI
  subst eL
  subst eR
  obtain ⟨m0, mm, K⟩ := hI0
  have K' := K
  obtain ⟨tp, hd, qt, qi, l, hrf, htd⟩ := K'
  have X := X qt hrf.2.2.1
  obtain ⟨-, w2, w3⟩ := htd.2
  rw [w2] at X
  have e : kM R = R := ml_R mm
  have g := bx_move (S := S) (d := 58) (L := L) (R := R) (I := I) (x := x) (y := y) (Φ := fun z => ∃ (r' : Int32) (I2 : sm_I) (L2 : sm_L) (R2 : sm_R), z = (some (.int r'), (xLay, I2, L2, R2)) ∧ r = r' ∧ ((∀ p j, p < 107 → I2 p j = I p j ∧ R2 p j = R p j) → LJ I2 R2)) (q_c46 mm) (fun c => ?_) (fun a1 a2 a3 => ?_) (fun a1 a2 a3 => ?_) (fun a1 a2 a3 => ?_)
  · rw [e] at g
    exact g
  · rcases X with ⟨-, er⟩ | ⟨c1, c2, c3⟩
    · exact ⟨_, I, L, _, rfl, er, fun _ => by rw [e]; exact K⟩
    · exact absurd ⟨c1, c2, by omega, by omega⟩ c
  · rcases X with ⟨c2, -⟩ | ⟨-, -, ⟨-, er⟩ | ⟨c3, -⟩ | ⟨c3, -⟩⟩
    · exact absurd ⟨a1, a2, by omega, by omega⟩ c2
    · have nx := kl_nat a1
      exact ⟨_, I, L, _, rfl, er.trans (w3 _ (by omega)).1, fun _ => by rw [e]; exact K⟩
    · omega
    · omega
  · rcases X with ⟨c2, -⟩ | ⟨-, -, ⟨c3, -⟩ | ⟨-, er⟩ | ⟨c3, -⟩⟩
    · exact absurd ⟨a1, a2, by omega, by omega⟩ c2
    · omega
    · have nx := kl_nat a1
      exact ⟨_, I, L, _, rfl, er.trans (w3 _ (by omega)).2.1, fun _ => by rw [e]; exact K⟩
    · omega
  · rcases X with ⟨c2, -⟩ | ⟨-, -, ⟨c3, -⟩ | ⟨c3, -⟩ | ⟨-, er⟩⟩
    · exact absurd ⟨a1, a2, by omega, by omega⟩ c2
    · omega
    · omega
    · have nx := kl_nat a1
      exact ⟨_, I, L, _, rfl, er.trans (wkr_v (w3 _ (by omega)).2.2.1), fun _ => by rw [e]; exact K⟩
/-- breaks -/
def XbreaksK (I : sm_I) (L : sm_L) (R : sm_R) (r : Int32) (I1 : sm_I) (L1 : sm_L) (R1 : sm_R) : Prop := I1 = I ∧ L1 = L ∧ R1 = R ∧ ∀ qt, R 0 9 = some qt → FS (I qt 5).toNatClampNeg (bq (I 38) (I (qt + 22)) (I (qt + 23)) (I (qt + 24)) (fun w => w.toInt < 0)) r
theorem bk_breaks (hI : lw_I I L R) : sm_wp sm_P S (58 + 1) 33 0 [.ref 0] [] (xLay, I, L, R) (0, 0) (fun z => ∃ (r : Int32) (I2 : sm_I) (L2 : sm_L) (R2 : sm_R), z = (some (.int r), (xLay, I2, L2, R2)) ∧ XbreaksK I L R r I2 L2 R2) := by
  obtain ⟨m, -, -, -, qt, qi, l, hrf, -⟩ := hI
  have un := q_un hrf.2.2.1
  have hq : qt = 12 ∨ qt = 49 := by have := hrf.1; omega
  rcases hq with e | e <;> subst e
  · have e : kD12 R = R := kD12_eq (w := (xLay, I, L, R)) m hrf.2.2.1
    have b5 : 0 ≤ (I 12 5).toInt ∧ (I 12 5).toInt ≤ 45 := m.2.1 12 5 (0, 45) (by decide +kernel)
    have n5 := kl_nat b5.1
    have g := b12_breaks (S := S) (d := 58) (L := L) (R := R) (I := I) (n := (I 12 5).toNatClampNeg) (Φ := fun z => ∃ (r : Int32) (I2 : sm_I) (L2 : sm_L) (R2 : sm_R), z = (some (.int r), (xLay, I2, L2, R2)) ∧ XbreaksK I L R r I2 L2 R2) n5.symm (by omega) (kl_rw m (p := 34) (n := 45) (q := (0, 9)) (fun _ => rfl)) (kl_rw m (p := 35) (n := 45) (q := (0, 9)) (fun _ => rfl)) (kl_rw m (p := 38) (n := 10) (q := (-1, 1440)) (fun _ => rfl)) (fun v hv => ⟨_, I, L, _, rfl, rfl, rfl, e, fun q h => by rw [un q h]; exact hv⟩)
    rw [e] at g
    exact g
  · have e : kD49 R = R := kD49_eq (w := (xLay, I, L, R)) m hrf.2.2.1
    have b5 : 0 ≤ (I 49 5).toInt ∧ (I 49 5).toInt ≤ 45 := m.2.1 49 5 (0, 45) (by decide +kernel)
    have n5 := kl_nat b5.1
    have g := b49_breaks (S := S) (d := 58) (L := L) (R := R) (I := I) (n := (I 49 5).toNatClampNeg) (Φ := fun z => ∃ (r : Int32) (I2 : sm_I) (L2 : sm_L) (R2 : sm_R), z = (some (.int r), (xLay, I2, L2, R2)) ∧ XbreaksK I L R r I2 L2 R2) n5.symm (by omega) (kl_rw m (p := 71) (n := 45) (q := (0, 9)) (fun _ => rfl)) (kl_rw m (p := 72) (n := 45) (q := (0, 9)) (fun _ => rfl)) (kl_rw m (p := 38) (n := 10) (q := (-1, 1440)) (fun _ => rfl)) (fun v hv => ⟨_, I, L, _, rfl, rfl, rfl, e, fun q h => by rw [un q h]; exact hv⟩)
    rw [e] at g
    exact g
theorem bm_breaks (hI : MD (XbreaksK) r I L R) : sm_wp sm_P S 59 107 0 [.ref 107] [] (xLay, I, L, R) (0, 0) (fun z => ∃ (r' : Int32) (I2 : sm_I) (L2 : sm_L) (R2 : sm_R), z = (some (.int r'), (xLay, I2, L2, R2)) ∧ r = r' ∧ ((∀ p j, p < 107 → I2 p j = I p j ∧ R2 p j = R p j) → LJ I2 R2)) := by
  obtain ⟨I0, L0, R0, hI0, mk, o, eI, eL, eR, X⟩ := hI
  subst eI
  subst eL
  subst eR
  obtain ⟨m0, mm, K⟩ := hI0
  have K' := K
  obtain ⟨tp, hd, qt, qi, l, hrf, htd⟩ := K'
  have X := X qt hrf.2.2.1
  obtain ⟨-, w2, w3⟩ := htd.2
  rw [w2] at X
  have e : kM R = R := ml_R mm
  have b46 := q_c46 mm
  have n46 := kl_nat b46.1
  have b140 : ∀ j, j < 45 → 0 ≤ (I 140 j).toInt ∧ (I 140 j).toInt ≤ 9 := fun j hj => ml_row mm (p := 140) (n := 45) (q := (0, 9)) (fun _ => rfl) j hj
  have b141 : ∀ j, j < 45 → 0 ≤ (I 141 j).toInt ∧ (I 141 j).toInt ≤ 9 := fun j hj => ml_row mm (p := 141) (n := 45) (q := (0, 9)) (fun _ => rfl) j hj
  have g := bx_breaks (S := S) (d := 59) (L := L) (R := R) (I := I) (n := (I 107 46).toNatClampNeg) (Φ := fun z => ∃ (r' : Int32) (I2 : sm_I) (L2 : sm_L) (R2 : sm_R), z = (some (.int r'), (xLay, I2, L2, R2)) ∧ r = r' ∧ ((∀ p j, p < 107 → I2 p j = I p j ∧ R2 p j = R p j) → LJ I2 R2)) n46.symm (by omega) b140 b141 (fun j hj => ml_row mm (p := 138) (n := 10) (q := (-1, 1440)) (fun _ => rfl) j hj) (fun v hv => ?_)
  · rw [e] at g
    exact g
  · refine ⟨_, I, L, _, rfl, ?_, fun _ => by rw [e]; exact K⟩
    refine FS_fun (FS_cg (fun j hj => ?_) X) hv
    obtain ⟨r1, r2, r3, -⟩ := w3 j (by omega)
    have a0 := b140 j (by omega)
    have a1 := b141 j (by omega)
    have k0 := kl_nat a0.1
    have k1 := kl_nat a1.1
    exact bq_cg r1 r2 (hd.2.1 _ (by omega)) (hd.2.1 _ (by omega)) r3
/-- pick -/
def XpickK (x y : Int32) (I : sm_I) (_ : sm_L) (R : sm_R) (r : Int32) (I1 : sm_I) (_ : sm_L) (R1 : sm_R) : Prop := R1 = R ∧ ∀ qt, R 0 9 = some qt → (∃ s ch, s < 55 ∧ pks qt I x s ch ∧ -1 ≤ y.toInt ∧ y.toInt < ch ∧ r = 1 ∧ I1 = sm_up (sm_up I 39 s y) 98 9 0) ∨ ((∀ s ch, pks qt I x s ch → ¬ (-1 ≤ y.toInt ∧ y.toInt < ch)) ∧ r = 0 ∧ I1 = I)
theorem bk_pick {x y : Int32} (hI : lw_I I L R) : sm_wp sm_P S (58 + 1) 72 0 [.ref 0, .int x, .int y] [] (xLay, I, L, R) (0, 0) (fun z => ∃ (r : Int32) (I2 : sm_I) (L2 : sm_L) (R2 : sm_R), z = (some (.int r), (xLay, I2, L2, R2)) ∧ XpickK x y I L R r I2 L2 R2) := by
  obtain ⟨m, -, -, -, qt, qi, l, hrf, -⟩ := hI
  have un := q_un hrf.2.2.1
  have hq : qt = 12 ∨ qt = 49 := by have := hrf.1; omega
  rcases hq with e | e <;> subst e
  · have e : kD12 R = R := kD12_eq (w := (xLay, I, L, R)) m hrf.2.2.1
    have b5 := (m.2.1 12 5 (0, 45) (by decide +kernel)).2
    have b3 := (m.2.1 12 3 (0, 10) (by decide +kernel)).2
    have g := b12_pick (S := S) (d := 58) (L := L) (R := R) (I := I) (x := x) (y := y) (Φ := fun z => ∃ (r : Int32) (I2 : sm_I) (L2 : sm_L) (R2 : sm_R), z = (some (.int r), (xLay, I2, L2, R2)) ∧ XpickK x y I L R r I2 L2 R2) b3 b5 (fun j hj => (kl_rw m (p := 22) (n := 10) (q := (0, 4)) (fun _ => rfl) j hj).1) (fun c => ⟨_, I, L, _, rfl, e, fun q h => Or.inr ⟨by rw [un q h]; exact c, rfl, rfl⟩⟩) (fun s ch s55 p y1 y2 => ⟨_, _, L, _, rfl, e, fun q h => Or.inl ⟨s, ch, s55, by rw [un q h]; exact p, y1, y2, rfl, rfl⟩⟩)
    rw [e] at g
    exact g
  · have e : kD49 R = R := kD49_eq (w := (xLay, I, L, R)) m hrf.2.2.1
    have b5 := (m.2.1 49 5 (0, 45) (by decide +kernel)).2
    have b3 := (m.2.1 49 3 (0, 10) (by decide +kernel)).2
    have g := b49_pick (S := S) (d := 58) (L := L) (R := R) (I := I) (x := x) (y := y) (Φ := fun z => ∃ (r : Int32) (I2 : sm_I) (L2 : sm_L) (R2 : sm_R), z = (some (.int r), (xLay, I2, L2, R2)) ∧ XpickK x y I L R r I2 L2 R2) b3 b5 (fun j hj => (kl_rw m (p := 59) (n := 10) (q := (0, 4)) (fun _ => rfl) j hj).1) (fun c => ⟨_, I, L, _, rfl, e, fun q h => Or.inr ⟨by rw [un q h]; exact c, rfl, rfl⟩⟩) (fun s ch s55 p y1 y2 => ⟨_, _, L, _, rfl, e, fun q h => Or.inl ⟨s, ch, s55, by rw [un q h]; exact p, y1, y2, rfl, rfl⟩⟩)
    rw [e] at g
    exact g
theorem bm_pick {x y : Int32} (hI : MD (XpickK x y) r I L R) : sm_wp sm_P S (56 + 3) 172 0 [.ref 107, .int x, .int y] [] (xLay, I, L, R) (0, 0) (fun z => ∃ (r' : Int32) (I2 : sm_I) (L2 : sm_L) (R2 : sm_R), z = (some (.int r'), (xLay, I2, L2, R2)) ∧ r = r' ∧ ((∀ p j, p < 107 → I2 p j = I p j ∧ R2 p j = R p j) → LJ I2 R2)) := by
  obtain ⟨I0, L0, R0, hI0, mk, o, eR, X⟩ := hI
  have mm := MD_m (X := XpickK x y) hI0 mk o
  obtain ⟨m0, n0, k⟩ := hI0
  obtain ⟨tp, hd, qt, qi, l, hrf, htd⟩ := k
  have X := X qt hrf.2.2.1
  have hq : qt = 12 ∨ qt = 49 := by have := hrf.1; omega
  obtain ⟨-, -, -, c3, -, -⟩ := q_cnt hq htd
  have htd0 := htd
  obtain ⟨⟨a, k1, -, -, -, ⟨hY, -⟩, -⟩, -, w2, w3⟩ := htd0
  have l1 := hrf.2.1
  have bb := (q_b l1 mm).2
  have b46 := q_c46 mm
  have e125 : I 125 l = I0 125 l := (o 125 l (by omega)).1
  have e46 : I 107 46 = I0 107 46 := (o 107 46 (by omega)).1
  have hl : (I 107 18).toInt = l := by rw [(o 107 18 (by omega)).1]; exact hrf.2.2.2.2
  have k3 : (I0 qt 3).toInt ≤ 10 := by rw [c3, ← e125]; exact bb.2
  -- the same items
  have A : ∀ s : Nat, s < 10 → x.toInt = s → ((((I0 37 0) >>> (x &&& 31)) &&& (1 : Int32) = 0) ↔ I 137 s = 0) := fun s hs hx => by
    rw [sb_test (I0 37 0) x s hs hx, hd.1 s hs, (o 137 s (by omega)).1]
    simp
  have B : ∀ s : Nat, (s : Int) < (I 125 l).toInt → I0 (qt + 10) s = I 128 (10 * l + s) := fun s hs => by
    obtain ⟨-, y2, -⟩ := hY s (by omega) (by rw [← e125]; exact hs)
    have h := k1 22 s (by decide) (by decide) (by decide) (by omega)
    rw [show qt + 10 = 22 + (qt - 12) by omega, h, y2, (o 128 _ (by omega)).1]
  have C : ∀ j : Nat, (j : Int) < (I 107 46).toInt → (if 0 ≤ (I0 (qt + 24) j).toInt then (2 : Int) else 0) = if I 142 j = -1 then 0 else 2 := fun j hj => by
    obtain ⟨-, -, r3, -⟩ := w3 j (by rw [← e46]; exact hj)
    rw [(o 142 j (by omega)).1]
    rcases r3 with ⟨h1, h2⟩ | ⟨h1, -, h3⟩
    · rw [if_pos h2, h1]; rfl
    · rw [h3, if_pos h1, if_neg (fun q => by rw [q] at h1; exact absurd h1 (by decide))]
  have lk : ∀ s ch, pks qt I0 x s ch ↔ pkm l I x s ch := fun s ch => by
    unfold pks pkm
    rw [c3, ← e125, w2, ← e46]
    constructor
    · rintro (⟨a1, a2, a3, a4, a5⟩ | ⟨a1, a2, a3, a4⟩)
      · exact Or.inl ⟨a1, a2, (A s (by omega) a4).mp a3, a4, by rw [a5, B s (by omega)]⟩
      · exact Or.inr ⟨a1, a2, a3, by rw [a4, C (s - 10) (by omega)]⟩
    · rintro (⟨a1, a2, a3, a4, a5⟩ | ⟨a1, a2, a3, a4⟩)
      · exact Or.inl ⟨a1, a2, (A s (by omega) a4).mpr a3, a4, by rw [a5, B s (by omega)]⟩
      · exact Or.inr ⟨a1, a2, a3, by rw [a4, C (s - 10) (by omega)]⟩
  have e : kM R = R := ml_R mm
  have g := bx_pick (S := S) (d := 56) (L := L) (R := R) (I := I) (x := x) (y := y) (l := l) (Φ := fun z => ∃ (r' : Int32) (I2 : sm_I) (L2 : sm_L) (R2 : sm_R), z = (some (.int r'), (xLay, I2, L2, R2)) ∧ r = r' ∧ ((∀ p j, p < 107 → I2 p j = I p j ∧ R2 p j = R p j) → LJ I2 R2)) hl l1 bb b46 (fun j hj => ml_row mm (p := 128) (n := 20) (q := (0, 4)) (fun _ => rfl) j hj) (fun c => ?_) (fun s ch s55 p y1 y2 => ?_)
  · rw [e] at g
    exact g
  · rcases X with ⟨s, ch, -, p, y1, y2, -, -⟩ | ⟨-, er, eI⟩
    · exact absurd ⟨y1, y2⟩ (c s ch ((lk s ch).mp p))
    · subst eI
      exact ⟨_, I, L, _, rfl, er, fun _ => by rw [e, eR]; exact ⟨tp, hd, qt, qi, l, hrf, htd⟩⟩
  · rcases X with ⟨s', ch', -, p', -, -, er, eI⟩ | ⟨x1, -, -⟩
    rotate_left
    · exact absurd ⟨y1, y2⟩ (x1 s ch ((lk s ch).mpr p))
    have es : s = s' := (pks_fun k3 p' ((lk s ch).mpr p)).1
    subst es
    refine ⟨_, _, L, _, rfl, er, fun _ => ?_⟩
    rw [e, eR]
    have g : ∀ p j, p ≠ 39 → p ≠ 98 → p ≠ 160 → sm_up I 160 s y p j = I0 p j := fun p j a b c => by
      rw [en_up_ne _ _ _ _ (by omega), eI, en_up_ne _ _ _ _ (by omega), en_up_ne _ _ _ _ (by omega)]
    obtain ⟨h1, h2, h3, h4, h5⟩ := hd
    refine ⟨tpE_cg (I := I0) (fun p j q => g p j (by omega) (by omega) (by omega)) tp, ⟨fun k hk => ?_, fun k hk => ?_, ?_, fun i hi hj => ?_, fun k hk => ?_⟩, qt, qi, l, ⟨hrf.1, hrf.2.1, hrf.2.2.1, hrf.2.2.2.1, ?_⟩, tdE_cg (I := I0) hq (fun p j q => g p j (by omega) (by omega) (by omega)) htd⟩
    · rw [g 37 0 (by omega) (by omega) (by omega), g 137 k (by omega) (by omega) (by omega)]; exact h1 k hk
    · rw [g 38 k (by omega) (by omega) (by omega), g 138 k (by omega) (by omega) (by omega)]; exact h2 k hk
    · rw [g 37 1 (by omega) (by omega) (by omega), g 107 54 (by omega) (by omega) (by omega)]; exact h3
    · rw [g 37 1 (by omega) (by omega) (by omega)] at hj
      rw [g 41 i (by omega) (by omega) (by omega), g 42 i (by omega) (by omega) (by omega), g 43 i (by omega) (by omega) (by omega), g 44 i (by omega) (by omega) (by omega), g 144 i (by omega) (by omega) (by omega), g 145 i (by omega) (by omega) (by omega), g 146 i (by omega) (by omega) (by omega), g 147 i (by omega) (by omega) (by omega)]
      exact h4 i hi hj
    · by_cases c : k = s
      · rw [en_up_ne _ _ _ _ (by omega), eI, en_up_ne _ _ _ _ (by omega), ← c, en_up_eq, en_up_eq]
      · rw [en_up_ne _ _ _ _ (by omega), eI, en_up_ne _ _ _ _ (by omega), en_up_ne _ _ _ _ (by omega), en_up_ne _ _ _ _ (by omega), en_up_ne _ _ _ _ (by omega), en_up_ne _ _ _ _ (by omega)]; exact h5 k hk
    · rw [g 107 18 (by omega) (by omega) (by omega)]; exact hrf.2.2.2.2
end
