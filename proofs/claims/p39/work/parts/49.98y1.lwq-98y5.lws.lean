section
/-! THE LAW: pairs of calls that are exact on both sides -/
section
variable {S : sm_C} {I : sm_I} {L : sm_L} {R : sm_R} {r : Int32}
theorem q_at {qt l : Nat} {c j : Nat} {a : sg} (hq : qt = 12 ∨ qt = 49) (k : ∀ c j, 12 ≤ c → c < 34 → c ≠ 13 → ¬ (c = 12 ∧ j = 5) → I (c + (qt - 12)) j = a.1 c j) (j5 : j ≠ 5) : I qt j = a.1 12 j := by
  have h := k 12 j (by omega) (by omega) (by omega) (by omega)
  rw [show 12 + (qt - 12) = qt by omega] at h
  exact h
theorem q_cnt {qt l : Nat} (hq : qt = 12 ∨ qt = 49) (k : tdE qt l I) : I qt 0 = I 118 l ∧ I qt 1 = I 119 l ∧ I qt 2 = I 122 l ∧ I qt 3 = I 125 l ∧ I qt 4 = I 136 l ∧ I qt 6 = sb (fun i => I 126 (10 * l + i)) (I 125 l).toNatClampNeg := by
  obtain ⟨⟨a, k1, ⟨c1, c2, c3, c4, c5⟩, -, -, ⟨-, c6⟩, -⟩, -⟩ := k
  exact ⟨(q_at (l := l) (c := 0) hq k1 (by decide)).trans c1, (q_at (l := l) (c := 0) hq k1 (by decide)).trans c2, (q_at (l := l) (c := 0) hq k1 (by decide)).trans c3, (q_at (l := l) (c := 0) hq k1 (by decide)).trans c4, (q_at (l := l) (c := 0) hq k1 (by decide)).trans c5, (q_at (l := l) (c := 0) hq k1 (by decide)).trans c6⟩
theorem q_b {l : Nat} (l1 : l ≤ 1) (m : en_mem ml_tb mlX (xLay, I, L, R)) : (0 ≤ (I 122 l).toInt ∧ (I 122 l).toInt ≤ 10) ∧ (0 ≤ (I 125 l).toInt ∧ (I 125 l).toInt ≤ 10) := ⟨(ml_cs l1 m).2.2.1, (ml_cs l1 m).2.2.2.1⟩
/-- one bit laid, one taken away -/
theorem q_m1 : ∀ k, k < 32 → (-1 : Int32).toBitVec.getLsbD k = true := by decide +kernel
theorem q_bit {x : Int32} {n k : Nat} (hx : x.toInt = n) (hn : n < 10) (hk : k < 32) : ((1 : Int32) <<< (x &&& 31)).toBitVec.getLsbD k = decide (k = n) := by
  have e : x = Int32.ofNat n := en_ofI (by rw [hx, Int32.toInt_ofNat_of_lt (by omega)])
  rw [e]; exact sb_one n hn k hk
theorem q_or {z x : Int32} {n k : Nat} (hx : x.toInt = n) (hn : n < 10) (hk : k < 32) : (z ||| ((1 : Int32) <<< (x &&& 31))).toBitVec.getLsbD k = (z.toBitVec.getLsbD k || decide (k = n)) := by
  rw [Int32.toBitVec_or, BitVec.getLsbD_or, q_bit hx hn hk]
theorem q_an {z x : Int32} {n k : Nat} (hx : x.toInt = n) (hn : n < 10) (hk : k < 32) : (z &&& (((1 : Int32) <<< (x &&& 31)) ^^^ (-1 : Int32))).toBitVec.getLsbD k = (z.toBitVec.getLsbD k && !decide (k = n)) := by
  rw [Int32.toBitVec_and, BitVec.getLsbD_and, Int32.toBitVec_xor, BitVec.getLsbD_xor, q_bit hx hn hk, q_m1 k hk]
  cases decide (k = n) <;> rfl
/-- feed -/
def XfeedK (x1 x2 x3 x4 x5 : Int32) (I : sm_I) (_ : sm_L) (R : sm_R) (r : Int32) (I1 : sm_I) (_ : sm_L) (R1 : sm_R) : Prop := R1 = R ∧ ((1980 < (I 0 10).toInt ∧ r = -1 ∧ I1 = I) ∨ ((I 0 10).toInt ≤ 1980 ∧ r = I1 0 10 ∧ (I1 0 10).toInt = (I 0 10).toInt + 20 ∧ (∀ p j, ¬ (p = 0 ∧ j = 10) → p ≠ 1 → I1 p j = I p j) ∧ ∀ j, I1 1 j = pt_f x1 x2 x3 x4 x5 (I 0 10).toInt (I 1) j))
theorem fr_2 {p0 j0 p1 : Nat} {w w' : sm_W} (h : en_fr [(p0, [j0]), (p1, [])] w w') (p j : Nat) (a : ¬ (p = p0 ∧ j = j0)) (b : p ≠ p1) : w'.2.1 p j = w.2.1 p j := by
  refine (h.2 p j ?_).1
  unfold en_wok
  simp only [List.any_cons, List.any_nil, Bool.or_false]
  cases c1 : Nat.beq p0 p with
  | true =>
    have e1 := Nat.eq_of_beq_eq_true c1
    cases c2 : Nat.beq j0 j with
    | true => exact absurd ⟨e1.symm, (Nat.eq_of_beq_eq_true c2).symm⟩ a
    | false =>
      cases c3 : Nat.beq p1 p with
      | true => exact absurd (Nat.eq_of_beq_eq_true c3).symm b
      | false => rfl
  | false =>
    cases c3 : Nat.beq p1 p with
    | true => exact absurd (Nat.eq_of_beq_eq_true c3).symm b
    | false => rfl
theorem bk_feed {x1 x2 x3 x4 x5 : Int32} (hI : lw_I I L R) : sm_wp sm_P S (58 + 1) 42 0 [.ref 0, .int x1, .int x2, .int x3, .int x4, .int x5] [] (xLay, I, L, R) (0, 0) (fun z => ∃ (r : Int32) (I2 : sm_I) (L2 : sm_L) (R2 : sm_R), z = (some (.int r), (xLay, I2, L2, R2)) ∧ XfeedK x1 x2 x3 x4 x5 I L R r I2 L2 R2) := kp_feed hI.1 (fun c => ⟨_, I, L, R, rfl, rfl, Or.inl ⟨c, rfl, rfl⟩⟩) (fun I1 c _ t1 f1 g1 => ⟨_, I1, L, R, rfl, rfl, Or.inr ⟨c, rfl, t1, fun p j a b => fr_2 f1 p j a b, g1⟩⟩)
theorem bm_feed {x1 x2 x3 x4 x5 : Int32} (hI : MD (XfeedK x1 x2 x3 x4 x5) r I L R) : sm_wp sm_P S (58 + 1) 124 0 [.ref 107, .int x1, .int x2, .int x3, .int x4, .int x5] [] (xLay, I, L, R) (0, 0) (fun z => ∃ (r' : Int32) (I2 : sm_I) (L2 : sm_L) (R2 : sm_R), z = (some (.int r'), (xLay, I2, L2, R2)) ∧ r = r' ∧ ((∀ p j, p < 107 → I2 p j = I p j ∧ R2 p j = R p j) → LJ I2 R2)) := by
  obtain ⟨I0, L0, R0, hI0, mk, o, eR, X⟩ := hI
  have mm := MD_m (X := XfeedK x1 x2 x3 x4 x5) hI0 mk o
  obtain ⟨-, -, k⟩ := hI0
  obtain ⟨⟨t1, t2, t3⟩, hd, qt, qi, l, hrf, htd⟩ := k
  have e2 : I 107 2 = I0 107 2 := (o 107 2 (by omega)).1
  rcases X with ⟨c, er, eI⟩ | ⟨c, er, t4, f1, g1⟩
  · subst eI
    subst eR
    refine mp_feed mm (fun _ => ⟨_, I, L, R, rfl, er, fun _ => ⟨⟨t1, t2, t3⟩, hd, qt, qi, l, hrf, htd⟩⟩) (fun J c' _ _ _ _ => ?_)
    exfalso
    rw [t1] at c
    omega
  · refine mp_feed mm (fun c' => ?_) (fun J c' mJ tJ fJ gJ => ?_)
    · exfalso
      rw [e2, ← t1] at c'
      omega
    · have fm := fr_2 fJ
      have fm : ∀ p j, ¬ (p = 107 ∧ j = 2) → p ≠ 108 → J p j = I p j := fm
      have len : I 0 10 = J 107 2 := en_ofI (by rw [t4, tJ, e2, t1])
      refine ⟨_, J, L, R, rfl, by rw [er, len], fun f => ⟨⟨?_, fun j hj => ?_, ?_⟩, hdE_cg (I := I0) (fun p j q => ?_) hd, qt, qi, l, ⟨hrf.1, hrf.2.1, by rw [eR]; exact hrf.2.2.1, by rw [eR]; exact hrf.2.2.2.1, ?_⟩, tdE_cg (I := I0) (by have := hrf.1; omega) (fun p j q => ?_) htd⟩⟩
      · rw [(f 0 10 (by omega)).1]; exact len
      · rw [(f 0 10 (by omega)).1, t4] at hj
        have r2 : I 108 = I0 108 := funext (fun j => (o 108 j (by omega)).1)
        rw [(f 1 j (by omega)).1, g1 j, gJ j, e2, r2, ← t1]
        exact pt_f_eq (fun j hj => t2 j hj) j hj
      · rw [(f 0 11 (by omega)).1, f1 0 11 (by omega) (by omega), fm 107 17 (by omega) (by omega), (o 107 17 (by omega)).1]; exact t3
      · rcases Nat.lt_or_ge p 107 with c | c
        · rw [(f p j c).1]; exact f1 p j (by omega) (by omega)
        · rw [fm p j (by omega) (by omega)]; exact (o p j c).1
      · rw [fm 107 18 (by omega) (by omega), (o 107 18 (by omega)).1]; exact hrf.2.2.2.2
      · rcases Nat.lt_or_ge p 107 with c | c
        · rw [(f p j c).1]; exact f1 p j (by omega) (by omega)
        · rw [fm p j (by omega) (by omega)]; exact (o p j c).1
/-- back -/
def XbackK (x : Int32) (I : sm_I) (_ : sm_L) (R : sm_R) (r : Int32) (I1 : sm_I) (_ : sm_L) (R1 : sm_R) : Prop := R1 = R ∧ (((x.toInt < 0 ∨ (I 0 10).toInt < x.toInt) ∧ r = -1 ∧ I1 = I) ∨ (0 ≤ x.toInt ∧ x.toInt ≤ (I 0 10).toInt ∧ r = I 0 10 - x ∧ I1 = sm_up I 0 10 (I 0 10 - x)))
theorem bk_back {x : Int32} (hI : lw_I I L R) : sm_wp sm_P S 59 30 0 [.ref 0, .int x] [] (xLay, I, L, R) (0, 0) (fun z => ∃ (r : Int32) (I2 : sm_I) (L2 : sm_L) (R2 : sm_R), z = (some (.int r), (xLay, I2, L2, R2)) ∧ XbackK x I L R r I2 L2 R2) := kx_back hI.1 (fun c => ⟨_, I, L, R, rfl, rfl, Or.inl ⟨c, rfl, rfl⟩⟩) (fun I1 p1 p2 e1 _ => ⟨_, I1, L, R, rfl, rfl, Or.inr ⟨p1, p2, rfl, e1⟩⟩)
theorem bm_back {x : Int32} (hI : MD (XbackK x) r I L R) : sm_wp sm_P S 59 99 0 [.ref 107, .int x] [] (xLay, I, L, R) (0, 0) (fun z => ∃ (r' : Int32) (I2 : sm_I) (L2 : sm_L) (R2 : sm_R), z = (some (.int r'), (xLay, I2, L2, R2)) ∧ r = r' ∧ ((∀ p j, p < 107 → I2 p j = I p j ∧ R2 p j = R p j) → LJ I2 R2)) := by
  obtain ⟨I0, L0, R0, hI0, mk, o, eR, X⟩ := hI
  have mm := MD_m (X := XbackK x) hI0 mk o
  obtain ⟨-, -, k⟩ := hI0
  obtain ⟨⟨t1, t2, t3⟩, hd, qt, qi, l, hrf, htd⟩ := k
  have e2 : I 107 2 = I0 107 2 := (o 107 2 (by omega)).1
  rcases X with ⟨c, er, eI⟩ | ⟨p1, p2, er, e1⟩
  · subst eI
    subst eR
    refine mx_back mm (fun _ => ⟨_, I, L, R, rfl, er, fun _ => ⟨⟨t1, t2, t3⟩, hd, qt, qi, l, hrf, htd⟩⟩) (fun J d1 d2 _ _ mJ => ?_)
    exfalso
    rw [t1] at c
    omega
  · refine mx_back mm (fun c' => ?_) (fun J d1 d2 eJ s1 mJ => ?_)
    · exfalso
      rw [e2, ← t1] at c'
      omega
    · refine ⟨_, J, L, R, rfl, by rw [er, e2, t1], fun _ => ?_⟩
      have g : ∀ p j, ¬ (p = 0 ∧ j = 10) → ¬ (p = 107 ∧ j = 2) → J p j = I0 p j := fun p j a b => by
        rw [eJ, en_up_ne _ _ _ _ b, e1, en_up_ne _ _ _ _ a]
      have l1 : J 0 10 = I0 0 10 - x := by rw [eJ, en_up_ne _ _ _ _ (by omega), e1, en_up_eq]
      refine ⟨⟨?_, fun j hj => ?_, ?_⟩, hdE_cg (I := I0) (fun p j q => g p j (by omega) (by omega)) hd, qt, qi, l, ⟨hrf.1, hrf.2.1, by rw [eR]; exact hrf.2.2.1, by rw [eR]; exact hrf.2.2.2.1, by rw [g 107 18 (by omega) (by omega)]; exact hrf.2.2.2.2⟩, tdE_cg (I := I0) (by have := hrf.1; omega) (fun p j q => g p j (by omega) (by omega)) htd⟩
      · rw [l1, eJ, en_up_eq, e2, t1]
      · rw [l1, t1, ← e2, s1, e2, ← t1] at hj
        rw [g 1 j (by omega) (by omega), g 108 j (by omega) (by omega)]
        exact t2 j (by omega)
      · rw [g 0 11 (by omega) (by omega), g 107 17 (by omega) (by omega)]; exact t3
/-- doubt -/
def dbok (I : sm_I) (qt : Nat) (x : Int32) : Prop := 0 ≤ x.toInt ∧ x.toInt < (I qt 3).toInt ∧ ((I qt 6) >>> (x &&& 31)) &&& (1 : Int32) = 0
def XdoubtK (x y : Int32) (I : sm_I) (_ : sm_L) (R : sm_R) (r : Int32) (I1 : sm_I) (_ : sm_L) (R1 : sm_R) : Prop := R1 = R ∧ ∀ qt, R 0 9 = some qt → (dbok I qt x ∧ r = 1 ∧ I1 = stI (dbK x y I)) ∨ (¬ dbok I qt x ∧ r = 0 ∧ I1 = I)
theorem q_kP {qt : Nat} (hI : en_mem kl_tb klX (xLay, I, L, R)) (h : R 0 9 = some qt) : kP qt R = R := kP_eq (w := (xLay, I, L, R)) hI h
theorem q_k3 {qt : Nat} (hI : en_mem kl_tb klX (xLay, I, L, R)) (h : qt = 12 ∨ qt = 49) : (I qt 2).toInt ≤ 10 ∧ (I qt 3).toInt ≤ 10 := by
  rcases h with e | e <;> subst e
  · exact ⟨(hI.2.1 12 2 (0, 10) (by decide +kernel)).2, (hI.2.1 12 3 (0, 10) (by decide +kernel)).2⟩
  · exact ⟨(hI.2.1 49 2 (0, 10) (by decide +kernel)).2, (hI.2.1 49 3 (0, 10) (by decide +kernel)).2⟩
theorem bk_doubt {x y : Int32} (hI : lw_I I L R) : sm_wp sm_P S (57 + 2) 39 0 [.ref 0, .int x, .int y] [] (xLay, I, L, R) (0, 0) (fun z => ∃ (r : Int32) (I2 : sm_I) (L2 : sm_L) (R2 : sm_R), z = (some (.int r), (xLay, I2, L2, R2)) ∧ XdoubtK x y I L R r I2 L2 R2) := by
  obtain ⟨m, -, -, -, qt, qi, l, hrf, -⟩ := hI
  have e : kP qt R = R := q_kP m hrf.2.2.1
  have b := q_k3 m (qt := qt) (by have := hrf.1; omega)
  have un : ∀ q, R 0 9 = some q → q = qt := fun q h => Option.some.inj (h.symm.trans hrf.2.2.1)
  have g := kp_doubt (S := S) (d := 57) (L := L) (R := R) (x := x) (y := y) (Φ := fun z => ∃ (r : Int32) (I2 : sm_I) (L2 : sm_L) (R2 : sm_R), z = (some (.int r), (xLay, I2, L2, R2)) ∧ XdoubtK x y I L R r I2 L2 R2) (by have := hrf.1; omega) b.2 (fun c => ⟨_, I, L, _, rfl, e, fun q h => Or.inr ⟨by rw [un q h]; exact c, rfl, rfl⟩⟩) (fun a1 a2 a3 => ⟨_, _, L, _, rfl, e, fun q h => Or.inl ⟨by rw [un q h]; exact ⟨a1, a2, a3⟩, rfl, rfl⟩⟩)
  rw [e] at g
  exact g
/-- set -/
def stok (n : Int) (x y : Int32) : Prop := (0 ≤ x.toInt ∧ x.toInt < n) ∧ (y = -1 ∨ (0 ≤ y.toInt ∧ y.toInt ≤ 1440))
def XsetK (x y : Int32) (I : sm_I) (_ : sm_L) (R : sm_R) (r : Int32) (I1 : sm_I) (_ : sm_L) (R1 : sm_R) : Prop := R1 = R ∧ ∀ qt, R 0 9 = some qt → (stok (I qt 2).toInt x y ∧ r = 1 ∧ I1 = sm_up I 38 x.toNatClampNeg y) ∨ (¬ stok (I qt 2).toInt x y ∧ r = 0 ∧ I1 = I)
theorem bk_set {x y : Int32} (hI : lw_I I L R) : sm_wp sm_P S (58 + 1) 83 0 [.ref 0, .int x, .int y] [] (xLay, I, L, R) (0, 0) (fun z => ∃ (r : Int32) (I2 : sm_I) (L2 : sm_L) (R2 : sm_R), z = (some (.int r), (xLay, I2, L2, R2)) ∧ XsetK x y I L R r I2 L2 R2) := by
  obtain ⟨m, -, -, -, qt, qi, l, hrf, -⟩ := hI
  have e : kP qt R = R := q_kP m hrf.2.2.1
  have b := q_k3 m (qt := qt) (by have := hrf.1; omega)
  have un : ∀ q, R 0 9 = some q → q = qt := fun q h => Option.some.inj (h.symm.trans hrf.2.2.1)
  have g := kp_set (S := S) (d := 58) (L := L) (R := R) (x := x) (y := y) (Φ := fun z => ∃ (r : Int32) (I2 : sm_I) (L2 : sm_L) (R2 : sm_R), z = (some (.int r), (xLay, I2, L2, R2)) ∧ XsetK x y I L R r I2 L2 R2) (by have := hrf.1; omega) b.1 (fun c => ⟨_, I, L, _, rfl, e, fun q h => Or.inr ⟨by rw [un q h]; exact c, rfl, rfl⟩⟩) (fun a1 a2 a3 => ⟨_, _, L, _, rfl, e, fun q h => Or.inl ⟨by rw [un q h]; exact ⟨⟨a1, a2⟩, a3⟩, rfl, rfl⟩⟩)
  rw [e] at g
  exact g
theorem bm_set {x y : Int32} (hI : MD (XsetK x y) r I L R) : sm_wp sm_P S (57 + 2) 188 0 [.ref 107, .int x, .int y] [] (xLay, I, L, R) (0, 0) (fun z => ∃ (r' : Int32) (I2 : sm_I) (L2 : sm_L) (R2 : sm_R), z = (some (.int r'), (xLay, I2, L2, R2)) ∧ r = r' ∧ ((∀ p j, p < 107 → I2 p j = I p j ∧ R2 p j = R p j) → LJ I2 R2)) := by
  obtain ⟨I0, L0, R0, hI0, mk, o, eR, X⟩ := hI
  have mm := MD_m (X := XsetK x y) hI0 mk o
  obtain ⟨m0, n0, k⟩ := hI0
  obtain ⟨tp, hd, qt, qi, l, hrf, htd⟩ := k
  have X := X qt hrf.2.2.1
  have hq : qt = 12 ∨ qt = 49 := by have := hrf.1; omega
  obtain ⟨-, -, c2, -, -, -⟩ := q_cnt hq htd
  have l1 := hrf.2.1
  have b := (q_b l1 mm).1
  have e122 : I 122 l = I0 122 l := (o 122 l (by omega)).1
  have hl : (I 107 18).toInt = l := by rw [(o 107 18 (by omega)).1]; exact hrf.2.2.2.2
  rw [c2, ← e122] at X
  have e : kM R = R := ml_R mm
  have g := yp_set (S := S) (d := 57) (L := L) (R := R) (x := x) (y := y) (Φ := fun z => ∃ (r' : Int32) (I2 : sm_I) (L2 : sm_L) (R2 : sm_R), z = (some (.int r'), (xLay, I2, L2, R2)) ∧ r = r' ∧ ((∀ p j, p < 107 → I2 p j = I p j ∧ R2 p j = R p j) → LJ I2 R2)) hl l1 b (fun c => ?_) (fun a1 a2 a3 => ?_)
  · rw [e] at g
    exact g
  · rcases X with ⟨x1, -, -⟩ | ⟨-, er, eI⟩
    · exact absurd x1 c
    · subst eI
      exact ⟨_, I, L, _, rfl, er, fun _ => by rw [e, eR]; exact ⟨tp, hd, qt, qi, l, hrf, htd⟩⟩
  · rcases X with ⟨x1, er, eI⟩ | ⟨x1, -, -⟩
    rotate_left
    · exact absurd ⟨⟨a1, a2⟩, a3⟩ x1
    refine ⟨_, _, L, _, rfl, er, fun _ => ?_⟩
    rw [e, eR]
    have g : ∀ p j, p ≠ 38 → p ≠ 138 → sm_up I 138 x.toNatClampNeg y p j = I0 p j := fun p j a b => by
      rw [en_up_ne _ _ _ _ (by omega), eI, en_up_ne _ _ _ _ (by omega)]
    obtain ⟨h1, h2, h3, h4, h5⟩ := hd
    refine ⟨tpE_cg (I := I0) (fun p j q => g p j (by omega) (by omega)) tp, ⟨fun k hk => ?_, fun k hk => ?_, ?_, fun i hi hj => ?_, fun k hk => ?_⟩, qt, qi, l, ⟨hrf.1, hrf.2.1, hrf.2.2.1, hrf.2.2.2.1, ?_⟩, tdE_cg (I := I0) hq (fun p j q => g p j (by omega) (by omega)) htd⟩
    · rw [g 37 0 (by omega) (by omega), g 137 k (by omega) (by omega)]; exact h1 k hk
    · by_cases c : k = x.toNatClampNeg
      · rw [en_up_ne _ _ _ _ (by omega), eI, ← c, en_up_eq, en_up_eq]
      · rw [en_up_ne _ _ _ _ (by omega), eI, en_up_ne _ _ _ _ (by omega), en_up_ne _ _ _ _ (by omega), en_up_ne _ _ _ _ (by omega)]; exact h2 k hk
    · rw [g 37 1 (by omega) (by omega), g 107 54 (by omega) (by omega)]; exact h3
    · rw [g 37 1 (by omega) (by omega)] at hj
      rw [g 41 i (by omega) (by omega), g 42 i (by omega) (by omega), g 43 i (by omega) (by omega), g 44 i (by omega) (by omega), g 144 i (by omega) (by omega), g 145 i (by omega) (by omega), g 146 i (by omega) (by omega), g 147 i (by omega) (by omega)]
      exact h4 i hi hj
    · rw [g 39 k (by omega) (by omega), g 160 k (by omega) (by omega)]; exact h5 k hk
    · rw [g 107 18 (by omega) (by omega)]; exact hrf.2.2.2.2
/-- more -/
def XmoreK (x y a b : Int32) (I : sm_I) (_ : sm_L) (R : sm_R) (r : Int32) (I1 : sm_I) (_ : sm_L) (R1 : sm_R) : Prop := R1 = R ∧ ∀ qt, R 0 9 = some qt → (mrok (I qt 2).toInt (I 37 1).toInt x y a b ∧ r = I 37 1 + 1 ∧ I1 = stI (mrK x y a b I)) ∨ (¬ mrok (I qt 2).toInt (I 37 1).toInt x y a b ∧ r = -1 ∧ I1 = I)
theorem q_m {I : sm_I} {L : sm_L} {R : sm_R} (m : en_mem ml_tb mlX (xLay, I, L, R)) : 0 ≤ (I 107 54).toInt ∧ (I 107 54).toInt ≤ 6 := m.2.1 107 54 (0, 6) (by decide +kernel)
theorem q_k {I : sm_I} {L : sm_L} {R : sm_R} (m : en_mem kl_tb klX (xLay, I, L, R)) : 0 ≤ (I 37 1).toInt ∧ (I 37 1).toInt ≤ 6 := m.2.1 37 1 (0, 6) (by decide +kernel)
theorem bk_more {x y a b : Int32} (hI : lw_I I L R) : sm_wp sm_P S (57 + 2) 69 0 [.ref 0, .int x, .int y, .int a, .int b] [] (xLay, I, L, R) (0, 0) (fun z => ∃ (r : Int32) (I2 : sm_I) (L2 : sm_L) (R2 : sm_R), z = (some (.int r), (xLay, I2, L2, R2)) ∧ XmoreK x y a b I L R r I2 L2 R2) := by
  obtain ⟨m, -, -, -, qt, qi, l, hrf, -⟩ := hI
  have e : kP qt R = R := q_kP m hrf.2.2.1
  have un : ∀ q, R 0 9 = some q → q = qt := fun q h => Option.some.inj (h.symm.trans hrf.2.2.1)
  have g := kp_more (S := S) (d := 57) (L := L) (R := R) (q := qt) (x := x) (y := y) (a := a) (b := b) (Φ := fun z => ∃ (r : Int32) (I2 : sm_I) (L2 : sm_L) (R2 : sm_R), z = (some (.int r), (xLay, I2, L2, R2)) ∧ XmoreK x y a b I L R r I2 L2 R2) (by have := hrf.1; omega) (q_k m).1 (fun c => ⟨_, I, L, _, rfl, e, fun q h => Or.inr ⟨by rw [un q h]; exact c, rfl, rfl⟩⟩) (fun c => ⟨_, _, L, _, rfl, e, fun q h => Or.inl ⟨by rw [un q h]; exact c, rfl, rfl⟩⟩)
  rw [e] at g
  exact g
/-- fewer -/
def XfewerK (I : sm_I) (_ : sm_L) (R : sm_R) (r : Int32) (I1 : sm_I) (_ : sm_L) (R1 : sm_R) : Prop := R1 = R ∧ ((0 < (I 37 1).toInt ∧ r = I 37 1 - 1 ∧ I1 = stI (sm_up I 37 1 (I 37 1 - 1))) ∨ ((I 37 1).toInt ≤ 0 ∧ r = -1 ∧ I1 = I))
theorem bk_fewer (hI : lw_I I L R) : sm_wp sm_P S (58 + 1) 43 0 [.ref 0] [] (xLay, I, L, R) (0, 0) (fun z => ∃ (r : Int32) (I2 : sm_I) (L2 : sm_L) (R2 : sm_R), z = (some (.int r), (xLay, I2, L2, R2)) ∧ XfewerK I L R r I2 L2 R2) := by
  obtain ⟨m, -, -, -, qt, qi, l, hrf, -⟩ := hI
  have e : kP qt R = R := q_kP m hrf.2.2.1
  have g := kp_fewer (S := S) (d := 58) (L := L) (R := R) (q := qt) (Φ := fun z => ∃ (r : Int32) (I2 : sm_I) (L2 : sm_L) (R2 : sm_R), z = (some (.int r), (xLay, I2, L2, R2)) ∧ XfewerK I L R r I2 L2 R2) (fun c => ⟨_, I, L, _, rfl, e, Or.inr ⟨c, rfl, rfl⟩⟩) (fun c => ⟨_, _, L, _, rfl, e, Or.inl ⟨c, rfl, rfl⟩⟩)
  rw [e] at g
  exact g
end
end
section
/-! THE LAW: bears, walk, move, breaks, pick on both sides (wip/pe/mky1b.py) -/
section
variable {S : sm_C} {I : sm_I} {L : sm_L} {R : sm_R} {r : Int32}
theorem kl_rw {w : sm_W} (hm : en_mem kl_tb klX w) {p n : Nat} {q : Int × Int} (e : ∀ j, en_int kl_tb p j = bif Nat.blt j n then some q else none) (j : Nat) (hj : j < n) : q.1 ≤ (w.2.1 p j).toInt ∧ (w.2.1 p j).toInt ≤ q.2 := hm.2.1 p j q (by rw [e j, show Nat.blt j n = true from Nat.ble_eq_true_of_le hj]; rfl)
theorem q_un {qt : Nat} (h : R 0 9 = some qt) : ∀ q, R 0 9 = some q → q = qt := fun q g => Option.some.inj (g.symm.trans h)
theorem q_c46 (m : en_mem ml_tb mlX (xLay, I, L, R)) : 0 ≤ (I 107 46).toInt ∧ (I 107 46).toInt ≤ 45 := m.2.1 107 46 (0, 45) (by decide +kernel)
/-- pick -/
def XpickK (x y : Int32) (I : sm_I) (_ : sm_L) (R : sm_R) (r : Int32) (I1 : sm_I) (_ : sm_L) (R1 : sm_R) : Prop := R1 = R ∧ ∀ qt, R 0 9 = some qt → (∃ s ch, s < 55 ∧ pks qt I x s ch ∧ -1 ≤ y.toInt ∧ y.toInt < ch ∧ r = 1 ∧ I1 = sm_up (sm_up I 39 s y) 98 9 0) ∨ ((∀ s ch, pks qt I x s ch → ¬ (-1 ≤ y.toInt ∧ y.toInt < ch)) ∧ r = 0 ∧ I1 = I)
theorem bk_pick {x y : Int32} (hI : lw_I I L R) : sm_wp sm_P S (58 + 1) 72 0 [.ref 0, .int x, .int y] [] (xLay, I, L, R) (0, 0) (fun z => ∃ (r : Int32) (I2 : sm_I) (L2 : sm_L) (R2 : sm_R), z = (some (.int r), (xLay, I2, L2, R2)) ∧ XpickK x y I L R r I2 L2 R2) := by
  obtain ⟨m, -, -, -, qt, qi, l, hrf, -⟩ := hI
  have un := q_un hrf.2.2.1
  have hq : qt = 12 ∨ qt = 49 := by have := hrf.1; omega
  rcases hq with e | e <;> subst e
  · have e : kD12 R = R := kD12_eq (w := (xLay, I, L, R)) m hrf.2.2.1
    have b5 := (m.2.1 12 5 (0, 45) (by decide +kernel)).2
    have b3 := (m.2.1 12 3 (0, 10) (by decide +kernel)).2
    have g := b12_pick (S := S) (d := 58) (L := L) (R := R) (I := I) (x := x) (y := y) (Φ := fun z => ∃ (r : Int32) (I2 : sm_I) (L2 : sm_L) (R2 : sm_R), z = (some (.int r), (xLay, I2, L2, R2)) ∧ XpickK x y I L R r I2 L2 R2) b3 b5 (fun j hj => (kl_rw m (p := 22) (n := 10) (q := (0, 4)) (fun _ => rfl) j hj).1) (fun c => ⟨_, I, L, _, rfl, e, fun q h => Or.inr ⟨by rw [un q h]; exact c, rfl, rfl⟩⟩) (fun s ch s55 p y1 y2 => ⟨_, _, L, _, rfl, e, fun q h => Or.inl ⟨s, ch, s55, by rw [un q h]; exact p, y1, y2, rfl, rfl⟩⟩)
    rw [e] at g
    exact g
  · have e : kD49 R = R := kD49_eq (w := (xLay, I, L, R)) m hrf.2.2.1
    have b5 := (m.2.1 49 5 (0, 45) (by decide +kernel)).2
    have b3 := (m.2.1 49 3 (0, 10) (by decide +kernel)).2
    have g := b49_pick (S := S) (d := 58) (L := L) (R := R) (I := I) (x := x) (y := y) (Φ := fun z => ∃ (r : Int32) (I2 : sm_I) (L2 : sm_L) (R2 : sm_R), z = (some (.int r), (xLay, I2, L2, R2)) ∧ XpickK x y I L R r I2 L2 R2) b3 b5 (fun j hj => (kl_rw m (p := 59) (n := 10) (q := (0, 4)) (fun _ => rfl) j hj).1) (fun c => ⟨_, I, L, _, rfl, e, fun q h => Or.inr ⟨by rw [un q h]; exact c, rfl, rfl⟩⟩) (fun s ch s55 p y1 y2 => ⟨_, _, L, _, rfl, e, fun q h => Or.inl ⟨s, ch, s55, by rw [un q h]; exact p, y1, y2, rfl, rfl⟩⟩)
    rw [e] at g
    exact g
theorem bm_pick {x y : Int32} (hI : MD (XpickK x y) r I L R) : sm_wp sm_P S (56 + 3) 172 0 [.ref 107, .int x, .int y] [] (xLay, I, L, R) (0, 0) (fun z => ∃ (r' : Int32) (I2 : sm_I) (L2 : sm_L) (R2 : sm_R), z = (some (.int r'), (xLay, I2, L2, R2)) ∧ r = r' ∧ ((∀ p j, p < 107 → I2 p j = I p j ∧ R2 p j = R p j) → LJ I2 R2)) := by
  obtain ⟨I0, L0, R0, hI0, mk, o, eR, X⟩ := hI
  have mm := MD_m (X := XpickK x y) hI0 mk o
  obtain ⟨m0, n0, k⟩ := hI0
  obtain ⟨tp, hd, qt, qi, l, hrf, htd⟩ := k
  have X := X qt hrf.2.2.1
  have hq : qt = 12 ∨ qt = 49 := by have := hrf.1; omega
  obtain ⟨-, -, -, c3, -, -⟩ := q_cnt hq htd
  have htd0 := htd
  obtain ⟨⟨a, k1, -, -, -, ⟨hY, -⟩, -⟩, -, w2, w3⟩ := htd0
  have l1 := hrf.2.1
  have bb := (q_b l1 mm).2
  have b46 := q_c46 mm
  have e125 : I 125 l = I0 125 l := (o 125 l (by omega)).1
  have e46 : I 107 46 = I0 107 46 := (o 107 46 (by omega)).1
  have hl : (I 107 18).toInt = l := by rw [(o 107 18 (by omega)).1]; exact hrf.2.2.2.2
  have k3 : (I0 qt 3).toInt ≤ 10 := by rw [c3, ← e125]; exact bb.2
  -- the same items
  have A : ∀ s : Nat, s < 10 → x.toInt = s → ((((I0 37 0) >>> (x &&& 31)) &&& (1 : Int32) = 0) ↔ I 137 s = 0) := fun s hs hx => by
    rw [sb_test (I0 37 0) x s hs hx, hd.1 s hs, (o 137 s (by omega)).1]
    simp
  have B : ∀ s : Nat, (s : Int) < (I 125 l).toInt → I0 (qt + 10) s = I 128 (10 * l + s) := fun s hs => by
    obtain ⟨-, y2, -⟩ := hY s (by omega) (by rw [← e125]; exact hs)
    have h := k1 22 s (by decide) (by decide) (by decide) (by omega)
    rw [show qt + 10 = 22 + (qt - 12) by omega, h, y2, (o 128 _ (by omega)).1]
  have C : ∀ j : Nat, (j : Int) < (I 107 46).toInt → (if 0 ≤ (I0 (qt + 24) j).toInt then (2 : Int) else 0) = if I 142 j = -1 then 0 else 2 := fun j hj => by
    obtain ⟨-, -, r3, -⟩ := w3 j (by rw [← e46]; exact hj)
    rw [(o 142 j (by omega)).1]
    rcases r3 with ⟨h1, h2⟩ | ⟨h1, -, h3⟩
    · rw [if_pos h2, h1]; rfl
    · rw [h3, if_pos h1, if_neg (fun q => by rw [q] at h1; exact absurd h1 (by decide))]
  have lk : ∀ s ch, pks qt I0 x s ch ↔ pkm l I x s ch := fun s ch => by
    unfold pks pkm
    rw [c3, ← e125, w2, ← e46]
    constructor
    · rintro (⟨a1, a2, a3, a4, a5⟩ | ⟨a1, a2, a3, a4⟩)
      · exact Or.inl ⟨a1, a2, (A s (by omega) a4).mp a3, a4, by rw [a5, B s (by omega)]⟩
      · exact Or.inr ⟨a1, a2, a3, by rw [a4, C (s - 10) (by omega)]⟩
    · rintro (⟨a1, a2, a3, a4, a5⟩ | ⟨a1, a2, a3, a4⟩)
      · exact Or.inl ⟨a1, a2, (A s (by omega) a4).mpr a3, a4, by rw [a5, B s (by omega)]⟩
      · exact Or.inr ⟨a1, a2, a3, by rw [a4, C (s - 10) (by omega)]⟩
  have e : kM R = R := ml_R mm
  have g := bx_pick (S := S) (d := 56) (L := L) (R := R) (I := I) (x := x) (y := y) (l := l) (Φ := fun z => ∃ (r' : Int32) (I2 : sm_I) (L2 : sm_L) (R2 : sm_R), z = (some (.int r'), (xLay, I2, L2, R2)) ∧ r = r' ∧ ((∀ p j, p < 107 → I2 p j = I p j ∧ R2 p j = R p j) → LJ I2 R2)) hl l1 bb b46 (fun j hj => ml_row mm (p := 128) (n := 20) (q := (0, 4)) (fun _ => rfl) j hj) (fun c => ?_) (fun s ch s55 p y1 y2 => ?_)
  · rw [e] at g
    exact g
  · rcases X with ⟨s, ch, -, p, y1, y2, -, -⟩ | ⟨-, er, eI⟩
    · exact absurd ⟨y1, y2⟩ (c s ch ((lk s ch).mp p))
    · subst eI
      exact ⟨_, I, L, _, rfl, er, fun _ => by rw [e, eR]; exact ⟨tp, hd, qt, qi, l, hrf, htd⟩⟩
  · rcases X with ⟨s', ch', -, p', -, -, er, eI⟩ | ⟨x1, -, -⟩
    rotate_left
    · exact absurd ⟨y1, y2⟩ (x1 s ch ((lk s ch).mpr p))
    have es : s = s' := (pks_fun k3 p' ((lk s ch).mpr p)).1
    subst es
    refine ⟨_, _, L, _, rfl, er, fun _ => ?_⟩
    rw [e, eR]
    have g : ∀ p j, p ≠ 39 → p ≠ 98 → p ≠ 160 → sm_up I 160 s y p j = I0 p j := fun p j a b c => by
      rw [en_up_ne _ _ _ _ (by omega), eI, en_up_ne _ _ _ _ (by omega), en_up_ne _ _ _ _ (by omega)]
    obtain ⟨h1, h2, h3, h4, h5⟩ := hd
    refine ⟨tpE_cg (I := I0) (fun p j q => g p j (by omega) (by omega) (by omega)) tp, ⟨fun k hk => ?_, fun k hk => ?_, ?_, fun i hi hj => ?_, fun k hk => ?_⟩, qt, qi, l, ⟨hrf.1, hrf.2.1, hrf.2.2.1, hrf.2.2.2.1, ?_⟩, tdE_cg (I := I0) hq (fun p j q => g p j (by omega) (by omega) (by omega)) htd⟩
    · rw [g 37 0 (by omega) (by omega) (by omega), g 137 k (by omega) (by omega) (by omega)]; exact h1 k hk
    · rw [g 38 k (by omega) (by omega) (by omega), g 138 k (by omega) (by omega) (by omega)]; exact h2 k hk
    · rw [g 37 1 (by omega) (by omega) (by omega), g 107 54 (by omega) (by omega) (by omega)]; exact h3
    · rw [g 37 1 (by omega) (by omega) (by omega)] at hj
      rw [g 41 i (by omega) (by omega) (by omega), g 42 i (by omega) (by omega) (by omega), g 43 i (by omega) (by omega) (by omega), g 44 i (by omega) (by omega) (by omega), g 144 i (by omega) (by omega) (by omega), g 145 i (by omega) (by omega) (by omega), g 146 i (by omega) (by omega) (by omega), g 147 i (by omega) (by omega) (by omega)]
      exact h4 i hi hj
    · by_cases c : k = s
      · rw [en_up_ne _ _ _ _ (by omega), eI, en_up_ne _ _ _ _ (by omega), ← c, en_up_eq, en_up_eq]
      · rw [en_up_ne _ _ _ _ (by omega), eI, en_up_ne _ _ _ _ (by omega), en_up_ne _ _ _ _ (by omega), en_up_ne _ _ _ _ (by omega), en_up_ne _ _ _ _ (by omega), en_up_ne _ _ _ _ (by omega)]; exact h5 k hk
    · rw [g 107 18 (by omega) (by omega) (by omega)]; exact hrf.2.2.2.2
end
end
section
/-! THE LAW: read on both sides -/
section
variable {S : sm_C} {I : sm_I} {L : sm_L} {R : sm_R} {r : Int32}
def XreadK (I : sm_I) (_ : sm_L) (R : sm_R) (r : Int32) (I1 : sm_I) (_ : sm_L) (R1 : sm_R) : Prop := I1 0 10 = 0 ∧ ∀ (qt qi n : Nat), ((qt = 12 ∧ qi = 49) ∨ (qt = 49 ∧ qi = 12)) → R 0 9 = some qt → R 2 6 = some qi → (I 0 10).toInt = n → ∃ a0 : sg, RDp (I 1) n a0 r I1 ∧ RTp qt qi (I 1) n a0 I r I1 R1 ∧ HKp I r I1
theorem bk_read (hI : lw_I I L R) : sm_wp sm_P S (46 + 13) 80 0 [.ref 0] [] (xLay, I, L, R) (0, 0) (fun z => ∃ (r : Int32) (I2 : sm_I) (L2 : sm_L) (R2 : sm_R), z = (some (.int r), (xLay, I2, L2, R2)) ∧ XreadK I L R r I2 L2 R2) := by
  obtain ⟨m, -, -, -, qt, qi, l, ⟨e1, -, e3, e4, -⟩, -⟩ := hI
  have bl := kx_len m
  obtain ⟨n, hn⟩ : ∃ n : Nat, (I 0 10).toInt = n := ⟨(I 0 10).toInt.toNat, by omega⟩
  refine kp_read (d := 46) hn m e1 e3 e4 (fun r I1 L1 R1 a0 m1 f1 z1 D T H => ⟨r, I1, L1, R1, rfl, z1, fun qt' qi' n' g1 g3 g4 gn => ?_⟩)
  have u1 : qt' = qt := Option.some.inj (g3.symm.trans e3)
  have u2 : qi' = qi := Option.some.inj (g4.symm.trans e4)
  have u3 : n' = n := by omega
  subst u1
  subst u2
  subst u3
  exact ⟨a0, D, T, H⟩
theorem q_rd {b : Nat → Int32} {n : Nat} {a0 : sg} {r r' : Int32} {I1 J : sm_I} (D : RDp b n a0 r I1) (D' : RDx (tk_at b n) (SY (tk_K b n) 501 0 0 gc0) (ME (tk_K b n) (fun i => tk_vl b n (tk_at b n i)) 501 0 0 a0) r' J) : r = r' ∧ I1 0 11 = J 107 17 ∧ (r = 0 → hcM J ∧ ∃ s : Nat, s ≤ 1 ∧ (J 107 18).toInt = s ∧ TD s (ME (tk_K b n) (fun i => tk_vl b n (tk_at b n i)) 501 0 0 a0).2 J ∧ (wt (ME (tk_K b n) (fun i => tk_vl b n (tk_at b n i)) 501 0 0 a0).2 → wmJ s J)) := by
  obtain ⟨-, D1, D2⟩ := D
  obtain ⟨D3, D4⟩ := D'
  cases s : SY (tk_K b n) 501 0 0 gc0 with
  | some x =>
    have a1 := D1 x.1 x.2 s
    have a2 := D3 x.1 x.2 s
    exact ⟨by rw [a1.1, a2.1], en_ofI (by rw [a1.2.2, a2.2]), fun q => absurd (a1.1.symm.trans q) a1.2.1⟩
  | none =>
    obtain ⟨D1, D2⟩ := D2 s
    obtain ⟨D3, D4⟩ := D4 s
    cases s2 : (ME (tk_K b n) (fun i => tk_vl b n (tk_at b n i)) 501 0 0 a0).1 with
    | some x =>
      have a1 := D1 x.1 x.2 s2
      have a2 := D3 x.1 x.2 s2
      exact ⟨by rw [a1.1, a2.1], en_ofI (by rw [a1.2.2, a2.2]), fun q => absurd (a1.1.symm.trans q) a1.2.1⟩
    | none =>
      have a1 := D2 s2
      have a2 := D4 s2
      exact ⟨by rw [a1.1, a2.1], by rw [a1.2, a2.2.1], fun _ => ⟨a2.2.2.1, a2.2.2.2⟩⟩
theorem Ft_cg {N N' : Nat → Int} (h : ∀ i, i < 36 → N i = N' i) : ∀ k, k ≤ 6 → ∀ i, i < 36 → Ft k N i = Ft k N' i := by
  intro k
  induction k with
  | zero => intro _ i hi; exact h i hi
  | succ k ih => intro hk i hi; exact Fn_cg (by omega) (ih (by omega)) i hi
theorem q_wm {qi s : Nat} {a : sg} {J : sm_I} {L : sm_L} {R : sm_R} (hq : qi = 12 ∨ qi = 49) (s1 : s ≤ 1) (s2 : (J 107 18).toInt = s) (m : en_mem ml_tb mlX (xLay, J, L, R)) (td : TD s a J) (hn : wn a) (ht : wt a) (wj : wmJ s J) (wq : wmQ qi a J) : wmE qi s J := by
  obtain ⟨⟨c0, c1, c2, -, -⟩, hT, -, hW, -, -⟩ := td
  have V : mlV J s := m.2.2.2.2.2.2.1 s s2.symm
  have tb := (ml_cs s1 m).2.2.1
  have nb := kl_nat tb.1
  have b124 : ∀ i, i < 20 → (J 124 i).toInt ≤ 5 := fun i hi => (ml_row m (p := 124) (n := 20) (q := (-1, 5)) (fun _ => rfl) i hi).2
  have bp : bpA a := fun i hi h14 => by
    rw [c2] at hi
    obtain ⟨e1, e2⟩ := (hT i (by omega)).1 hi
    rw [e1] at h14
    rw [e2]
    exact ⟨V.1 i hi (fun q => h14 (en_ofI (by rw [q]; decide))), b124 _ (by omega)⟩
  obtain ⟨w1, w2⟩ := wj
  obtain ⟨k1, k2⟩ := wq
  obtain ⟨k2, k3⟩ := k2 bp
  obtain ⟨w2, w3⟩ := w2
  have base : ∀ i, i < 36 → nv (a.1 13 i) = (J 121 (36 * s + i)).toInt := fun i hi => by
    rcases hW i hi with ⟨e1, e2⟩ | ⟨e1, e2⟩
    · rw [e1, e2]; decide
    · rw [e2]
      unfold nv
      rw [if_neg (by omega)]
  have p0 := kl_nat hn.1.1
  have p6 := hn.1.2
  have val : ∀ i, i < 36 → nv (J (qi + 1) i) = (J 139 i).toInt := fun i hi => by
    have g := Ft_out (p := (a.1 12 1).toNatClampNeg) (wt_WB ht) (wt_WS hn ht) (6 - (a.1 12 1).toNatClampNeg) (a.1 12 1).toNatClampNeg (Nat.le_refl _) (by omega) i hi
    rw [show (a.1 12 1).toNatClampNeg + (6 - (a.1 12 1).toNatClampNeg) = 6 by omega] at g
    rw [(k1 i hi).2, w1 i hi, ← g]
    exact Ft_cg base 6 (by decide) i hi
  have wk : ∀ i, i < 36 → wkr (J (qi + 1) i) (J 139 i) := fun i hi => by
    have v := val i hi
    have b := (WB_F6 (wt_WB ht) 6 (by decide)).1 i hi
    have e := w1 i hi
    rw [← Ft_cg base 6 (by decide) i hi] at e
    rcases (k1 i hi).1 with c | c
    · left
      rw [c] at v
      exact ⟨c, en_ofI (by rw [← v]; decide)⟩
    · right
      unfold nv at v
      rw [if_neg (by omega)] at v
      exact ⟨by omega, by omega, en_ofI v⟩
  have lst : alst a = mlst s J := by
    unfold alst mlst
    rw [c2]
    refine mall_cg _ (Nat.le_refl _) (fun i j hi hj => ?_)
    obtain ⟨e1, e2⟩ := (hT i (by omega)).1 (by omega)
    obtain ⟨e3, e4⟩ := (hT j (by omega)).1 (by omega)
    unfold mcM mvc
    rw [e1, e2, e3, e4]
  rw [lst] at k2 k3
  refine ⟨fun x y hx hy => wk _ ?_, en_ofI (by rw [k2, w2]), fun j hj => ?_⟩
  · have := (ml_cs s1 m).2.1
    omega
  rw [w2] at hj
  have hj : j < (mlst s J).length := by omega
  obtain ⟨r1, r2, r3⟩ := k3 j hj
  obtain ⟨v1, v2, v3⟩ := w3 j hj
  obtain ⟨u1, u2_, u3, u4⟩ := mall_b (c := mcM s J) (T := (J 122 s).toNatClampNeg) (J 122 s).toNatClampNeg j hj
  obtain ⟨X, eX⟩ : ∃ X, X = ((mlst s J).getD j (0, 0)).1 := ⟨_, rfl⟩
  obtain ⟨Y, eY⟩ : ∃ Y, Y = ((mlst s J).getD j (0, 0)).2 := ⟨_, rfl⟩
  have u1 : X < (J 122 s).toNatClampNeg := by rw [eX]; exact u1
  have u2_ : X < Y := by rw [eX, eY]; exact u2_
  have u3 : Y < (J 122 s).toNatClampNeg := by rw [eY]; exact u3
  have u4 : mcM s J X Y = true := by rw [eX, eY]; exact u4
  rw [← eX, ← eY] at r3 v3
  rw [← eX] at r1 v1
  rw [← eY] at r2 v2
  have g4 : J 123 (10 * s + X) ≠ -1 ∧ J 123 (10 * s + X) = J 123 (10 * s + Y) := by
    unfold mcM mvc at u4
    have u4 : (!decide (J 123 (10 * s + X) = -1) && decide (J 123 (10 * s + X) = J 123 (10 * s + Y)) && !decide (J 124 (10 * s + X) = J 124 (10 * s + Y))) = true := u4
    obtain ⟨q1, -⟩ := Bool.and_eq_true_iff.mp u4
    obtain ⟨q1, q2⟩ := Bool.and_eq_true_iff.mp q1
    exact ⟨fun e => by rw [e] at q1; simp at q1, of_decide_eq_true q2⟩
  have x0 := V.1 X (by omega) (fun q => g4.1 (en_ofI (by rw [q]; decide)))
  have y0 := V.1 Y (by omega) (fun q => g4.1 (g4.2.trans (en_ofI (by rw [q]; decide))))
  have x5 := b124 (10 * s + X) (by omega)
  have y5 := b124 (10 * s + Y) (by omega)
  have xn := kl_nat x0
  have yn := kl_nat y0
  have ax : a.1 15 X = J 124 (10 * s + X) := ((hT X (by omega)).1 (by omega)).2
  have ay : a.1 15 Y = J 124 (10 * s + Y) := ((hT Y (by omega)).1 (by omega)).2
  have i140 : (J 140 j).toInt = X := by rw [v1, Int32.toInt_ofNat_of_lt (by omega)]
  have i141 : (J 141 j).toInt = Y := by rw [v2, Int32.toInt_ofNat_of_lt (by omega)]
  refine ⟨r1.trans v1.symm, r2.trans v2.symm, ?_, by omega, by omega, by omega⟩
  rw [r3, v3, ax, ay]
  exact wk _ (by omega)
end
end
section
/-! THE LAW: at the start all is the same -/
theorem lw_s0 {I : sm_I} {L : sm_L} {R : sm_R} (z : sz (xLay, I, L, R)) : LJ I R := by
  have iz : ∀ {x : Int32}, x.toInt = 0 → x = 0 := fun e => en_ofI (by rw [e]; decide)
  have im : ∀ {x : Int32}, x.toInt = -1 → x = -1 := fun e => en_ofI (by rw [e]; decide)
  have r : ∀ p n v, (p, n, v) ∈ sz_rows → ∀ j, j < n → (I p j).toInt = v := fun p n v h j hj => z.1 (p, n, v) h j hj
  have f : ∀ p j v, (p, j, v) ∈ sz_flds → (I p j).toInt = v := fun p j v h => z.2.1 (p, j, v) h
  have e10 : I 0 10 = 0 := iz (f 0 10 0 (by decide))
  have e37 : I 37 0 = 0 := iz (f 37 0 0 (by decide))
  have m37 : I 37 1 = 0 := iz (f 37 1 0 (by decide))
  refine ⟨⟨?_, fun j hj => ?_, ?_⟩, ⟨fun k hk => ?_, fun k hk => ?_, ?_, fun i hi hj => ?_, fun k hk => ?_⟩, 49, 12, 0, ⟨Or.inr ⟨rfl, rfl⟩, Nat.zero_le _, z.2.2 (0, 9, 49) (by decide), z.2.2 (2, 6, 12) (by decide), f 107 18 0 (by decide)⟩, ⟨(fun c j => I (c + (49 - 12)) j, fun _ => 0), fun c j _ _ _ _ => rfl, TDw_0 (fun p hp => ?_) (fun j hj => ?_) ?_⟩, fun x y hx _ => ?_, ?_, fun j hj => ?_⟩
  · rw [e10, iz (f 107 2 0 (by decide))]
  · rw [e10, kl_0] at hj
    omega
  · rw [im (f 0 11 (-1) (by decide)), im (f 107 17 (-1) (by decide))]
  · rw [e37, iz (r 137 10 0 (by decide) k hk)]
    simp
  · rw [im (r 38 10 (-1) (by decide) k hk), im (r 138 10 (-1) (by decide) k hk)]
  · rw [m37, iz (f 107 54 0 (by decide))]
  · rw [m37, kl_0] at hj
    omega
  · rw [im (r 39 55 (-1) (by decide) k hk), im (r 160 60 (-1) (by decide) k (by omega))]
  · rcases hp with e | e | e | e | e | e <;> subst e
    · exact iz (r 118 2 0 (by decide) 0 (by decide))
    · exact iz (r 119 2 0 (by decide) 0 (by decide))
    · exact iz (r 122 2 0 (by decide) 0 (by decide))
    · exact iz (r 125 2 0 (by decide) 0 (by decide))
    · exact iz (r 134 2 0 (by decide) 0 (by decide))
    · exact iz (r 136 2 0 (by decide) 0 (by decide))
  · show I 49 j = 0
    rcases (by omega : j = 0 ∨ j = 1 ∨ j = 2 ∨ j = 3 ∨ j = 4) with e | e | e | e | e <;> subst e
    · exact iz (f 49 0 0 (by decide))
    · exact iz (f 49 1 0 (by decide))
    · exact iz (f 49 2 0 (by decide))
    · exact iz (f 49 3 0 (by decide))
    · exact iz (f 49 4 0 (by decide))
  · show I 49 6 = 0
    exact iz (f 49 6 0 (by decide))
  · rw [iz (r 119 2 0 (by decide) 0 (by decide)), kl_0] at hx
    omega
  · rw [iz (f 49 5 0 (by decide)), iz (f 107 46 0 (by decide))]
  · rw [iz (f 107 46 0 (by decide)), kl_0] at hj
    omega
end
section
/-! THE LAW with what was gone through: its invariant, calls by contract, pairs that leave it -/
def GG (I : sm_I) (L : sm_L) (R : sm_R) : Prop := GK I L R ∧ GM I ∧ ∃ l, (I 107 18).toInt = (l : Nat) ∧ TW l I
def lw_J (I : sm_I) (L : sm_L) (R : sm_R) : Prop := lw_I I L R ∧ GG I L R
theorem TW_cg {l : Nat} {I J : sm_I} (h : ∀ p j, (p = 107 ∧ j = 54) ∨ ((118 ≤ p ∧ p ≤ 136)) ∨ (144 ≤ p ∧ p ≤ 147) → J p j = I p j) (k : TW l I) : TW l J := by
  obtain ⟨k1, k2, k3, k4⟩ := k
  have sk : ∀ n p, sspk I n p → sspk J n p := fun n p k => by
    unfold sspk at k ⊢
    rw [h 130 p (by omega), h 131 p (by omega), h 132 p (by omega), h 133 p (by omega)]; exact k
  unfold TW
  rw [h 122 l (by omega), h 125 l (by omega), h 134 l (by omega), h 136 l (by omega), h 107 54 (by omega)]
  refine ⟨fun s c i a1 a2 a3 => ?_, fun k a => sk _ _ (k2 k a), fun q a => sk _ _ (k3 q a), fun k a => ?_⟩
  · rw [h 128 _ (by omega)] at a2
    rw [h 129 _ (by omega)] at a3
    exact sk _ _ (k1 s c i a1 a2 a3)
  · have b := k4 k a
    unfold mook at b ⊢
    rw [h 144 k (by omega), h 145 k (by omega), h 146 k (by omega), h 147 k (by omega)]; exact b
section
variable {I : sm_I} {L : sm_L} {R : sm_R}
/-- all of it out of what the law knows anyway -/
theorem GG_of (hI : lw_I I L R) (h : ∀ qt qi l : Nat, rfE qt qi l I R → GC qt I L R ∧ GR l I ∧ TW l I) : GG I L R := by
  obtain ⟨m0, mm, -, hd, qt, qi, l, hrf, htd⟩ := hI
  obtain ⟨g1, g2, g3⟩ := h qt qi l hrf
  have hq : qt = 12 ∨ qt = 49 := by have := hrf.1; omega
  have l1 := hrf.2.1
  refine ⟨⟨qt, hq, hrf.2.2.1, kW_of hq l1 mm htd hd g3, g1⟩, ⟨l, rwf_of l1 hrf.2.2.2.2 mm htd.2 g3 (fun i hi q hq' => ?_), g2⟩, l, hrf.2.2.2.2, g3⟩
  exact (((rwE_of hq l1 mm htd).1 i hi).2 q hq').2.1
/-- its parts, by the names that the law uses -/
theorem GG_at (hI : lw_J I L R) {qt qi l : Nat} (hrf : rfE qt qi l I R) : GC qt I L R ∧ GR l I ∧ TW l I ∧ kW qt I ∧ rwf I l := by
  obtain ⟨-, ⟨q, -, g2, g3, g4⟩, ⟨l', g5, g6⟩, l'', g7, g8⟩ := hI
  have e : q = qt := Option.some.inj (g2.symm.trans hrf.2.2.1)
  have hl := hrf.2.2.2.2
  have e2 : l' = l := by have := g5.1.1; omega
  have e3 : l'' = l := by omega
  subst e
  subst e2
  subst e3
  exact ⟨g4, g6, g8, g3, g5⟩
end
/-- a call of the class by contract alone -/
theorem lw_kJ {S : sm_C} {c : en_Ct} {vs : List Value} {I : sm_I} {L : sm_L} {R : sm_R} {lo hi : Int} {C : Int32 → sm_I → sm_L → sm_R → Prop} (h : en_hold kl_tb2 klY sm_P S c) (hc : lw_ck c = true) (hr : c.2.2.2.1 = (0, lo, hi)) (hv : en_pvs c.2.1 vs) (hI : lw_J I L R) (k : ∀ (r : Int32) (I' : sm_I) (L' : sm_L) (R' : sm_R), lw_J I' L' R' → C r I' L' R') : sm_wp sm_P S 59 c.1 0 vs [] (xLay, I, L, R) (0, 0) (fun z => ∃ (r : Int32) (I2 : sm_I) (L2 : sm_L) (R2 : sm_R), z = (some (.int r), (xLay, I2, L2, R2)) ∧ C r I2 L2 R2) := by
  obtain ⟨h1, h2⟩ := Bool.and_eq_true_iff.mp hc
  obtain ⟨h1, h5⟩ := Bool.and_eq_true_iff.mp h1
  obtain ⟨h3, h4⟩ := Bool.and_eq_true_iff.mp h1
  obtain ⟨h6, h7⟩ := Bool.and_eq_true_iff.mp h2
  obtain ⟨h6, h8⟩ := Bool.and_eq_true_iff.mp h6
  obtain ⟨h8, h9⟩ := Bool.and_eq_true_iff.mp h8
  obtain ⟨h7, h10⟩ := Bool.and_eq_true_iff.mp h7
  have hp : c.2.2.1 = [] := List.isEmpty_iff.mp h4
  obtain ⟨hI0, g1, g2, l, g3, g4⟩ := hI
  refine sm_wp_mono (h 59 (Nat.le_of_ble_eq_true h3) vs _ hv (ky_up hI0.1 g1) (by rw [hp]; exact ml_pf0)) (fun z q => ?_)
  obtain ⟨o, lay, I2, L2, R2⟩ := z
  obtain ⟨q1, q2, q3⟩ := q
  have d2 := ky_dn q2
  obtain rfl : lay = xLay := d2.2.2.2.2.1
  rw [hr] at q1
  obtain ⟨r, er⟩ := lw_pr q1
  have er : o = some (.int r) := er
  subst er
  have up : ∀ p j, 107 ≤ p → I2 p j = I p j ∧ R2 p j = R p j := fun p j hp => q3.2 p j (lw_lo h5 hp)
  refine ⟨r, I2, L2, R2, rfl, k r I2 L2 R2 ⟨⟨d2, lw_mk (lw_pk d2) hI0.2.1 up, LJ_cg (fun p j hp => ?_) (q3.2 0 9 (by simpa using h7)).2 (q3.2 2 6 (by simpa using h10)).2 hI0.2.2⟩, ky_gk q2, GM_cg (fun p j q => (up p j (by omega)).1) g2, l, by rw [(up 107 18 (by omega)).1]; exact g3, TW_cg (fun p j q => (up p j (by omega)).1) g4⟩⟩
  rcases hp with (⟨e, e2 | e2⟩ | hp) | hp
  · rw [e, e2]; exact (q3.2 0 10 (by simpa using h8)).1
  · rw [e, e2]; exact (q3.2 0 11 (by simpa using h9)).1
  · exact (q3.2 p j (lw_nr h6 (lw_rc_of hp))).1
  · exact (q3.2 p j (lw_lo h5 (by unfold lkM at hp; omega))).1
theorem lw_mJ {S : sm_C} {c : en_Ct} {vs : List Value} {I : sm_I} {L : sm_L} {R : sm_R} {lo hi : Int} {C : Int32 → sm_I → sm_L → sm_R → Prop} (h : en_hold ml_tb2 (mlY (L 48)) sm_P S c) (hc : lw_cm c = true) (hr : c.2.2.2.1 = (0, lo, hi)) (hv : en_pvs c.2.1 vs) (hI : lw_J I L R) (k : ∀ (r : Int32) (I' : sm_I) (L' : sm_L) (R' : sm_R), lw_J I' L' R' → C r I' L' R') : sm_wp sm_P S 59 c.1 0 vs [] (xLay, I, L, R) (0, 0) (fun z => ∃ (r : Int32) (I2 : sm_I) (L2 : sm_L) (R2 : sm_R), z = (some (.int r), (xLay, I2, L2, R2)) ∧ C r I2 L2 R2) := by
  obtain ⟨h1, h2⟩ := Bool.and_eq_true_iff.mp hc
  obtain ⟨h1, h5⟩ := Bool.and_eq_true_iff.mp h1
  obtain ⟨h3, h4⟩ := Bool.and_eq_true_iff.mp h1
  obtain ⟨h6, h7⟩ := Bool.and_eq_true_iff.mp h2
  obtain ⟨h7, h9⟩ := Bool.and_eq_true_iff.mp h7
  obtain ⟨h7, h8⟩ := Bool.and_eq_true_iff.mp h7
  obtain ⟨h9, h10⟩ := Bool.and_eq_true_iff.mp h9
  obtain ⟨h11, h10⟩ := Bool.and_eq_true_iff.mp h10
  have hp : c.2.2.1 = [] := List.isEmpty_iff.mp h4
  obtain ⟨hI0, g1, g2, l, g3, g4⟩ := hI
  refine sm_wp_mono (h 59 (Nat.le_of_ble_eq_true h3) vs _ hv (my_up hI0.2.1 g2 (fun _ => rfl)) (by rw [hp]; exact ml_pf0)) (fun z q => ?_)
  obtain ⟨o, lay, I2, L2, R2⟩ := z
  obtain ⟨q1, q2, q3⟩ := q
  have d2 := my_dn q2
  obtain rfl : lay = xLay := d2.2.2.2.2.1
  rw [hr] at q1
  obtain ⟨r, er⟩ := lw_pr q1
  have er : o = some (.int r) := er
  subst er
  have lo_ : ∀ p j, p < 107 → I2 p j = I p j ∧ R2 p j = R p j := fun p j hp => q3.2 p j (lw_hi h5 hp)
  have e18 : I2 107 18 = I 107 18 := (q3.2 107 18 (by simpa using h9)).1
  have e54 : I2 107 54 = I 107 54 := (q3.2 107 54 (by simpa using h10)).1
  refine ⟨r, I2, L2, R2, rfl, k r I2 L2 R2 ⟨⟨lw_kk (lw_pm d2) hI0.1 lo_, d2, LJ_cg (fun p j hp => ?_) (lo_ 0 9 (by decide)).2 (lo_ 2 6 (by decide)).2 hI0.2.2⟩, GK_cg (fun p j q => (lo_ p j (by omega)).1) (fun j => my_48 q2 j) (lo_ 0 9 (by decide)).2 (lo_ 74 4 (by decide)).2 g1, my_gm q2, l, by rw [e18]; exact g3, TW_cg (fun p j q => ?_) g4⟩⟩
  · rcases hp with hp | ⟨e, e2 | e2 | e2 | e2 | e2⟩ | hp
    · exact (q3.2 p j (lw_hi h5 (by unfold lkC at hp; omega))).1
    · rw [e, e2]; exact (q3.2 107 2 (by simpa using h7)).1
    · rw [e, e2]; exact (q3.2 107 17 (by simpa using h8)).1
    · rw [e, e2]; exact e18
    · rw [e, e2]; exact (q3.2 107 46 (by simpa using h11)).1
    · rw [e, e2]; exact e54
    · exact (q3.2 p j (lw_nr h6 (lw_rm_of hp))).1
  · rcases q with ⟨e, e2⟩ | q
    · rw [e, e2]; exact e54
    · exact (q3.2 p j (lw_nr h6 (lw_rm_of (by omega)))).1
/-- between the class's call and the reference's -/
def MJ (X : sm_I → sm_L → sm_R → Int32 → sm_I → sm_L → sm_R → Prop) (r : Int32) (I1 : sm_I) (L1 : sm_L) (R1 : sm_R) : Prop := ∃ (I : sm_I) (L : sm_L) (R : sm_R), lw_J I L R ∧ en_mem kl_tb2 klY (xLay, I1, L1, R1) ∧ (∀ p j, 107 ≤ p → I1 p j = I p j ∧ R1 p j = R p j) ∧ X I L R r I1 L1 R1
theorem MJ_dn {X : sm_I → sm_L → sm_R → Int32 → sm_I → sm_L → sm_R → Prop} {r : Int32} {I1 : sm_I} {L1 : sm_L} {R1 : sm_R} (h : MJ X r I1 L1 R1) : MD X r I1 L1 R1 := by
  obtain ⟨I, L, R, h1, h2, h3, h4⟩ := h
  exact ⟨I, L, R, h1.1, ky_dn h2, h3, h4⟩
theorem lw_xkJ {S : sm_C} {c : en_Ct} {vs : List Value} {I : sm_I} {L : sm_L} {R : sm_R} {lo hi : Int} {C : Int32 → sm_I → sm_L → sm_R → Prop} {X : sm_I → sm_L → sm_R → Int32 → sm_I → sm_L → sm_R → Prop} (h : en_hold kl_tb2 klY sm_P S c) (hc : lw_cK c = true) (hr : c.2.2.2.1 = (0, lo, hi)) (hv : en_pvs c.2.1 vs) (hI : lw_J I L R) (B : sm_wp sm_P S 59 c.1 0 vs [] (xLay, I, L, R) (0, 0) (fun z => ∃ (r : Int32) (I2 : sm_I) (L2 : sm_L) (R2 : sm_R), z = (some (.int r), (xLay, I2, L2, R2)) ∧ X I L R r I2 L2 R2)) (k : ∀ (r : Int32) (I' : sm_I) (L' : sm_L) (R' : sm_R), MJ X r I' L' R' → C r I' L' R') : sm_wp sm_P S 59 c.1 0 vs [] (xLay, I, L, R) (0, 0) (fun z => ∃ (r : Int32) (I2 : sm_I) (L2 : sm_L) (R2 : sm_R), z = (some (.int r), (xLay, I2, L2, R2)) ∧ C r I2 L2 R2) := by
  obtain ⟨h1, h5⟩ := Bool.and_eq_true_iff.mp hc
  obtain ⟨h3, h4⟩ := Bool.and_eq_true_iff.mp h1
  have hp : c.2.2.1 = [] := List.isEmpty_iff.mp h4
  refine sm_wp_mono (sm_wp_and (h 59 (Nat.le_of_ble_eq_true h3) vs _ hv (ky_up hI.1.1 hI.2.1) (by rw [hp]; exact ml_pf0)) B) (fun z q => ?_)
  obtain ⟨⟨-, q2, q3⟩, r, I2, L2, R2, ez, x⟩ := q
  subst ez
  exact ⟨r, I2, L2, R2, rfl, k r I2 L2 R2 ⟨I, L, R, hI, q2, fun p j hp => q3.2 p j (lw_lo h5 hp), x⟩⟩
/-- the reference's call behind it -/
theorem lw_xmJ {S : sm_C} {c : en_Ct} {vs : List Value} {I : sm_I} {L : sm_L} {R : sm_R} {r : Int32} {lo hi : Int} {C : Int32 → sm_I → sm_L → sm_R → Prop} {X : sm_I → sm_L → sm_R → Int32 → sm_I → sm_L → sm_R → Prop} (h : en_hold ml_tb2 (mlY (L 48)) sm_P S c) (hc : lw_cM c = true) (hr : c.2.2.2.1 = (0, lo, hi)) (hv : en_pvs c.2.1 vs) (hI : MJ X r I L R) (B : sm_wp sm_P S 59 c.1 0 vs [] (xLay, I, L, R) (0, 0) (fun z => ∃ (r' : Int32) (I2 : sm_I) (L2 : sm_L) (R2 : sm_R), z = (some (.int r'), (xLay, I2, L2, R2)) ∧ r = r' ∧ ((∀ p j, p < 107 → I2 p j = I p j ∧ R2 p j = R p j) → LJ I2 R2))) (t : (en_wok c.2.2.2.2.1 107 18 || (en_wok c.2.2.2.2.1 107 54 || c.2.2.2.2.1.any (fun q => lw_rm q.1 && !(Nat.beq q.1 108 || (Nat.beq q.1 138 || Nat.beq q.1 160))))) = false) (k : ∀ (r' : Int32) (I' : sm_I) (L' : sm_L) (R' : sm_R), r = r' → lw_J I' L' R' → C r' I' L' R') : sm_wp sm_P S 59 c.1 0 vs [] (xLay, I, L, R) (0, 0) (fun z => ∃ (r : Int32) (I2 : sm_I) (L2 : sm_L) (R2 : sm_R), z = (some (.int r), (xLay, I2, L2, R2)) ∧ C r I2 L2 R2) := by
  obtain ⟨h1, h5⟩ := Bool.and_eq_true_iff.mp hc
  obtain ⟨h3, h4⟩ := Bool.and_eq_true_iff.mp h1
  have hp : c.2.2.1 = [] := List.isEmpty_iff.mp h4
  obtain ⟨t1, t2⟩ := Bool.or_eq_false_iff.mp t
  obtain ⟨t2, t3⟩ := Bool.or_eq_false_iff.mp t2
  obtain ⟨I0, L0, R0, ⟨hI0, g1, g2, l, g3, g4⟩, mk, o, -⟩ := hI
  have md := ky_dn mk
  have mm : en_mem ml_tb mlX (xLay, I, L, R) := lw_mk (lw_pk md) hI0.2.1 o
  have g2' : GM I := GM_cg (fun p j q => (o p j (by omega)).1) g2
  refine sm_wp_mono (sm_wp_and (h 59 (Nat.le_of_ble_eq_true h3) vs _ hv (my_up mm g2' (fun _ => rfl)) (by rw [hp]; exact ml_pf0)) B) (fun z q => ?_)
  obtain ⟨⟨-, q2, q3⟩, r', I2, L2, R2, ez, er, x⟩ := q
  subst ez
  have f : ∀ p j, p < 107 → I2 p j = I p j ∧ R2 p j = R p j := fun p j hp => q3.2 p j (lw_hi h5 hp)
  have d2 := my_dn q2
  have row : ∀ p j, lw_rm p = true → p ≠ 108 → p ≠ 138 → p ≠ 160 → I2 p j = I p j := fun p j hp n1 n2 n3 => by
    refine (q3.2 p j ?_).1
    cases c0 : en_wok c.2.2.2.2.1 p j with
    | false => rfl
    | true =>
      obtain ⟨q, g1, g2⟩ := List.any_eq_true.mp c0
      have e : q.1 = p := Nat.eq_of_beq_eq_true (Bool.and_eq_true_iff.mp g2).1
      have l0 : c.2.2.2.2.1.any (fun q => lw_rm q.1 && !(Nat.beq q.1 108 || (Nat.beq q.1 138 || Nat.beq q.1 160))) = true := List.any_eq_true.mpr ⟨q, g1, by
        have b : ∀ n, p ≠ n → Nat.beq p n = false := fun n hn => by
          cases u : Nat.beq p n with
          | false => rfl
          | true => exact absurd (Nat.eq_of_beq_eq_true u) hn
        rw [e, hp, b _ n1, b _ n2, b _ n3]; rfl⟩
      rw [t3] at l0
      cases l0
  have tw : TW l I2 := by
    refine TW_cg (fun p j q => ?_) (TW_cg (J := I) (fun p j q => (o p j (by omega)).1) g4)
    rcases q with ⟨e, e2⟩ | q
    · rw [e, e2]; exact (q3.2 107 54 t2).1
    · exact row p j (lw_rm_of (by omega)) (by omega) (by omega) (by omega)
  exact ⟨r', I2, L2, R2, rfl, k r' I2 L2 R2 er ⟨⟨lw_kk (lw_pm d2) md f, d2, x f⟩, GK_cg (fun p j q => (f p j (by omega)).1) (fun j => my_48 q2 j) (f 0 9 (by decide)).2 (f 74 4 (by decide)).2 (ky_gk mk), my_gm q2, l, (congrArg Int32.toInt (((q3.2 107 18 t1).1 : I2 107 18 = I 107 18).trans (o 107 18 (by omega)).1)).trans g3, tw⟩⟩
/-! doubt, more, fewer, read -/
def MS (X : sm_I → sm_L → sm_R → Int32 → sm_I → sm_L → sm_R → Prop) (r : Int32) (I1 : sm_I) (L1 : sm_L) (R1 : sm_R) : Prop := ∃ (I : sm_I) (L : sm_L) (R : sm_R), lw_J I L R ∧ en_mem kl_tb klX (xLay, I1, L1, R1) ∧ (∀ p j, 107 ≤ p → I1 p j = I p j ∧ R1 p j = R p j) ∧ (∀ j, L1 48 j = L 48 j) ∧ R1 74 4 = R 74 4 ∧ X I L R r I1 L1 R1
theorem lw_xkS {S : sm_C} {c : en_Ct} {vs : List Value} {I : sm_I} {L : sm_L} {R : sm_R} {lo hi : Int} {C : Int32 → sm_I → sm_L → sm_R → Prop} {X : sm_I → sm_L → sm_R → Int32 → sm_I → sm_L → sm_R → Prop} (h : en_hold kl_tb3 (klZ (L 48)) sm_P S c) (hc : lw_cK c = true) (hr : c.2.2.2.1 = (0, lo, hi)) (hv : en_pvs c.2.1 vs) (hI : lw_J I L R) (B : sm_wp sm_P S 59 c.1 0 vs [] (xLay, I, L, R) (0, 0) (fun z => ∃ (r : Int32) (I2 : sm_I) (L2 : sm_L) (R2 : sm_R), z = (some (.int r), (xLay, I2, L2, R2)) ∧ X I L R r I2 L2 R2)) (k : ∀ (r : Int32) (I' : sm_I) (L' : sm_L) (R' : sm_R), MS X r I' L' R' → C r I' L' R') (hw : en_wok c.2.2.2.2.1 74 4 = false := by decide +kernel) : sm_wp sm_P S 59 c.1 0 vs [] (xLay, I, L, R) (0, 0) (fun z => ∃ (r : Int32) (I2 : sm_I) (L2 : sm_L) (R2 : sm_R), z = (some (.int r), (xLay, I2, L2, R2)) ∧ C r I2 L2 R2) := by
  obtain ⟨h1, h5⟩ := Bool.and_eq_true_iff.mp hc
  obtain ⟨h3, h4⟩ := Bool.and_eq_true_iff.mp h1
  have hp : c.2.2.1 = [] := List.isEmpty_iff.mp h4
  have m := hI.1.1
  refine sm_wp_mono (sm_wp_and (h 59 (Nat.le_of_ble_eq_true h3) vs _ hv ⟨m.1, m.2.1, m.2.2.1, m.2.2.2.1, m.2.2.2.2, fun _ => rfl⟩ (by rw [hp]; exact ml_pf0)) B) (fun z q => ?_)
  obtain ⟨⟨-, q2, q3⟩, r, I2, L2, R2, ez, x⟩ := q
  subst ez
  exact ⟨r, I2, L2, R2, rfl, k r I2 L2 R2 ⟨I, L, R, hI, ⟨q2.1, q2.2.1, q2.2.2.1, q2.2.2.2.1, q2.2.2.2.2.1⟩, fun p j hp => q3.2 p j (lw_lo h5 hp), q2.2.2.2.2.2, (q3.2 74 4 hw).2, x⟩⟩
/-- what such a pair does: nothing, or it makes stale what was gone through -/
def ZE (I0 I2 : sm_I) : Prop := (∀ p j, I2 p j = I0 p j) ∨ (I2 0 12 = 0 ∧ I2 107 70 = 0 ∧ I2 107 18 = I0 107 18 ∧ ∀ l, (I0 107 18).toInt = (l : Nat) → l ≤ 1 → TW l I0 → TW l I2)
theorem lw_xmS {S : sm_C} {c : en_Ct} {vs : List Value} {I : sm_I} {L : sm_L} {R : sm_R} {r : Int32} {lo hi : Int} {C : Int32 → sm_I → sm_L → sm_R → Prop} {X : sm_I → sm_L → sm_R → Int32 → sm_I → sm_L → sm_R → Prop} (h : en_hold ml_tb3 (mlW (L 48)) sm_P S c) (hc : lw_cM c = true) (hr : c.2.2.2.1 = (0, lo, hi)) (hv : en_pvs c.2.1 vs) (hI : MS X r I L R) (B : ∀ (I0 : sm_I) (L0 : sm_L) (R0 : sm_R), lw_I I0 L0 R0 → en_mem kl_tb klX (xLay, I, L, R) → (∀ p j, 107 ≤ p → I p j = I0 p j ∧ R p j = R0 p j) → X I0 L0 R0 r I L R → sm_wp sm_P S 59 c.1 0 vs [] (xLay, I, L, R) (0, 0) (fun z => ∃ (r' : Int32) (I2 : sm_I) (L2 : sm_L) (R2 : sm_R), z = (some (.int r'), (xLay, I2, L2, R2)) ∧ r = r' ∧ (R 0 9 = R0 0 9 ∧ R 74 4 = R0 74 4) ∧ ZE I0 I2 ∧ ((∀ p j, p < 107 → I2 p j = I p j ∧ R2 p j = R p j) → LJ I2 R2))) (k : ∀ (r' : Int32) (I' : sm_I) (L' : sm_L) (R' : sm_R), r = r' → lw_J I' L' R' → C r' I' L' R') : sm_wp sm_P S 59 c.1 0 vs [] (xLay, I, L, R) (0, 0) (fun z => ∃ (r : Int32) (I2 : sm_I) (L2 : sm_L) (R2 : sm_R), z = (some (.int r), (xLay, I2, L2, R2)) ∧ C r I2 L2 R2) := by
  obtain ⟨h1, h5⟩ := Bool.and_eq_true_iff.mp hc
  obtain ⟨h3, h4⟩ := Bool.and_eq_true_iff.mp h1
  have hp : c.2.2.1 = [] := List.isEmpty_iff.mp h4
  obtain ⟨I0, L0, R0, hJ, mk, o, z48, -, X⟩ := hI
  have mm : en_mem ml_tb mlX (xLay, I, L, R) := lw_mk (lw_pk mk) hJ.1.2.1 o
  refine sm_wp_mono (sm_wp_and (h 59 (Nat.le_of_ble_eq_true h3) vs _ hv ⟨mm.1, mm.2.1, mm.2.2.1, mm.2.2.2.1, mlX_W mm.2.2.2.2 (fun _ => rfl)⟩ (by rw [hp]; exact ml_pf0)) (B I0 L0 R0 hJ.1 mk o X)) (fun z q => ?_)
  obtain ⟨⟨-, q2, q3⟩, r', I2, L2, R2, ez, er, er0, ze, x⟩ := q
  subst ez
  have f : ∀ p j, p < 107 → I2 p j = I p j ∧ R2 p j = R p j := fun p j hp => q3.2 p j (lw_hi h5 hp)
  have d2 : en_mem ml_tb mlX (xLay, I2, L2, R2) := ⟨q2.1, q2.2.1, q2.2.2.1, q2.2.2.2.1, mlW_X q2.2.2.2.2⟩
  have e48 : ∀ j, L2 48 j = L0 48 j := fun j => (q2.2.2.2.2.2.2.2.2.2.2 j).trans (z48 j)
  have lI : lw_I I2 L2 R2 := ⟨lw_kk (lw_pm d2) mk f, d2, x f⟩
  refine ⟨r', I2, L2, R2, rfl, k r' I2 L2 R2 er ⟨lI, ?_⟩⟩
  rcases ze with ze | ⟨z1, z2, z3, z4⟩
  · obtain ⟨g1, g2, l, g3, g4⟩ := hJ.2
    exact ⟨GK_cg (fun p j _ => ze p j) e48 ((f 0 9 (by decide)).2.trans er0.1) ((f 74 4 (by decide)).2.trans er0.2) g1, GM_cg (fun p j _ => ze p j) g2, l, by rw [ze]; exact g3, TW_cg (fun p j _ => ze p j) g4⟩
  · refine GG_of lI (fun qt qi l hrf => ⟨Or.inl z1, Or.inl z2, ?_⟩)
    obtain ⟨-, -, l', g3, g4⟩ := hJ.2
    have hl := hrf.2.2.2.2
    rw [z3] at hl
    have e : l' = l := by omega
    subst e
    exact z4 l' hl hrf.2.1 g4
end
section
/-! THE LAW: doubt, more, fewer on both sides, with what was gone through (made of base2/98y1) -/
theorem chI_70 {I : sm_I} : chI I 107 70 = 0 := by
  unfold chI
  rw [en_up_ne _ _ _ _ (by omega), en_up_eq]
theorem stI_12 {I : sm_I} : stI I 0 12 = 0 := by
  unfold stI
  rw [en_up_ne _ _ _ _ (by omega), en_up_ne _ _ _ _ (by omega), en_up_ne _ _ _ _ (by omega), en_up_ne _ _ _ _ (by omega), en_up_eq]
theorem ze_doubt {x y : Int32} {I0 I : sm_I} (eI : I = stI (dbK x y I0)) (o : ∀ p j, 107 ≤ p → I p j = I0 p j) : ZE I0 (chI (dbM x y I)) := by
  have dm : ∀ p j, p ≠ 137 → p ≠ 160 → dbM x y I p j = I p j := fun p j a b => by
    unfold dbM
    split
    · rw [en_up_ne _ _ _ _ (by omega)]
    · rw [en_up_ne _ _ _ _ (by omega), en_up_ne _ _ _ _ (by omega)]
  refine Or.inr ⟨by rw [chI_ne (by omega), dm _ _ (by omega) (by omega), eI]; exact stI_12, chI_70, by rw [chI_ne (by omega), dm _ _ (by omega) (by omega)]; exact o _ _ (by omega), fun l _ _ t => TW_cg (fun p j q => ?_) t⟩
  rw [chI_ne (by omega), dm p j (by omega) (by omega)]; exact o p j (by omega)
theorem ze_fewer {I0 I : sm_I} {v : Int32} (eI : I = stI (sm_up I0 37 1 v)) (o : ∀ p j, 107 ≤ p → I p j = I0 p j) (c : 0 < (I 107 54).toInt) : ZE I0 (chI (sm_up I 107 54 (I 107 54 - 1))) := by
  have s1 : (I 107 54 - 1).toInt = (I 107 54).toInt - 1 := by
    have u := Int32.toInt_lt (I 107 54); rw [Int32.toInt_sub, kl_1]; exact en_bmod (by omega) (by omega) (Or.inl rfl)
  have r : ∀ p j, ¬ (p = 107 ∧ (j = 54 ∨ j = 70 ∨ j = 79)) → 107 ≤ p → chI (sm_up I 107 54 (I 107 54 - 1)) p j = I0 p j := fun p j a b => by
    rw [chI_ne (by omega), en_up_ne _ _ _ _ (by omega)]; exact o p j b
  refine Or.inr ⟨by rw [chI_ne (by omega), en_up_ne _ _ _ _ (by omega), eI]; exact stI_12, chI_70, r _ _ (by omega) (by omega), fun l _ _ t => ?_⟩
  have e54 : chI (sm_up I 107 54 (I 107 54 - 1)) 107 54 = I 107 54 - 1 := by rw [chI_ne (by omega), en_up_eq]
  obtain ⟨t1, t2, t3, t4⟩ := TW_cg (J := fun p j => if p = 107 ∧ j = 54 then I0 p j else chI (sm_up I 107 54 (I 107 54 - 1)) p j) (fun p j q => by
    by_cases u : p = 107 ∧ j = 54
    · show (if p = 107 ∧ j = 54 then I0 p j else chI (sm_up I 107 54 (I 107 54 - 1)) p j) = _
      rw [if_pos u]
    · show (if p = 107 ∧ j = 54 then I0 p j else chI (sm_up I 107 54 (I 107 54 - 1)) p j) = _
      rw [if_neg u]; exact r p j (by omega) (by omega)) t
  refine ⟨t1, t2, t3, fun k hk => t4 k ?_⟩
  rw [e54, s1] at hk
  show (k : Int) < (I0 107 54).toInt
  rw [← o 107 54 (by omega)]
  omega
theorem ze_more {x y a b : Int32} {I0 I : sm_I} (eI : I = stI (mrK x y a b I0)) (o : ∀ p j, 107 ≤ p → I p j = I0 p j) {l : Nat} (hl : (I0 107 18).toInt = (l : Nat)) (b122 : 0 ≤ (I 122 l).toInt ∧ (I 122 l).toInt ≤ 10) (b54 : 0 ≤ (I 107 54).toInt) (ok : mrok (I 122 l).toInt (I 107 54).toInt x y a b) : ZE I0 (chI (mrM x y a b I)) := by
  obtain ⟨⟨o1, o2⟩, ⟨o3, o4⟩, o5⟩ := ok
  have nb := kl_nat b54
  have nt := kl_nat b122.1
  have r : ∀ p j, ¬ (p = 107 ∧ (j = 54 ∨ j = 70 ∨ j = 79)) → ¬ (144 ≤ p ∧ p ≤ 147) → chI (mrM x y a b I) p j = I p j := fun p j c d => by
    rw [chI_ne (by omega)]
    unfold mrM
    rw [en_up_ne _ _ _ _ (by omega), en_up_ne _ _ _ _ (by omega), en_up_ne _ _ _ _ (by omega), en_up_ne _ _ _ _ (by omega), en_up_ne _ _ _ _ (by omega)]
  refine Or.inr ⟨by rw [r _ _ (by omega) (by omega), eI]; exact stI_12, chI_70, (r _ _ (by omega) (by omega)).trans (o _ _ (by omega)), fun l' hl' _ t => ?_⟩
  have el : l' = l := by omega
  subst el
  have e54 : chI (mrM x y a b I) 107 54 = I 107 54 + 1 := by
    rw [chI_ne (by omega)]
    exact en_up_eq _ _ _ _
  have tI : TW l' I := TW_cg (fun p j q => o p j (by omega)) t
  obtain ⟨t1, t2, t3, -⟩ := TW_cg (J := fun p j => if (p = 107 ∧ j = 54) ∨ (144 ≤ p ∧ p ≤ 147) then I p j else chI (mrM x y a b I) p j) (fun p j q => by
    by_cases u : (p = 107 ∧ j = 54) ∨ (144 ≤ p ∧ p ≤ 147)
    · show (if (p = 107 ∧ j = 54) ∨ (144 ≤ p ∧ p ≤ 147) then I p j else chI (mrM x y a b I) p j) = _
      rw [if_pos u]
    · show (if (p = 107 ∧ j = 54) ∨ (144 ≤ p ∧ p ≤ 147) then I p j else chI (mrM x y a b I) p j) = _
      rw [if_neg u]; exact r p j (by omega) (by omega)) tI
  refine ⟨t1, t2, t3, fun k hk => ?_⟩
  rw [e54, ml_in1 (by omega)] at hk
  have e122 : chI (mrM x y a b I) 122 l' = I 122 l' := r _ _ (by omega) (by omega)
  have rw4 : ∀ p v, (p = 144 ∧ v = x) ∨ (p = 145 ∧ v = y) ∨ (p = 146 ∧ v = a) ∨ (p = 147 ∧ v = b) → chI (mrM x y a b I) p k = if k = (I 107 54).toNatClampNeg then v else I p k := fun p v hp => by
    rw [chI_ne (by omega)]
    unfold mrM
    by_cases ci : k = (I 107 54).toNatClampNeg
    · rw [if_pos ci, ← ci]
      rcases hp with ⟨e1, e2⟩ | ⟨e1, e2⟩ | ⟨e1, e2⟩ | ⟨e1, e2⟩ <;> subst e1 <;> subst e2 <;> simp [sm_up]
    · rw [if_neg ci, en_up_ne _ _ _ _ (by omega), en_up_ne _ _ _ _ (by omega), en_up_ne _ _ _ _ (by omega), en_up_ne _ _ _ _ (by omega), en_up_ne _ _ _ _ (by omega)]
  unfold mook
  rw [e122, rw4 144 x (Or.inl ⟨rfl, rfl⟩), rw4 145 y (Or.inr (Or.inl ⟨rfl, rfl⟩)), rw4 146 a (Or.inr (Or.inr (Or.inl ⟨rfl, rfl⟩))), rw4 147 b (Or.inr (Or.inr (Or.inr ⟨rfl, rfl⟩)))]
  by_cases ci : k = (I 107 54).toNatClampNeg
  · simp only [if_pos ci]
    refine ⟨⟨o1.1, by omega⟩, ?_, o3, o4⟩
    rcases o2 with e | e
    · rw [e, show (-1 : Int32).toInt = -1 from by decide]; omega
    · omega
  · simp only [if_neg ci]
    exact tI.2.2.2 k (by omega)
section
variable {S : sm_C} {I : sm_I} {L : sm_L} {R : sm_R} {r : Int32}
theorem bs_doubt {x y : Int32} (hy : y = 0 ∨ y = 1) (I0 : sm_I) (L0 : sm_L) (R0 : sm_R) (hI0 : lw_I I0 L0 R0) (mk : en_mem kl_tb klX (xLay, I, L, R)) (o : ∀ p j, 107 ≤ p → I p j = I0 p j ∧ R p j = R0 p j) (X : XdoubtK x y I0 L0 R0 r I L R) : sm_wp sm_P S (57 + 2) 120 0 [.ref 107, .int x, .int y] [] (xLay, I, L, R) (0, 0) (fun z => ∃ (r' : Int32) (I2 : sm_I) (L2 : sm_L) (R2 : sm_R), z = (some (.int r'), (xLay, I2, L2, R2)) ∧ r = r' ∧ (R 0 9 = R0 0 9 ∧ R 74 4 = R0 74 4) ∧ ZE I0 I2 ∧ ((∀ p j, p < 107 → I2 p j = I p j ∧ R2 p j = R p j) → LJ I2 R2)) := by
  have mm := lw_mk (lw_pk mk) hI0.2.1 o
  obtain ⟨eR, X⟩ := X
  have o1 : ∀ p j, 107 ≤ p → I p j = I0 p j := fun p j q => (o p j q).1
  have eR2 : R 0 9 = R0 0 9 ∧ R 74 4 = R0 74 4 := by rw [eR]; exact ⟨rfl, rfl⟩
  obtain ⟨m0, n0, k⟩ := hI0
  obtain ⟨tp, hd, qt, qi, l, hrf, htd⟩ := k
  have X := X qt hrf.2.2.1
  have hq : qt = 12 ∨ qt = 49 := by have := hrf.1; omega
  obtain ⟨-, -, -, c3, -, c6⟩ := q_cnt hq htd
  have l1 := hrf.2.1
  have b := (q_b l1 mm).2
  have e125 : I 125 l = I0 125 l := (o 125 l (by omega)).1
  have hl : (I 107 18).toInt = l := by rw [(o 107 18 (by omega)).1]; exact hrf.2.2.2.2
  have ok : dbok I0 qt x ↔ (0 ≤ x.toInt ∧ x.toInt < (I 125 l).toInt ∧ I 126 (10 * l + x.toNatClampNeg) = 0) := by
    unfold dbok
    rw [c3, c6, e125, (o 126 _ (by omega)).1]
    rw [e125] at b
    constructor
    · rintro ⟨a1, a2, a3⟩
      have nx := kl_nat a1
      have nn := kl_nat (i := I0 125 l) (by omega)
      exact ⟨a1, a2, (sb_say (f := fun i => I0 126 (10 * l + i)) (n := (I0 125 l).toNatClampNeg) (k := x.toNatClampNeg) (y := x) (by omega) (by omega) (by omega)).mp a3⟩
    · rintro ⟨a1, a2, a3⟩
      have nx := kl_nat a1
      have nn := kl_nat (i := I0 125 l) (by omega)
      exact ⟨a1, a2, (sb_say (f := fun i => I0 126 (10 * l + i)) (n := (I0 125 l).toNatClampNeg) (k := x.toNatClampNeg) (y := x) (by omega) (by omega) (by omega)).mpr a3⟩
  have e : kM R = R := ml_R mm
  have g := yp_doubt (S := S) (d := 57) (L := L) (R := R) (x := x) (y := y) (Φ := fun z => ∃ (r' : Int32) (I2 : sm_I) (L2 : sm_L) (R2 : sm_R), z = (some (.int r'), (xLay, I2, L2, R2)) ∧ r = r' ∧ (R 0 9 = R0 0 9 ∧ R 74 4 = R0 74 4) ∧ ZE I0 I2 ∧ ((∀ p j, p < 107 → I2 p j = I p j ∧ R2 p j = R p j) → LJ I2 R2)) hl l1 b (fun c => ?_) (fun a1 a2 a3 => ?_)
  · rw [e] at g
    exact g
  · rcases X with ⟨x1, -, -⟩ | ⟨-, er, eI⟩
    · exact absurd (ok.mp x1) c
    · subst eI
      exact ⟨_, I, L, _, rfl, er, eR2, Or.inl (fun _ _ => rfl), fun _ => by rw [e, eR]; exact ⟨tp, hd, qt, qi, l, hrf, htd⟩⟩
  · rcases X with ⟨x1, er, eI⟩ | ⟨x1, -, -⟩
    rotate_left
    · exact absurd (ok.mpr ⟨a1, a2, a3⟩) x1
    refine ⟨_, _, L, _, rfl, er, eR2, ze_doubt eI o1, fun _ => ?_⟩
    rw [e, eR]
    have nx := kl_nat a1
    have dk : ∀ p j, ¬ (p = 37 ∧ j = 0) → p ≠ 39 → dbK x y I0 p j = I0 p j := fun p j a b => by
      unfold dbK
      split
      · rw [en_up_ne _ _ _ _ a]
      · rw [en_up_ne _ _ _ _ (by omega), en_up_ne _ _ _ _ a]
    have dm : ∀ p j, p ≠ 137 → p ≠ 160 → dbM x y I p j = I p j := fun p j a b => by
      unfold dbM
      split
      · rw [en_up_ne _ _ _ _ (by omega)]
      · rw [en_up_ne _ _ _ _ (by omega), en_up_ne _ _ _ _ (by omega)]
    have g : ∀ p j, ¬ (p = 37 ∧ j = 0) → p ≠ 39 → p ≠ 137 → p ≠ 160 → ¬ (p = 107 ∧ (j = 70 ∨ j = 79)) → ¬ ((p = 0 ∧ (j = 12 ∨ j = 13)) ∨ (p = 98 ∧ (j = 8 ∨ j = 9)) ∨ (p = 103 ∧ j = 5)) → chI (dbM x y I) p j = I0 p j := fun p j a b c d f f2 => by
      rw [chI_ne f, dm p j c d, eI, stI_ne f2, dk p j a b]
    obtain ⟨h1, h2, h3, h4, h5⟩ := hd
    refine ⟨tpE_cg (I := I0) (fun p j q => g p j (by omega) (by omega) (by omega) (by omega) (by omega) (by omega)) tp, ⟨fun k hk => ?_, fun k hk => ?_, ?_, fun i hi hj => ?_, fun k hk => ?_⟩, qt, qi, l, ⟨hrf.1, hrf.2.1, hrf.2.2.1, hrf.2.2.2.1, ?_⟩, tdE_cg (I := I0) hq (fun p j q => g p j (by omega) (by omega) (by omega) (by omega) (by omega) (by omega)) htd⟩
    · have w1 : chI (dbM x y I) 37 0 = dbK x y I0 37 0 := by rw [chI_ne (by omega), dm _ _ (by omega) (by omega), eI, stI_ne (by omega)]
      have w2 : chI (dbM x y I) 137 k = dbM x y I 137 k := by rw [chI_ne (by omega)]
      have b1 : (I0 125 l).toInt ≤ 10 := by rw [← e125]; exact b.2
      have a2' : x.toInt < 10 := by omega
      have hx : x.toInt = (x.toNatClampNeg : Int) := nx.symm
      have i137 : I 137 k = I0 137 k := (o 137 k (by omega)).1
      rw [w1, w2]
      rcases hy with hy | hy
      · subst hy
        unfold dbK dbM
        rw [if_pos rfl, if_pos rfl, en_up_eq, q_an hx (by omega) (by omega), h1 k hk]
        by_cases c : k = x.toNatClampNeg
        · rw [← c, en_up_eq]; simp; decide
        · rw [en_up_ne _ _ _ _ (by omega), i137]; simp [c]
      · subst hy
        unfold dbK dbM
        rw [if_neg (by decide), if_neg (by decide), en_up_ne _ _ _ _ (by omega), en_up_eq, q_or hx (by omega) (by omega), h1 k hk, en_up_ne _ _ _ _ (by omega)]
        by_cases c : k = x.toNatClampNeg
        · rw [← c, en_up_eq]; simp; decide
        · rw [en_up_ne _ _ _ _ (by omega), i137]; simp [c]
    · rw [g 38 k (by omega) (by omega) (by omega) (by omega) (by omega) (by omega), g 138 k (by omega) (by omega) (by omega) (by omega) (by omega) (by omega)]; exact h2 k hk
    · rw [g 37 1 (by omega) (by omega) (by omega) (by omega) (by omega) (by omega), g 107 54 (by omega) (by omega) (by omega) (by omega) (by omega) (by omega)]; exact h3
    · rw [g 37 1 (by omega) (by omega) (by omega) (by omega) (by omega) (by omega)] at hj
      rw [g 41 i (by omega) (by omega) (by omega) (by omega) (by omega) (by omega), g 42 i (by omega) (by omega) (by omega) (by omega) (by omega) (by omega), g 43 i (by omega) (by omega) (by omega) (by omega) (by omega) (by omega), g 44 i (by omega) (by omega) (by omega) (by omega) (by omega) (by omega), g 144 i (by omega) (by omega) (by omega) (by omega) (by omega) (by omega), g 145 i (by omega) (by omega) (by omega) (by omega) (by omega) (by omega), g 146 i (by omega) (by omega) (by omega) (by omega) (by omega) (by omega), g 147 i (by omega) (by omega) (by omega) (by omega) (by omega) (by omega)]
      exact h4 i hi hj
    · have w1 : chI (dbM x y I) 39 k = dbK x y I0 39 k := by rw [chI_ne (by omega), dm _ _ (by omega) (by omega), eI, stI_ne (by omega)]
      have w2 : chI (dbM x y I) 160 k = dbM x y I 160 k := by rw [chI_ne (by omega)]
      have i160 : I 160 k = I0 160 k := (o 160 k (by omega)).1
      rw [w1, w2]
      unfold dbK dbM
      by_cases c0 : y = 0
      · rw [if_pos c0, if_pos c0, en_up_ne _ _ _ _ (by omega), en_up_ne _ _ _ _ (by omega), i160]; exact h5 k hk
      · rw [if_neg c0, if_neg c0]
        by_cases c : k = x.toNatClampNeg
        · rw [← c, en_up_eq, en_up_eq]
        · rw [en_up_ne _ _ _ _ (by omega), en_up_ne _ _ _ _ (by omega), en_up_ne _ _ _ _ (by omega), en_up_ne _ _ _ _ (by omega), i160]; exact h5 k hk
    · rw [g 107 18 (by omega) (by omega) (by omega) (by omega) (by omega) (by omega)]; exact hrf.2.2.2.2
theorem bs_more {x y a b : Int32} (I0 : sm_I) (L0 : sm_L) (R0 : sm_R) (hI0 : lw_I I0 L0 R0) (mk : en_mem kl_tb klX (xLay, I, L, R)) (o : ∀ p j, 107 ≤ p → I p j = I0 p j ∧ R p j = R0 p j) (X : XmoreK x y a b I0 L0 R0 r I L R) : sm_wp sm_P S (57 + 2) 163 0 [.ref 107, .int x, .int y, .int a, .int b] [] (xLay, I, L, R) (0, 0) (fun z => ∃ (r' : Int32) (I2 : sm_I) (L2 : sm_L) (R2 : sm_R), z = (some (.int r'), (xLay, I2, L2, R2)) ∧ r = r' ∧ (R 0 9 = R0 0 9 ∧ R 74 4 = R0 74 4) ∧ ZE I0 I2 ∧ ((∀ p j, p < 107 → I2 p j = I p j ∧ R2 p j = R p j) → LJ I2 R2)) := by
  have mm := lw_mk (lw_pk mk) hI0.2.1 o
  obtain ⟨eR, X⟩ := X
  have o1 : ∀ p j, 107 ≤ p → I p j = I0 p j := fun p j q => (o p j q).1
  have eR2 : R 0 9 = R0 0 9 ∧ R 74 4 = R0 74 4 := by rw [eR]; exact ⟨rfl, rfl⟩
  obtain ⟨m0, n0, k⟩ := hI0
  obtain ⟨tp, hd, qt, qi, l, hrf, htd⟩ := k
  have X := X qt hrf.2.2.1
  have hq : qt = 12 ∨ qt = 49 := by have := hrf.1; omega
  obtain ⟨-, -, c2, -, -, -⟩ := q_cnt hq htd
  have l1 := hrf.2.1
  have bb := (q_b l1 mm).1
  have e122 : I 122 l = I0 122 l := (o 122 l (by omega)).1
  have hl : (I 107 18).toInt = l := by rw [(o 107 18 (by omega)).1]; exact hrf.2.2.2.2
  obtain ⟨h1, h2, h3, h4, h5⟩ := hd
  have e54 : I 107 54 = I0 107 54 := (o 107 54 (by omega)).1
  have mn : I0 37 1 = I 107 54 := by rw [e54]; exact h3
  have kb := q_k m0
  have nb := kl_nat kb.1
  rw [c2, ← e122, mn] at X
  have e : kM R = R := ml_R mm
  have g := yp_more (S := S) (d := 57) (L := L) (R := R) (x := x) (y := y) (a := a) (b := b) (Φ := fun z => ∃ (r' : Int32) (I2 : sm_I) (L2 : sm_L) (R2 : sm_R), z = (some (.int r'), (xLay, I2, L2, R2)) ∧ r = r' ∧ (R 0 9 = R0 0 9 ∧ R 74 4 = R0 74 4) ∧ ZE I0 I2 ∧ ((∀ p j, p < 107 → I2 p j = I p j ∧ R2 p j = R p j) → LJ I2 R2)) hl l1 bb (q_m mm) (fun c => ?_) (fun a1 => ?_)
  · rw [e] at g
    exact g
  · rcases X with ⟨x1, -, -⟩ | ⟨-, er, eI⟩
    · exact absurd x1 c
    · subst eI
      exact ⟨_, I, L, _, rfl, er, eR2, Or.inl (fun _ _ => rfl), fun _ => by rw [e, eR]; exact ⟨tp, ⟨h1, h2, h3, h4, h5⟩, qt, qi, l, hrf, htd⟩⟩
  · rcases X with ⟨x1, er, eI⟩ | ⟨x1, -, -⟩
    rotate_left
    · exact absurd a1 x1
    refine ⟨_, _, L, _, rfl, er, eR2, ze_more eI o1 (by rw [← o1 107 18 (by omega)]; exact hl) bb (q_m mm).1 a1, fun _ => ?_⟩
    rw [e, eR]
    have m6 : (I 107 54).toInt < 6 := a1.2.2
    have nI : (I 107 54).toNatClampNeg = (I0 37 1).toNatClampNeg := by rw [mn]
    have dk : ∀ p j, ¬ (p = 37 ∧ j = 1) → ¬ (41 ≤ p ∧ p ≤ 44) → mrK x y a b I0 p j = I0 p j := fun p j c d => by
      unfold mrK
      rw [en_up_ne _ _ _ _ c, en_up_ne _ _ _ _ (by omega), en_up_ne _ _ _ _ (by omega), en_up_ne _ _ _ _ (by omega), en_up_ne _ _ _ _ (by omega)]
    have dm : ∀ p j, ¬ (p = 107 ∧ j = 54) → ¬ (144 ≤ p ∧ p ≤ 147) → mrM x y a b I p j = I p j := fun p j c d => by
      unfold mrM
      rw [en_up_ne _ _ _ _ c, en_up_ne _ _ _ _ (by omega), en_up_ne _ _ _ _ (by omega), en_up_ne _ _ _ _ (by omega), en_up_ne _ _ _ _ (by omega)]
    have st : ∀ p j, ¬ (p = 107 ∧ (j = 70 ∨ j = 79)) → ¬ ((p = 0 ∧ (j = 12 ∨ j = 13)) ∨ (p = 98 ∧ (j = 8 ∨ j = 9)) ∨ (p = 103 ∧ j = 5)) → chI (mrM x y a b I) p j = mrM x y a b I p j ∧ I p j = mrK x y a b I0 p j := fun p j c d => ⟨chI_ne c, by rw [eI, stI_ne d]⟩
    have g : ∀ p j, ¬ (p = 107 ∧ (j = 54 ∨ j = 70 ∨ j = 79)) → ¬ ((p = 0 ∧ (j = 12 ∨ j = 13)) ∨ (p = 98 ∧ (j = 8 ∨ j = 9)) ∨ (p = 103 ∧ j = 5)) → ¬ (p = 37 ∧ j = 1) → ¬ (41 ≤ p ∧ p ≤ 44) → ¬ (144 ≤ p ∧ p ≤ 147) → chI (mrM x y a b I) p j = I0 p j := fun p j c d c1 c2 c3 => by
      rw [(st p j (by omega) d).1, dm p j (by omega) c3, (st p j (by omega) d).2, dk p j c1 c2]
    have w1 : chI (mrM x y a b I) 37 1 = I0 37 1 + 1 := by
      rw [(st 37 1 (by omega) (by omega)).1, dm 37 1 (by omega) (by omega), (st 37 1 (by omega) (by omega)).2]
      exact en_up_eq _ _ _ _
    have w2 : chI (mrM x y a b I) 107 54 = I 107 54 + 1 := by
      rw [(st 107 54 (by omega) (by omega)).1]
      exact en_up_eq _ _ _ _
    refine ⟨tpE_cg (I := I0) (fun p j q => g p j (by omega) (by omega) (by omega) (by omega) (by omega)) tp, ⟨fun k hk => ?_, fun k hk => ?_, ?_, fun i hi hj => ?_, fun k hk => ?_⟩, qt, qi, l, ⟨hrf.1, hrf.2.1, hrf.2.2.1, hrf.2.2.2.1, ?_⟩, tdE_cg (I := I0) hq (fun p j q => g p j (by omega) (by omega) (by omega) (by omega) (by omega)) htd⟩
    · rw [g 37 0 (by omega) (by omega) (by omega) (by omega) (by omega), g 137 k (by omega) (by omega) (by omega) (by omega) (by omega)]; exact h1 k hk
    · rw [g 38 k (by omega) (by omega) (by omega) (by omega) (by omega), g 138 k (by omega) (by omega) (by omega) (by omega) (by omega)]; exact h2 k hk
    · rw [w1, w2, mn]
    · rw [w1, ml_in1 (x := I0 37 1) (by omega)] at hj
      have k1 : ∀ p v, (p = 41 ∧ v = x) ∨ (p = 42 ∧ v = y) ∨ (p = 43 ∧ v = a) ∨ (p = 44 ∧ v = b) → chI (mrM x y a b I) p i = if i = (I0 37 1).toNatClampNeg then v else I0 p i := fun p v hp => by
        rw [(st p i (by omega) (by omega)).1, dm p i (by omega) (by omega), (st p i (by omega) (by omega)).2]
        unfold mrK
        by_cases ci : i = (I0 37 1).toNatClampNeg
        · rw [if_pos ci, ← ci]
          rcases hp with ⟨e1, e2⟩ | ⟨e1, e2⟩ | ⟨e1, e2⟩ | ⟨e1, e2⟩ <;> subst e1 <;> subst e2 <;> simp [sm_up]
        · rw [if_neg ci, en_up_ne _ _ _ _ (by omega), en_up_ne _ _ _ _ (by omega), en_up_ne _ _ _ _ (by omega), en_up_ne _ _ _ _ (by omega), en_up_ne _ _ _ _ (by omega)]
      have k2 : ∀ p v, (p = 144 ∧ v = x) ∨ (p = 145 ∧ v = y) ∨ (p = 146 ∧ v = a) ∨ (p = 147 ∧ v = b) → chI (mrM x y a b I) p i = if i = (I0 37 1).toNatClampNeg then v else I0 p i := fun p v hp => by
        rw [(st p i (by omega) (by omega)).1]
        have oi : I p i = I0 p i := (o p i (by omega)).1
        unfold mrM
        rw [nI]
        by_cases ci : i = (I0 37 1).toNatClampNeg
        · rw [if_pos ci, ← ci]
          rcases hp with ⟨e1, e2⟩ | ⟨e1, e2⟩ | ⟨e1, e2⟩ | ⟨e1, e2⟩ <;> subst e1 <;> subst e2 <;> simp [sm_up]
        · rw [if_neg ci, en_up_ne _ _ _ _ (by omega), en_up_ne _ _ _ _ (by omega), en_up_ne _ _ _ _ (by omega), en_up_ne _ _ _ _ (by omega), en_up_ne _ _ _ _ (by omega), oi]
      rw [k1 41 x (Or.inl ⟨rfl, rfl⟩), k1 42 y (Or.inr (Or.inl ⟨rfl, rfl⟩)), k1 43 a (Or.inr (Or.inr (Or.inl ⟨rfl, rfl⟩))), k1 44 b (Or.inr (Or.inr (Or.inr ⟨rfl, rfl⟩))), k2 144 x (Or.inl ⟨rfl, rfl⟩), k2 145 y (Or.inr (Or.inl ⟨rfl, rfl⟩)), k2 146 a (Or.inr (Or.inr (Or.inl ⟨rfl, rfl⟩))), k2 147 b (Or.inr (Or.inr (Or.inr ⟨rfl, rfl⟩)))]
      by_cases ci : i = (I0 37 1).toNatClampNeg
      · simp only [if_pos ci, and_self]
      · simp only [if_neg ci]
        exact h4 i hi (by omega)
    · rw [g 39 k (by omega) (by omega) (by omega) (by omega) (by omega), g 160 k (by omega) (by omega) (by omega) (by omega) (by omega)]; exact h5 k hk
    · rw [g 107 18 (by omega) (by omega) (by omega) (by omega) (by omega)]; exact hrf.2.2.2.2
theorem bs_fewer (I0 : sm_I) (L0 : sm_L) (R0 : sm_R) (hI0 : lw_I I0 L0 R0) (mk : en_mem kl_tb klX (xLay, I, L, R)) (o : ∀ p j, 107 ≤ p → I p j = I0 p j ∧ R p j = R0 p j) (X : XfewerK I0 L0 R0 r I L R) : sm_wp sm_P S (58 + 1) 125 0 [.ref 107] [] (xLay, I, L, R) (0, 0) (fun z => ∃ (r' : Int32) (I2 : sm_I) (L2 : sm_L) (R2 : sm_R), z = (some (.int r'), (xLay, I2, L2, R2)) ∧ r = r' ∧ (R 0 9 = R0 0 9 ∧ R 74 4 = R0 74 4) ∧ ZE I0 I2 ∧ ((∀ p j, p < 107 → I2 p j = I p j ∧ R2 p j = R p j) → LJ I2 R2)) := by
  have mm := lw_mk (lw_pk mk) hI0.2.1 o
  obtain ⟨eR, X⟩ := X
  have o1 : ∀ p j, 107 ≤ p → I p j = I0 p j := fun p j q => (o p j q).1
  have eR2 : R 0 9 = R0 0 9 ∧ R 74 4 = R0 74 4 := by rw [eR]; exact ⟨rfl, rfl⟩
  obtain ⟨m0, n0, k⟩ := hI0
  obtain ⟨tp, hd, qt, qi, l, hrf, htd⟩ := k
  have hq : qt = 12 ∨ qt = 49 := by have := hrf.1; omega
  obtain ⟨h1, h2, h3, h4, h5⟩ := hd
  have e54 : I 107 54 = I0 107 54 := (o 107 54 (by omega)).1
  have mn : I0 37 1 = I 107 54 := by rw [e54]; exact h3
  have kb := q_k m0
  have e : kM R = R := ml_R mm
  have g := yp_fewer (S := S) (d := 58) (L := L) (R := R) (Φ := fun z => ∃ (r' : Int32) (I2 : sm_I) (L2 : sm_L) (R2 : sm_R), z = (some (.int r'), (xLay, I2, L2, R2)) ∧ r = r' ∧ (R 0 9 = R0 0 9 ∧ R 74 4 = R0 74 4) ∧ ZE I0 I2 ∧ ((∀ p j, p < 107 → I2 p j = I p j ∧ R2 p j = R p j) → LJ I2 R2)) (q_m mm).1 (fun c => ?_) (fun c => ?_)
  · rw [e] at g
    exact g
  · rcases X with ⟨x1, -, -⟩ | ⟨-, er, eI⟩
    · rw [mn] at x1
      omega
    · subst eI
      exact ⟨_, I, L, _, rfl, er, eR2, Or.inl (fun _ _ => rfl), fun _ => by rw [e, eR]; exact ⟨tp, ⟨h1, h2, h3, h4, h5⟩, qt, qi, l, hrf, htd⟩⟩
  · rcases X with ⟨x1, er, eI⟩ | ⟨x1, -, -⟩
    rotate_left
    · rw [mn] at x1
      omega
    refine ⟨_, _, L, _, rfl, by rw [er, mn], eR2, ze_fewer eI o1 c, fun _ => ?_⟩
    rw [e, eR]
    have g : ∀ p j, ¬ (p = 107 ∧ (j = 54 ∨ j = 70 ∨ j = 79)) → ¬ ((p = 0 ∧ (j = 12 ∨ j = 13)) ∨ (p = 98 ∧ (j = 8 ∨ j = 9)) ∨ (p = 103 ∧ j = 5)) → ¬ (p = 37 ∧ j = 1) → chI (sm_up I 107 54 (I 107 54 - 1)) p j = I0 p j := fun p j c d c1 => by
      rw [chI_ne (by omega), en_up_ne _ _ _ _ (by omega), eI, stI_ne d, en_up_ne _ _ _ _ c1]
    have w1 : chI (sm_up I 107 54 (I 107 54 - 1)) 37 1 = I0 37 1 - 1 := by
      rw [chI_ne (by omega), en_up_ne _ _ _ _ (by omega), eI, stI_ne (by omega), en_up_eq]
    have w2 : chI (sm_up I 107 54 (I 107 54 - 1)) 107 54 = I 107 54 - 1 := by
      rw [chI_ne (by omega), en_up_eq]
    have s1 : (I0 37 1 - 1).toInt = (I0 37 1).toInt - 1 := by
      rw [Int32.toInt_sub, kl_1]; exact en_bmod (by omega) (by omega) (Or.inl rfl)
    refine ⟨tpE_cg (I := I0) (fun p j q => g p j (by omega) (by omega) (by omega)) tp, ⟨fun k hk => ?_, fun k hk => ?_, ?_, fun i hi hj => ?_, fun k hk => ?_⟩, qt, qi, l, ⟨hrf.1, hrf.2.1, hrf.2.2.1, hrf.2.2.2.1, ?_⟩, tdE_cg (I := I0) hq (fun p j q => g p j (by omega) (by omega) (by omega)) htd⟩
    · rw [g 37 0 (by omega) (by omega) (by omega), g 137 k (by omega) (by omega) (by omega)]; exact h1 k hk
    · rw [g 38 k (by omega) (by omega) (by omega), g 138 k (by omega) (by omega) (by omega)]; exact h2 k hk
    · rw [w1, w2, mn]
    · rw [w1, s1] at hj
      rw [g 41 i (by omega) (by omega) (by omega), g 42 i (by omega) (by omega) (by omega), g 43 i (by omega) (by omega) (by omega), g 44 i (by omega) (by omega) (by omega), g 144 i (by omega) (by omega) (by omega), g 145 i (by omega) (by omega) (by omega), g 146 i (by omega) (by omega) (by omega), g 147 i (by omega) (by omega) (by omega)]
      exact h4 i hi (by omega)
    · rw [g 39 k (by omega) (by omega) (by omega), g 160 k (by omega) (by omega) (by omega)]; exact h5 k hk
    · rw [g 107 18 (by omega) (by omega) (by omega)]; exact hrf.2.2.2.2
end
end
